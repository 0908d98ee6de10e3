/-! BY HAND: HatsOfTheWind.copy -/
section HC
variable {ext : Nat → List Value → hzMem → Option (Option (Option Value × hzMem))}
theorem ha_RT_if {k pc : Nat} {L : List (Option Value)} {st : List Value} {M : hzMem} {b : Nat} {Post : Option Value → hzMem → Prop} {c : Jvm.ClassFile.Cond} {o a : Int} {x y h : Nat} {v : Int32} (hf : hz_fetch k pc = some (.ifCond c o, a, x, y, h)) (k1 : hz_cmp c v 0 = true → ha_RT ext k x L st M b Post) (k2 : hz_cmp c v 0 = false → ha_RT ext k (pc + 3) L st M b Post) : ha_RT ext k pc L (.int v :: st) M b Post := by
  cases hc : hz_cmp c v 0 with
  | true => exact ha_RT_br (pc' := x) (st' := st) hf rfl (by simp only [hz_br, hc, if_true]) (k1 hc)
  | false => exact ha_RT_br (pc' := pc + 3) (st' := st) hf rfl (by simp only [hz_br, hc, Bool.false_eq_true, if_false]) (k2 hc)
theorem ha_RT_ic {k pc : Nat} {L : List (Option Value)} {st : List Value} {M : hzMem} {b : Nat} {Post : Option Value → hzMem → Prop} {c : Jvm.ClassFile.Cond} {o a : Int} {x y h : Nat} {v w : Int32} (hf : hz_fetch k pc = some (.if_icmp c o, a, x, y, h)) (k1 : hz_cmp c v w = true → ha_RT ext k x L st M b Post) (k2 : hz_cmp c v w = false → ha_RT ext k (pc + 3) L st M b Post) : ha_RT ext k pc L (.int w :: .int v :: st) M b Post := by
  cases hc : hz_cmp c v w with
  | true => exact ha_RT_br (pc' := x) (st' := st) hf rfl (by simp only [hz_br, hc, if_true]) (k1 hc)
  | false => exact ha_RT_br (pc' := pc + 3) (st' := st) hf rfl (by simp only [hz_br, hc, Bool.false_eq_true, if_false]) (k2 hc)
abbrev hm_no (ext : Nat → List Value → hzMem → Option (Option (Option Value × hzMem))) : Prop := ∀ (x : Nat) (As : List Value) (M : hzMem) (q : hzN), hzM[x]? = some q → q.2.2.2.2.2.2.2.2.1 ≠ 0 → ext x As M = none
theorem hm_toC (hn : hm_no ext) {x : Nat} {q : hzN} (hq : hzM[x]? = some q) (hz : q.2.2.2.2.2.2.2.2.1 ≠ 0) {n : Nat} {As : List Value} {M : hzMem} {r : Option Value × hzMem} (h : hz_run ext n x 0 (hz_ent q.2.2.1 As) [] M q.2.2.2.2.2.2.2.1 = some r) : ha_C ext n x As M q.2.2.1 q.2.2.2.2.2.2.2.1 = some r := by
  unfold ha_C
  rw [hn x As M q hq hz]
  exact h
theorem hm_rd {M : hzMem} {A c y : Nat} {vs : List Value} {v : Value} (h1 : M[A]? = some (.inr (c, vs))) (h2 : vs[y]? = some v) (i : Nat) (r : List Value) : hz_mem (.getfield i) c y (.ref A :: r) M = some (v :: r, M) := by
  simp [hz_mem, h1, h2]
set_option maxRecDepth 10000 in
theorem hm_in44 (hn : hm_no ext) (x lo hi : Int32) (M : hzMem) : ∃ n v, ha_C ext n 44 [.int x, .int lo, .int hi] M 3 0 = some (some (.int v), M) ∧ (v = Int32.ofInt 1 ∧ lo.toInt ≤ x.toInt ∧ x.toInt ≤ hi.toInt ∨ v = Int32.ofInt 0) := by
  have key : ha_RT ext 44 0 [some (.int x), some (.int lo), some (.int hi)] [] M 0 (fun rv M' => M' = M ∧ ∃ v : Int32, rv = some (.int v) ∧ (v = Int32.ofInt 1 ∧ lo.toInt ≤ x.toInt ∧ x.toInt ≤ hi.toInt ∨ v = Int32.ofInt 0)) := by
    have no : ha_RT ext 44 14 [some (.int x), some (.int lo), some (.int hi)] [] M 0 (fun rv M' => M' = M ∧ ∃ v : Int32, rv = some (.int v) ∧ (v = Int32.ofInt 1 ∧ lo.toInt ≤ x.toInt ∧ x.toInt ≤ hi.toInt ∨ v = Int32.ofInt 0)) := by
      refine ha_RT_sN [15] (pc' := 15) (L' := [some (.int x), some (.int lo), some (.int hi)]) (st' := [.int (Int32.ofInt 0)]) rfl rfl ?_
      exact ha_RT_ret (rv := some (.int (Int32.ofInt 0))) rfl rfl rfl rfl ⟨rfl, _, rfl, Or.inr rfl⟩
    refine ha_RT_sN [1, 2] (pc' := 2) (L' := [some (.int x), some (.int lo), some (.int hi)]) (st' := [.int lo, .int x]) rfl rfl ?_
    refine ha_RT_ic rfl (fun _ => no) (fun h1 => ?_)
    show ha_RT ext 44 5 _ _ _ _ _
    refine ha_RT_sN [6, 7] (pc' := 7) (L' := [some (.int x), some (.int lo), some (.int hi)]) (st' := [.int hi, .int x]) rfl rfl ?_
    refine ha_RT_ic rfl (fun _ => no) (fun h2 => ?_)
    show ha_RT ext 44 10 _ _ _ _ _
    refine ha_RT_sN [11, 15] (pc' := 15) (L' := [some (.int x), some (.int lo), some (.int hi)]) (st' := [.int (Int32.ofInt 1)]) rfl rfl ?_
    simp only [hz_cmp, decide_eq_false_iff_not, Int32.lt_iff_toInt_lt] at h1 h2
    exact ha_RT_ret (rv := some (.int (Int32.ofInt 1))) rfl rfl rfl rfl ⟨rfl, _, rfl, Or.inl ⟨rfl, by omega, by omega⟩⟩
  obtain ⟨n, rv, M', h1, rfl, v, rfl, hv⟩ := key
  exact ⟨n, v, hm_toC hn (q := hzq_44) rfl (by decide) h1, hv⟩
set_option maxRecDepth 10000 in
theorem hm_sh51 (hn : hm_no ext) (d : Int32) (M : hzMem) : ∃ n v, ha_C ext n 51 [.int d] M 1 0 = some (some (.int v), M) ∧ (v = Int32.ofInt 1 ∧ 0 ≤ d.toInt ∧ d.toInt ≤ 7 ∨ v = Int32.ofInt 0) := by
  have key : ha_RT ext 51 0 [some (.int d)] [] M 0 (fun rv M' => M' = M ∧ ∃ v : Int32, rv = some (.int v) ∧ (v = Int32.ofInt 1 ∧ 0 ≤ d.toInt ∧ d.toInt ≤ 7 ∨ v = Int32.ofInt 0)) := by
    refine ha_RT_sN [1, 2, 4] (pc' := 4) (L' := [some (.int d)]) (st' := [.int (Int32.ofInt 7), .int (Int32.ofInt 0), .int d]) rfl rfl ?_
    obtain ⟨n1, v, hc, hv⟩ := hm_in44 hn d (Int32.ofInt 0) (Int32.ofInt 7) M
    refine ha_RT_call (virt := false) (a := 0) (x := 44) (y := 3) rfl rfl (by decide) (q := _) rfl ⟨rfl, Nat.le_refl 3, Nat.zero_le _, Nat.le_refl 0, Nat.le_of_ble_eq_true rfl⟩ hc ?_
    show ha_RT ext 51 7 _ _ _ _ _
    rcases hv with ⟨rfl, h1, h2⟩ | rfl
    · exact ha_RT_ret (rv := some (.int (Int32.ofInt 1))) rfl rfl rfl rfl ⟨rfl, _, rfl, Or.inl ⟨rfl, h1, h2⟩⟩
    · exact ha_RT_ret (rv := some (.int (Int32.ofInt 0))) rfl rfl rfl rfl ⟨rfl, _, rfl, Or.inr rfl⟩
  obtain ⟨n, rv, M', h1, rfl, v, rfl, hv⟩ := key
  exact ⟨n, v, hm_toC hn (q := hzq_51) rfl (by decide) h1, hv⟩
set_option maxRecDepth 10000 in
theorem hm_st174 (hn : hm_no ext) {A : Nat} {vs : List Value} {z : Int32} {M : hzMem} (hM : M[A]? = some (.inr (0, vs))) (h4 : vs[4]? = some (.int z)) (z0 : 0 ≤ z.toInt) (z1 : z.toInt ≤ 100) (i n : Int32) : ∃ m v, ha_C ext m 174 [.ref A, .int i, .int n] M 3 0 = some (some (.int v), M) ∧ (v = Int32.ofInt 1 ∧ 0 ≤ n.toInt ∧ 0 ≤ i.toInt ∧ i.toInt + n.toInt ≤ z.toInt ∨ v = Int32.ofInt 0) := by
  have key : ha_RT ext 174 0 [some (.ref A), some (.int i), some (.int n)] [] M 0 (fun rv M' => M' = M ∧ ∃ v : Int32, rv = some (.int v) ∧ (v = Int32.ofInt 1 ∧ 0 ≤ n.toInt ∧ 0 ≤ i.toInt ∧ i.toInt + n.toInt ≤ z.toInt ∨ v = Int32.ofInt 0)) := by
    have no : ha_RT ext 174 22 [some (.ref A), some (.int i), some (.int n)] [] M 0 (fun rv M' => M' = M ∧ ∃ v : Int32, rv = some (.int v) ∧ (v = Int32.ofInt 1 ∧ 0 ≤ n.toInt ∧ 0 ≤ i.toInt ∧ i.toInt + n.toInt ≤ z.toInt ∨ v = Int32.ofInt 0)) := by
      refine ha_RT_sN [23] (pc' := 23) (L' := [some (.ref A), some (.int i), some (.int n)]) (st' := [.int (Int32.ofInt 0)]) rfl rfl ?_
      exact ha_RT_ret (rv := some (.int (Int32.ofInt 0))) rfl rfl rfl rfl ⟨rfl, _, rfl, Or.inr rfl⟩
    refine ha_RT_sN [1] (pc' := 1) (L' := [some (.ref A), some (.int i), some (.int n)]) (st' := [.int n]) rfl rfl ?_
    refine ha_RT_if rfl (fun _ => no) (fun h1 => ?_)
    show ha_RT ext 174 4 _ _ _ _ _
    refine ha_RT_sN [5] (pc' := 5) (L' := [some (.ref A), some (.int i), some (.int n)]) (st' := [.int i]) rfl rfl ?_
    refine ha_RT_if rfl (fun _ => no) (fun h2 => ?_)
    show ha_RT ext 174 8 _ _ _ _ _
    refine ha_RT_sN [9, 10] (pc' := 10) (L' := [some (.ref A), some (.int i), some (.int n)]) (st' := [.ref A, .int i]) rfl rfl ?_
    refine ha_RT_mem rfl rfl (hm_rd hM h4 _ _) ?_
    show ha_RT ext 174 13 _ _ _ _ _
    refine ha_RT_sN [14, 15] (pc' := 15) (L' := [some (.ref A), some (.int i), some (.int n)]) (st' := [.int (z - n), .int i]) rfl rfl ?_
    refine ha_RT_ic rfl (fun _ => no) (fun h3 => ?_)
    show ha_RT ext 174 18 _ _ _ _ _
    refine ha_RT_sN [19, 23] (pc' := 23) (L' := [some (.ref A), some (.int i), some (.int n)]) (st' := [.int (Int32.ofInt 1)]) rfl rfl ?_
    simp only [hz_cmp, decide_eq_false_iff_not, Int32.lt_iff_toInt_lt, show (0 : Int32).toInt = 0 from rfl] at h1 h2 h3
    have hs : (z - n).toInt = z.toInt - n.toInt := by
      have := ha_rng n
      unfold ha_hi at this
      rw [Int32.toInt_sub]
      exact ha_bm (by unfold ha_lo; omega) (by unfold ha_hi; omega)
    rw [hs] at h3
    exact ha_RT_ret (rv := some (.int (Int32.ofInt 1))) rfl rfl rfl rfl ⟨rfl, _, rfl, Or.inl ⟨rfl, by omega, by omega, by omega⟩⟩
  obtain ⟨n, rv, M', h1, rfl, v, rfl, hv⟩ := key
  exact ⟨n, v, hm_toC hn (q := hzq_174) rfl (by decide) h1, hv⟩
theorem hm_Wsh : ∀ k : Nat, k < 8 → hw_W[29 + 2 * k]? = some (.inl (0, [.inl (0, 2), .inl ((-2147483648), 2147483647), .inl ((-2147483648), 2147483647), .inl (0, 2), .inl (0, 100), .inr (30 + 2 * k)])) ∧ hw_W[30 + 2 * k]? = some (.inr (.inl (100, ((-2147483648), 2147483647), []))) := by
  intro k hk
  match k, hk with
  | 0, _ => exact ⟨rfl, rfl⟩
  | 1, _ => exact ⟨rfl, rfl⟩
  | 2, _ => exact ⟨rfl, rfl⟩
  | 3, _ => exact ⟨rfl, rfl⟩
  | 4, _ => exact ⟨rfl, rfl⟩
  | 5, _ => exact ⟨rfl, rfl⟩
  | 6, _ => exact ⟨rfl, rfl⟩
  | 7, _ => exact ⟨rfl, rfl⟩
  | k + 8, h => exact absurd h (by omega)
/-- a shelf, read -/
theorem hm_shelf {M : hzMem} (hi : ha_inv hw_W M) {k : Nat} (hk : k < 8) : ∃ (vs : List Value) (h s z : Int32) (f : Nat → Int32), M[29 + 2 * k]? = some (.inr (0, vs)) ∧ vs[0]? = some (.int h) ∧ vs[3]? = some (.int s) ∧ vs[4]? = some (.int z) ∧ 0 ≤ z.toInt ∧ z.toInt ≤ 100 ∧ vs[5]? = some (.ref (30 + 2 * k)) ∧ M[30 + 2 * k]? = some (.inl (0, 100, .inl f)) := by
  obtain ⟨w1, w2⟩ := hm_Wsh k hk
  obtain ⟨e, hM, hs⟩ := hi _ _ w1
  obtain ⟨e2, hM2, hs2⟩ := hi _ _ w2
  match e, hM, hs, e2, hM2, hs2 with
  | .inr (c, vs), hM, hs, .inl (t, n', .inl f), hM2, hs2 =>
    obtain ⟨rfl, h1, h2⟩ := hs
    obtain ⟨rfl, rfl, _⟩ := hs2
    have h1 : vs.length = 6 := h1
    have g : ∀ y : Nat, (hy : y < 6) → vs[y]? = some (vs[y]'(by omega)) := fun y hy => List.getElem?_eq_getElem (by omega)
    obtain ⟨h, eh, _⟩ := h2 0 _ _ rfl (g 0 (by omega))
    obtain ⟨s, es, _⟩ := h2 3 _ _ rfl (g 3 (by omega))
    obtain ⟨z, ez, z0, z1⟩ := h2 4 _ _ rfl (g 4 (by omega))
    have e5 := h2 5 _ _ rfl (g 5 (by omega))
    exact ⟨vs, h, s, z, f, hM, by rw [g 0 (by omega), eh], by rw [g 3 (by omega), es], by rw [g 4 (by omega), ez], z0, z1, by rw [g 5 (by omega), show vs[5]'(by omega) = _ from e5], hM2⟩
  | .inl _, _, hs, _, _, _ => exact hs.elim
  | .inr _, _, _, .inr _, _, hs2 => exact hs2.elim
  | .inr _, _, _, .inl (_, _, .inr _), _, hs2 => exact hs2.elim
end HC
section HC2
variable {ext : Nat → List Value → hzMem → Option (Option (Option Value × hzMem))}
theorem hm_args6 {As : List Value} {r : Nat} {q1 q2 q3 q4 q5 : Int × Int} (h : ha_argsC [.inr (.inl r), .inl q1, .inl q2, .inl q3, .inl q4, .inl q5] As) : ∃ a b c d e : Int32, As = [.ref r, .int a, .int b, .int c, .int d, .int e] := by
  match As, h with
  | [w, x1, x2, x3, x4, x5], h =>
    obtain ⟨h0, ⟨a, rfl, _⟩, ⟨b, rfl, _⟩, ⟨c, rfl, _⟩, ⟨d, rfl, _⟩, ⟨e, rfl, _⟩, _⟩ := h
    exact ⟨a, b, c, d, e, by rw [show w = .ref r from h0]⟩
  | [], h => exact h.elim
  | [_], h => exact h.2.elim
  | [_, _], h => exact h.2.2.elim
  | [_, _, _], h => exact h.2.2.2.elim
  | [_, _, _, _], h => exact h.2.2.2.2.elim
  | [_, _, _, _, _], h => exact h.2.2.2.2.2.elim
  | _ :: _ :: _ :: _ :: _ :: _ :: _ :: _, h => exact h.2.2.2.2.2.2.elim
abbrev hm_Wc : List Nat := [29, 30, 31, 32, 33, 34, 35, 36, 37, 38, 39, 40, 41, 42, 43, 44]
abbrev hm_Y5 : ha_Y := (41, [.inr (.inl 0), .inl ((-2147483648), 2147483647), .inl ((-2147483648), 2147483647), .inl ((-2147483648), 2147483647), .inl ((-2147483648), 2147483647), .inl ((-2147483648), 2147483647)], some (.inl ((-2147483648), 2147483647)), hm_Wc)
abbrev hm_Lc (d i e j n : Int32) (x y : Option Value) : List (Option Value) := [some (.ref 0), some (.int d), some (.int i), some (.int e), some (.int j), some (.int n), x, y]
theorem hm_Wcm : ∀ k : Nat, k < 8 → 30 + 2 * k ∈ hm_Wc := by decide
/-- the shelves' row -/
theorem hm_row {M : hzMem} (hi : ha_inv hw_W M) : ∃ f : Nat → Option Nat, M[28]? = some (.inl (2, 8, .inr (.inr (.inr (.inr f))))) ∧ ∀ k : Nat, k < 8 → f k = some (29 + 2 * k) := by
  obtain ⟨e, hM, hs⟩ := hi 28 (.inr (.inr [29, 31, 33, 35, 37, 39, 41, 43])) rfl
  match e, hM, hs with
  | .inl (t, n', .inr (.inr (.inr (.inr f)))), hM, hs =>
    obtain ⟨rfl, h1, h2⟩ := hs
    have h1 : n' = 8 := h1
    subst h1
    refine ⟨f, hM, fun k hk => h2 k _ ?_⟩
    have : ∀ k : Nat, k < 8 → [29, 31, 33, 35, 37, 39, 41, 43][k]? = some (29 + 2 * k) := by decide
    exact this k hk
  | .inr _, _, hs => exact hs.elim
  | .inl (_, _, .inl _), _, hs => exact hs.elim
  | .inl (_, _, .inr (.inl _)), _, hs => exact hs.elim
  | .inl (_, _, .inr (.inr (.inl _))), _, hs => exact hs.elim
  | .inl (_, _, .inr (.inr (.inr (.inl _)))), _, hs => exact hs.elim
theorem hm_fld4 {M : hzMem} (hi : ha_inv hw_W M) : ∃ vs, M[0]? = some (.inr (2, vs)) ∧ vs[4]? = some (.ref 28) := by
  obtain ⟨e, hM, hs⟩ := hi 0 _ rfl
  match e, hM, hs with
  | .inr (c, vs), hM, hs =>
    obtain ⟨rfl, h1, h2⟩ := hs
    have h1 : vs.length = 7 := h1
    have g : vs[4]? = some (vs[4]'(by omega)) := List.getElem?_eq_getElem (by omega)
    have := h2 4 _ _ rfl g
    exact ⟨vs, hM, by rw [g, show vs[4]'(by omega) = _ from this]⟩
  | .inl _, _, hs => exact hs.elim
theorem hm_aal {M : hzMem} {f : Nat → Option Nat} (hR : M[28]? = some (.inl (2, 8, .inr (.inr (.inr (.inr f)))))) (hf : ∀ k : Nat, k < 8 → f k = some (29 + 2 * k)) {d : Int32} (d0 : 0 ≤ d.toInt) (d7 : d.toInt ≤ 7) (x y : Nat) (r : List Value) : hz_mem .aaload x y (.int d :: .ref 28 :: r) M = some (.ref (29 + 2 * d.toNatClampNeg) :: r, M) := by
  have : d.toNatClampNeg < 8 := by show d.toInt.toNat < 8; omega
  simp only [hz_mem, hR, ha_itv_in (x := d) (n := 8) (by omega) (by omega), and_self, if_true, hf _ this, Option.map_some]
set_option maxHeartbeats 4000000 in
set_option maxRecDepth 10000 in
/-- HatsOfTheWind.copy -/
theorem hm_v5 (hn : hm_no ext) : ha_val ext hw_W hm_Y5 := by
  intro As M hA hi q hq
  obtain ⟨d, i, e, j, n, rfl⟩ := hm_args6 hA
  cases hq
  obtain ⟨f, hR, hf⟩ := hm_row hi
  obtain ⟨v0, hO, h4⟩ := hm_fld4 hi
  have fin : ∀ (z : Int32) (x y : Option Value) (pc : Nat), hz_fetch 41 pc = some (.ireturn, 0, 0, 0, 0) → ha_RT ext 41 pc (hm_Lc d i e j n x y) [.int z] M 0 (fun rv M' => (∃ w : Int32, rv = some (.int w)) ∧ ha_wok hw_W hm_Wc M M') :=
    fun z x y pc hpc => ha_RT_ret (rv := some (.int z)) hpc rfl (q := hzq_41) rfl rfl ⟨⟨z, rfl⟩, hi, rfl, fun _ _ => rfl⟩
  have key : ha_RT ext 41 0 (hm_Lc d i e j n none none) [] M 0 (fun rv M' => (∃ w : Int32, rv = some (.int w)) ∧ ha_wok hw_W hm_Wc M M') := by
    have n14 : ha_RT ext 41 14 (hm_Lc d i e j n none none) [] M 0 (fun rv M' => (∃ w : Int32, rv = some (.int w)) ∧ ha_wok hw_W hm_Wc M M') :=
      ha_RT_sN [15] (pc' := 15) (L' := hm_Lc d i e j n none none) (st' := [.int (Int32.ofInt (-1))]) rfl rfl (fin _ _ _ _ rfl)
    refine ha_RT_sN [1] (pc' := 1) (L' := hm_Lc d i e j n none none) (st' := [.int d]) rfl rfl ?_
    obtain ⟨n1, u1, hc1, hv1⟩ := hm_sh51 hn d M
    refine ha_RT_call (virt := false) (a := 0) (x := 51) (y := 1) rfl rfl (by decide) (q := _) rfl ⟨rfl, Nat.le_refl 1, Nat.zero_le _, Nat.le_refl 0, Nat.le_of_ble_eq_true rfl⟩ hc1 ?_
    show ha_RT ext 41 4 _ [.int u1] _ _ _
    rcases hv1 with ⟨rfl, d0, d7⟩ | rfl
    case inr => exact ha_RT_br (pc' := 14) (st' := []) rfl rfl rfl n14
    refine ha_RT_br (pc' := 7) (st' := []) rfl rfl rfl ?_
    refine ha_RT_sN [8] (pc' := 8) (L' := hm_Lc d i e j n none none) (st' := [.int e]) rfl rfl ?_
    obtain ⟨n2, u2, hc2, hv2⟩ := hm_sh51 hn e M
    refine ha_RT_call (virt := false) (a := 0) (x := 51) (y := 1) rfl rfl (by decide) (q := _) rfl ⟨rfl, Nat.le_refl 1, Nat.zero_le _, Nat.le_refl 0, Nat.le_of_ble_eq_true rfl⟩ hc2 ?_
    show ha_RT ext 41 11 _ [.int u2] _ _ _
    rcases hv2 with ⟨rfl, e0, e7⟩ | rfl
    case inr => exact ha_RT_br (pc' := 14) (st' := []) rfl rfl rfl n14
    refine ha_RT_br (pc' := 16) (st' := []) rfl rfl rfl ?_
    refine ha_RT_sN [17] (pc' := 17) (L' := hm_Lc d i e j n none none) (st' := [.ref 0]) rfl rfl ?_
    refine ha_RT_mem rfl rfl (hm_rd hO h4 _ _) ?_
    show ha_RT ext 41 20 _ _ _ _ _
    refine ha_RT_sN [21] (pc' := 21) (L' := hm_Lc d i e j n none none) (st' := [.int d, .ref 28]) rfl rfl ?_
    refine ha_RT_mem rfl rfl (hm_aal hR hf d0 d7 _ _ _) ?_
    show ha_RT ext 41 22 _ _ _ _ _
    have kd : d.toNatClampNeg < 8 := by show d.toInt.toNat < 8; omega
    have ke : e.toNatClampNeg < 8 := by show e.toInt.toNat < 8; omega
    generalize hA : 29 + 2 * d.toNatClampNeg = A
    generalize hB : 29 + 2 * e.toNatClampNeg = B
    obtain ⟨va, ah, as, az, fa, aM, a0, a3, a4, az0, az1, a5, aF⟩ := hm_shelf hi kd
    obtain ⟨vb, bh, bs, bz, fb, bM, b0, b3, b4, bz0, bz1, b5, bF⟩ := hm_shelf hi ke
    rw [hA] at aM
    rw [hB] at bM
    refine ha_RT_sN [24, 25] (pc' := 25) (L' := hm_Lc d i e j n (some (.ref A)) none) (st' := [.ref 0]) rfl rfl ?_
    refine ha_RT_mem rfl rfl (hm_rd hO h4 _ _) ?_
    show ha_RT ext 41 28 _ _ _ _ _
    refine ha_RT_sN [29] (pc' := 29) (L' := hm_Lc d i e j n (some (.ref A)) none) (st' := [.int e, .ref 28]) rfl rfl ?_
    refine ha_RT_mem rfl rfl (hm_aal hR hf e0 e7 _ _ _) ?_
    rw [hB]
    show ha_RT ext 41 30 _ _ _ _ _
    have n48 : ha_RT ext 41 48 (hm_Lc d i e j n (some (.ref A)) (some (.ref B))) [] M 0 (fun rv M' => (∃ w : Int32, rv = some (.int w)) ∧ ha_wok hw_W hm_Wc M M') :=
      ha_RT_sN [50] (pc' := 50) (L' := hm_Lc d i e j n (some (.ref A)) (some (.ref B))) (st' := [.int (Int32.ofInt (-11))]) rfl rfl (fin _ _ _ _ rfl)
    have n82 : ha_RT ext 41 82 (hm_Lc d i e j n (some (.ref A)) (some (.ref B))) [] M 0 (fun rv M' => (∃ w : Int32, rv = some (.int w)) ∧ ha_wok hw_W hm_Wc M M') :=
      ha_RT_sN [84] (pc' := 84) (L' := hm_Lc d i e j n (some (.ref A)) (some (.ref B))) (st' := [.int (Int32.ofInt (-12))]) rfl rfl (fin _ _ _ _ rfl)
    have n108 : ha_RT ext 41 108 (hm_Lc d i e j n (some (.ref A)) (some (.ref B))) [] M 0 (fun rv M' => (∃ w : Int32, rv = some (.int w)) ∧ ha_wok hw_W hm_Wc M M') :=
      ha_RT_sN [110] (pc' := 110) (L' := hm_Lc d i e j n (some (.ref A)) (some (.ref B))) (st' := [.int (Int32.ofInt (-13))]) rfl rfl (fin _ _ _ _ rfl)
    refine ha_RT_sN [32, 34] (pc' := 34) (L' := hm_Lc d i e j n (some (.ref A)) (some (.ref B))) (st' := [.ref A]) rfl rfl ?_
    refine ha_RT_mem rfl rfl (hm_rd aM a0 _ _) ?_
    show ha_RT ext 41 37 _ _ _ _ _
    refine ha_RT_if rfl (fun _ => n48) (fun _ => ?_)
    show ha_RT ext 41 40 _ _ _ _ _
    refine ha_RT_sN [42] (pc' := 42) (L' := hm_Lc d i e j n (some (.ref A)) (some (.ref B))) (st' := [.ref B]) rfl rfl ?_
    refine ha_RT_mem rfl rfl (hm_rd bM b0 _ _) ?_
    show ha_RT ext 41 45 _ _ _ _ _
    refine ha_RT_if rfl (fun _ => ?_) (fun _ => n48)
    show ha_RT ext 41 51 _ _ _ _ _
    refine ha_RT_sN [53] (pc' := 53) (L' := hm_Lc d i e j n (some (.ref A)) (some (.ref B))) (st' := [.ref A]) rfl rfl ?_
    refine ha_RT_mem rfl rfl (hm_rd aM a0 _ _) ?_
    show ha_RT ext 41 56 _ _ _ _ _
    refine ha_RT_sN [57] (pc' := 57) (L' := hm_Lc d i e j n (some (.ref A)) (some (.ref B))) (st' := [.int (Int32.ofInt 2), .int ah]) rfl rfl ?_
    refine ha_RT_ic rfl (fun _ => n82) (fun _ => ?_)
    show ha_RT ext 41 60 _ _ _ _ _
    refine ha_RT_sN [62] (pc' := 62) (L' := hm_Lc d i e j n (some (.ref A)) (some (.ref B))) (st' := [.ref B]) rfl rfl ?_
    refine ha_RT_mem rfl rfl (hm_rd bM b0 _ _) ?_
    show ha_RT ext 41 65 _ _ _ _ _
    refine ha_RT_sN [66] (pc' := 66) (L' := hm_Lc d i e j n (some (.ref A)) (some (.ref B))) (st' := [.int (Int32.ofInt 2), .int bh]) rfl rfl ?_
    refine ha_RT_ic rfl (fun _ => n82) (fun _ => ?_)
    show ha_RT ext 41 69 _ _ _ _ _
    refine ha_RT_sN [71] (pc' := 71) (L' := hm_Lc d i e j n (some (.ref A)) (some (.ref B))) (st' := [.ref A]) rfl rfl ?_
    refine ha_RT_mem rfl rfl (hm_rd aM a3 _ _) ?_
    show ha_RT ext 41 74 _ _ _ _ _
    refine ha_RT_sN [76] (pc' := 76) (L' := hm_Lc d i e j n (some (.ref A)) (some (.ref B))) (st' := [.ref B, .int as]) rfl rfl ?_
    refine ha_RT_mem rfl rfl (hm_rd bM b3 _ _) ?_
    show ha_RT ext 41 79 _ _ _ _ _
    refine ha_RT_ic rfl (fun _ => ?_) (fun _ => n82)
    show ha_RT ext 41 85 _ _ _ _ _
    refine ha_RT_sN [87, 88, 90] (pc' := 90) (L' := hm_Lc d i e j n (some (.ref A)) (some (.ref B))) (st' := [.int n, .int i, .ref A]) rfl rfl ?_
    obtain ⟨n3, u3, hc3, hv3⟩ := hm_st174 hn aM a4 az0 az1 i n
    refine ha_RT_call (virt := true) (a := 0) (x := 174) (y := 3) rfl rfl (by decide) (q := _) rfl ⟨by
      show hz_rcv 0 [.ref A, .int i, .int n] M = true
      simp [hz_rcv, aM], Nat.le_refl 3, Nat.zero_le _, Nat.le_refl 0, Nat.le_of_ble_eq_true rfl⟩ hc3 ?_
    show ha_RT ext 41 93 _ [.int u3] _ _ _
    rcases hv3 with ⟨rfl, i1, i2, i3⟩ | rfl
    case inr => exact ha_RT_br (pc' := 108) (st' := []) rfl rfl rfl n108
    refine ha_RT_br (pc' := 96) (st' := []) rfl rfl rfl ?_
    refine ha_RT_sN [98, 100, 102] (pc' := 102) (L' := hm_Lc d i e j n (some (.ref A)) (some (.ref B))) (st' := [.int n, .int j, .ref B]) rfl rfl ?_
    obtain ⟨n4, u4, hc4, hv4⟩ := hm_st174 hn bM b4 bz0 bz1 j n
    refine ha_RT_call (virt := true) (a := 0) (x := 174) (y := 3) rfl rfl (by decide) (q := _) rfl ⟨by
      show hz_rcv 0 [.ref B, .int j, .int n] M = true
      simp [hz_rcv, bM], Nat.le_refl 3, Nat.zero_le _, Nat.le_refl 0, Nat.le_of_ble_eq_true rfl⟩ hc4 ?_
    show ha_RT ext 41 105 _ [.int u4] _ _ _
    rcases hv4 with ⟨rfl, j1, j2, j3⟩ | rfl
    case inr => exact ha_RT_br (pc' := 108) (st' := []) rfl rfl rfl n108
    refine ha_RT_br (pc' := 111) (st' := []) rfl rfl rfl ?_
    refine ha_RT_sN [113] (pc' := 113) (L' := hm_Lc d i e j n (some (.ref A)) (some (.ref B))) (st' := [.ref A]) rfl rfl ?_
    refine ha_RT_mem rfl rfl (hm_rd aM a5 _ _) ?_
    show ha_RT ext 41 116 _ _ _ _ _
    generalize hA' : 30 + 2 * d.toNatClampNeg = A' at aF
    refine ha_RT_sN [117, 119] (pc' := 119) (L' := hm_Lc d i e j n (some (.ref A)) (some (.ref B))) (st' := [.ref B, .int i, .ref A']) rfl rfl ?_
    refine ha_RT_mem rfl rfl (hm_rd bM b5 _ _) ?_
    show ha_RT ext 41 122 _ _ _ _ _
    generalize hB' : 30 + 2 * e.toNatClampNeg = B' at bF
    refine ha_RT_sN [124, 126] (pc' := 126) (L' := hm_Lc d i e j n (some (.ref A)) (some (.ref B))) (st' := [.int n, .int j, .ref B', .int i, .ref A']) rfl rfl ?_
    have nn : ∀ z : Int32, 0 ≤ z.toInt → ¬ z < 0 := fun z hz => by
      rw [Int32.lt_iff_toInt_lt, show (0 : Int32).toInt = 0 from rfl]
      omega
    have tn : ∀ z : Int32, z.toNatClampNeg = z.toInt.toNat := fun _ => rfl
    refine ha_RT_acp (M1 := M.set B' (.inl (0, 100, .inl (va_cpy fa fb i.toNatClampNeg j.toNatClampNeg n.toNatClampNeg)))) (st' := []) rfl (Or.inr rfl) rfl ?_ ?_
    · simp only [hz_acp, aF, bF]
      rw [if_pos]
      exact ⟨by trivial, by trivial, nn _ i2, nn _ j2, nn _ i1, by rw [tn, tn]; omega, by rw [tn, tn]; omega, by decide⟩
    · show ha_RT ext 41 129 _ _ _ _ _
      refine ha_RT_sN [131] (pc' := 131) (L' := hm_Lc d i e j n (some (.ref A)) (some (.ref B))) (st' := [.int n]) rfl rfl ?_
      refine ha_RT_ret (rv := some (.int n)) rfl rfl rfl rfl ⟨⟨n, rfl⟩, ?_⟩
      refine ha_wok_set (⟨hi, rfl, fun _ _ => rfl⟩) bF (by rw [← hB']; exact hm_Wcm _ ke) (fun sh hsh => ?_)
      rw [← hB', (hm_Wsh _ ke).2] at hsh
      cases hsh
      exact ⟨rfl, rfl, fun _ _ => ha_rng _⟩
  obtain ⟨m, rv, M', h1, ⟨w, rfl⟩, hw⟩ := key
  exact ⟨m, some (.int w), M', hm_toC hn (q := hzq_41) rfl (by decide) h1, ⟨w, rfl, (ha_rng w).1, (ha_rng w).2⟩, hw⟩
end HC2
