/-! BY HAND: the reference's copy -/
section HD
variable {ext : Nat → List Value → hzMem → Option (Option (Option Value × hzMem))}
set_option maxRecDepth 10000 in
theorem hm_in70 (hn : hm_no ext) (x lo hi : Int32) (M : hzMem) : ∃ n v, ha_C ext n 70 [.int x, .int lo, .int hi] M 3 0 = some (some (.int v), M) ∧ (v = Int32.ofInt 1 ∧ lo.toInt ≤ x.toInt ∧ x.toInt ≤ hi.toInt ∨ v = Int32.ofInt 0) := by
  have key : ha_RT ext 70 0 [some (.int x), some (.int lo), some (.int hi)] [] M 0 (fun rv M' => M' = M ∧ ∃ v : Int32, rv = some (.int v) ∧ (v = Int32.ofInt 1 ∧ lo.toInt ≤ x.toInt ∧ x.toInt ≤ hi.toInt ∨ v = Int32.ofInt 0)) := by
    have no : ha_RT ext 70 14 [some (.int x), some (.int lo), some (.int hi)] [] M 0 (fun rv M' => M' = M ∧ ∃ v : Int32, rv = some (.int v) ∧ (v = Int32.ofInt 1 ∧ lo.toInt ≤ x.toInt ∧ x.toInt ≤ hi.toInt ∨ v = Int32.ofInt 0)) := by
      refine ha_RT_sN [15] (pc' := 15) (L' := [some (.int x), some (.int lo), some (.int hi)]) (st' := [.int (Int32.ofInt 0)]) rfl rfl ?_
      exact ha_RT_ret (rv := some (.int (Int32.ofInt 0))) rfl rfl rfl rfl ⟨rfl, _, rfl, Or.inr rfl⟩
    refine ha_RT_sN [1, 2] (pc' := 2) (L' := [some (.int x), some (.int lo), some (.int hi)]) (st' := [.int lo, .int x]) rfl rfl ?_
    refine ha_RT_ic rfl (fun _ => no) (fun h1 => ?_)
    show ha_RT ext 70 5 _ _ _ _ _
    refine ha_RT_sN [6, 7] (pc' := 7) (L' := [some (.int x), some (.int lo), some (.int hi)]) (st' := [.int hi, .int x]) rfl rfl ?_
    refine ha_RT_ic rfl (fun _ => no) (fun h2 => ?_)
    show ha_RT ext 70 10 _ _ _ _ _
    refine ha_RT_sN [11, 15] (pc' := 15) (L' := [some (.int x), some (.int lo), some (.int hi)]) (st' := [.int (Int32.ofInt 1)]) rfl rfl ?_
    simp only [hz_cmp, decide_eq_false_iff_not, Int32.lt_iff_toInt_lt] at h1 h2
    exact ha_RT_ret (rv := some (.int (Int32.ofInt 1))) rfl rfl rfl rfl ⟨rfl, _, rfl, Or.inl ⟨rfl, by omega, by omega⟩⟩
  obtain ⟨n, rv, M', h1, rfl, v, rfl, hv⟩ := key
  exact ⟨n, v, hm_toC hn (q := hzq_70) rfl (by decide) h1, hv⟩
set_option maxRecDepth 10000 in
theorem hm_sh157 (hn : hm_no ext) (d : Int32) (M : hzMem) : ∃ n v, ha_C ext n 157 [.int d] M 1 0 = some (some (.int v), M) ∧ (v = Int32.ofInt 1 ∧ 0 ≤ d.toInt ∧ d.toInt ≤ 7 ∨ v = Int32.ofInt 0) := by
  have key : ha_RT ext 157 0 [some (.int d)] [] M 0 (fun rv M' => M' = M ∧ ∃ v : Int32, rv = some (.int v) ∧ (v = Int32.ofInt 1 ∧ 0 ≤ d.toInt ∧ d.toInt ≤ 7 ∨ v = Int32.ofInt 0)) := by
    refine ha_RT_sN [1, 2, 4] (pc' := 4) (L' := [some (.int d)]) (st' := [.int (Int32.ofInt 7), .int (Int32.ofInt 0), .int d]) rfl rfl ?_
    obtain ⟨n1, v, hc, hv⟩ := hm_in70 hn d (Int32.ofInt 0) (Int32.ofInt 7) M
    refine ha_RT_call (virt := false) (a := 0) (x := 70) (y := 3) rfl rfl (by decide) (q := _) rfl ⟨rfl, Nat.le_refl 3, Nat.zero_le _, Nat.le_refl 0, Nat.le_of_ble_eq_true rfl⟩ hc ?_
    show ha_RT ext 157 7 _ _ _ _ _
    rcases hv with ⟨rfl, h1, h2⟩ | rfl
    · exact ha_RT_ret (rv := some (.int (Int32.ofInt 1))) rfl rfl rfl rfl ⟨rfl, _, rfl, Or.inl ⟨rfl, h1, h2⟩⟩
    · exact ha_RT_ret (rv := some (.int (Int32.ofInt 0))) rfl rfl rfl rfl ⟨rfl, _, rfl, Or.inr rfl⟩
  obtain ⟨n, rv, M', h1, rfl, v, rfl, hv⟩ := key
  exact ⟨n, v, hm_toC hn (q := hzq_157) rfl (by decide) h1, hv⟩
/-- a row of ints, read -/
theorem hm_ints {M : hzMem} (hi : ha_inv hw_W M) {k n : Nat} {q : Int × Int} (hW : hw_W[k]? = some (.inr (.inl (n, q, [])))) : ∃ f : Nat → Int32, M[k]? = some (.inl (0, n, .inl f)) ∧ ∀ j : Nat, j < n → q.1 ≤ (f j).toInt ∧ (f j).toInt ≤ q.2 := by
  obtain ⟨e, hM, hs⟩ := hi k _ hW
  match e, hM, hs with
  | .inl (t, n', .inl f), hM, hs =>
    obtain ⟨rfl, rfl, h2⟩ := hs
    exact ⟨f, hM, h2⟩
  | .inl (_, _, .inr (.inl _)), _, hs => exact hs.elim
  | .inl (_, _, .inr (.inr (.inl _))), _, hs => exact hs.elim
  | .inl (_, _, .inr (.inr (.inr (.inl _)))), _, hs => exact hs.elim
  | .inl (_, _, .inr (.inr (.inr (.inr _)))), _, hs => exact hs.elim
  | .inr _, _, hs => exact hs.elim
theorem hm_ial {M : hzMem} {a n : Nat} {f : Nat → Int32} (hM : M[a]? = some (.inl (0, n, .inl f))) {j : Int32} (j0 : 0 ≤ j.toInt) (j1 : j.toInt < n) (x y : Nat) (r : List Value) : hz_mem .iaload x y (.int j :: .ref a :: r) M = some (.int (f j.toNatClampNeg) :: r, M) := by
  simp only [hz_mem, hM, ha_itv_in j0 j1, and_self, if_true]
theorem hm_ias {M : hzMem} {a n : Nat} {f : Nat → Int32} (hM : M[a]? = some (.inl (0, n, .inl f))) {j : Int32} (j0 : 0 ≤ j.toInt) (j1 : j.toInt < n) (v : Int32) (x y : Nat) (r : List Value) : hz_mem .iastore x y (.int v :: .int j :: .ref a :: r) M = some (r, M.set a (.inl (0, n, .inl (upd f j.toNatClampNeg v)))) := by
  simp only [hz_mem, hM, ha_itv_in j0 j1, and_self, if_true]
theorem hm_mod {M : hzMem} (hi : ha_inv hw_W M) : ∃ vs, M[47]? = some (.inr (3, vs)) ∧ vs[10]? = some (.ref 53) ∧ vs[13]? = some (.ref 56) ∧ vs[14]? = some (.ref 57) ∧ vs[15]? = some (.ref 58) := by
  obtain ⟨e, hM, hs⟩ := hi 47 _ rfl
  match e, hM, hs with
  | .inr (c, vs), hM, hs =>
    obtain ⟨rfl, h1, h2⟩ := hs
    have h1 : vs.length = 17 := h1
    have g : ∀ y : Nat, (hy : y < 17) → vs[y]? = some (vs[y]'(by omega)) := fun y hy => List.getElem?_eq_getElem (by omega)
    exact ⟨vs, hM, by rw [g 10 (by omega), show vs[10]'(by omega) = _ from h2 10 _ _ rfl (g 10 (by omega))], by rw [g 13 (by omega), show vs[13]'(by omega) = _ from h2 13 _ _ rfl (g 13 (by omega))], by rw [g 14 (by omega), show vs[14]'(by omega) = _ from h2 14 _ _ rfl (g 14 (by omega))], by rw [g 15 (by omega), show vs[15]'(by omega) = _ from h2 15 _ _ rfl (g 15 (by omega))]⟩
  | .inl _, _, hs => exact hs.elim
theorem hm_ix {d i k : Int32} (d0 : 0 ≤ d.toInt) (d7 : d.toInt ≤ 7) (i0 : 0 ≤ i.toInt) (k0 : 0 ≤ k.toInt) (h : i.toInt + k.toInt < 100) : (Int32.ofInt 100 * d + i + k).toInt = 100 * d.toInt + i.toInt + k.toInt := by
  have e1 : (Int32.ofInt 100 * d).toInt = 100 * d.toInt := by
    rw [Int32.toInt_mul, show (Int32.ofInt 100).toInt = 100 from rfl]
    exact ha_bm (by unfold ha_lo; omega) (by unfold ha_hi; omega)
  have e2 : (Int32.ofInt 100 * d + i).toInt = 100 * d.toInt + i.toInt := by
    rw [Int32.toInt_add, e1]
    exact ha_bm (by unfold ha_lo; omega) (by unfold ha_hi; omega)
  rw [Int32.toInt_add, e2]
  exact ha_bm (by unfold ha_lo; omega) (by unfold ha_hi; omega)
abbrev hm_Wd : List Nat := [53, 54, 55, 56, 57, 58]
abbrev hm_Lm (d i e j n : Int32) (x y : Option Value) : List (Option Value) := [some (.ref 47), some (.int d), some (.int i), some (.int e), some (.int j), some (.int n), x, y]
abbrev hm_P4 (M0 : hzMem) : Option Value → hzMem → Prop := fun rv M' => (∃ w : Int32, rv = some (.int w)) ∧ ha_wok hw_W hm_Wd M0 M'
set_option maxHeartbeats 4000000 in
set_option maxRecDepth 10000 in
theorem hm_loop4 {d i e j n : Int32} (d0 : 0 ≤ d.toInt) (d7 : d.toInt ≤ 7) (e0 : 0 ≤ e.toInt) (e7 : e.toInt ≤ 7) (i0 : 0 ≤ i.toInt) (j0 : 0 ≤ j.toInt) (hin : i.toInt + n.toInt ≤ 100) (hjn : j.toInt + n.toInt ≤ 100) (M0 : hzMem) : ∀ (m : Nat) (c : Int32) (M : hzMem) (x : Option Value), (n.toInt - c.toInt).toNat < m → 0 ≤ c.toInt → ha_wok hw_W hm_Wd M0 M → ha_RT ext 164 122 (hm_Lm d i e j n (some (.int c)) x) [] M 0 (hm_P4 M0) := by
  intro m
  induction m with
  | zero => intro c M x h; exact absurd h (Nat.not_lt_zero _)
  | succ m ih =>
    intro c M x h c0 hw
    obtain ⟨vs, hO, _, _, _, h15⟩ := hm_mod hw.1
    obtain ⟨f, hF, _⟩ := hm_ints hw.1 (k := 58) (n := 800) (q := ((-2147483648), 2147483647)) rfl
    refine ha_RT_sN [124, 126] (pc' := 126) (L' := hm_Lm d i e j n (some (.int c)) x) (st' := [.int n, .int c]) rfl rfl ?_
    refine ha_RT_ic rfl (fun _ => ?_) (fun h1 => ?_)
    · show ha_RT ext 164 184 _ _ _ _ _
      refine ha_RT_sN [186] (pc' := 186) (L' := hm_Lm d i e j n (some (.int c)) x) (st' := [.int n]) rfl rfl ?_
      exact ha_RT_ret (rv := some (.int n)) rfl rfl rfl rfl ⟨⟨n, rfl⟩, hw⟩
    show ha_RT ext 164 129 _ _ _ _ _
    have hcn : c.toInt < n.toInt := by
      simp only [hz_cmp, decide_eq_false_iff_not, Int32.le_iff_toInt_le] at h1
      omega
    have go : ∀ k : Int32, 0 ≤ k.toInt → k.toInt < n.toInt → ha_RT ext 164 147 (hm_Lm d i e j n (some (.int c)) x) [.int k] M 0 (hm_P4 M0) := by
      intro k k0 k1
      refine ha_RT_sN [149, 150] (pc' := 150) (L' := hm_Lm d i e j n (some (.int c)) (some (.int k))) (st' := [.ref 47]) rfl rfl ?_
      refine ha_RT_mem rfl rfl (hm_rd hO h15 _ _) ?_
      show ha_RT ext 164 153 _ _ _ _ _
      refine ha_RT_sN [155, 156, 157, 159, 160, 162, 163, 164] (pc' := 164) (L' := hm_Lm d i e j n (some (.int c)) (some (.int k))) (st' := [.ref 47, .int (Int32.ofInt 100 * e + j + k), .ref 58]) rfl rfl ?_
      refine ha_RT_mem rfl rfl (hm_rd hO h15 _ _) ?_
      show ha_RT ext 164 167 _ _ _ _ _
      refine ha_RT_sN [169, 170, 171, 172, 173, 175, 176] (pc' := 176) (L' := hm_Lm d i e j n (some (.int c)) (some (.int k))) (st' := [.int (Int32.ofInt 100 * d + i + k), .ref 58, .int (Int32.ofInt 100 * e + j + k), .ref 58]) rfl rfl ?_
      have p1 := hm_ix d0 d7 i0 k0 (by omega)
      have p2 := hm_ix e0 e7 j0 k0 (by omega)
      refine ha_RT_mem rfl rfl (hm_ial hF (by omega) (by show _ < ((800 : Nat) : Int); omega) _ _ _) ?_
      show ha_RT ext 164 177 _ _ _ _ _
      refine ha_RT_mem rfl rfl (hm_ias hF (by omega) (by show _ < ((800 : Nat) : Int); omega) _ _ _ _) ?_
      show ha_RT ext 164 178 _ _ _ _ _
      refine ha_RT_sN [181, 122] (pc' := 122) (L' := hm_Lm d i e j n (some (.int (c + Int32.ofInt 1))) (some (.int k))) (st' := []) rfl rfl ?_
      have hc1 : (c + Int32.ofInt 1).toInt = c.toInt + 1 := by
        rw [Int32.toInt_add, show (Int32.ofInt 1).toInt = 1 from rfl]
        exact ha_bm (by unfold ha_lo; omega) (by unfold ha_hi; omega)
      refine ih _ _ _ (by rw [hc1]; omega) (by omega) ?_
      refine ha_wok_set hw hF (by decide) (fun sh hsh => ?_)
      cases hsh
      exact ⟨rfl, rfl, fun _ _ => ha_rng _⟩
    refine ha_RT_sN [130, 132] (pc' := 132) (L' := hm_Lm d i e j n (some (.int c)) x) (st' := [.int j, .int i]) rfl rfl ?_
    refine ha_RT_ic rfl (fun _ => ?_) (fun _ => ?_)
    · show ha_RT ext 164 140 _ _ _ _ _
      refine ha_RT_sN [142, 143, 144, 146, 147] (pc' := 147) (L' := hm_Lm d i e j n (some (.int c)) x) (st' := [.int (n - Int32.ofInt 1 - c)]) rfl rfl ?_
      have e1 : (n - Int32.ofInt 1).toInt = n.toInt - 1 := by
        rw [Int32.toInt_sub, show (Int32.ofInt 1).toInt = 1 from rfl]
        exact ha_bm (by unfold ha_lo; omega) (by unfold ha_hi; omega)
      have e2 : (n - Int32.ofInt 1 - c).toInt = n.toInt - 1 - c.toInt := by
        rw [Int32.toInt_sub, e1]
        exact ha_bm (by unfold ha_lo; omega) (by unfold ha_hi; omega)
      exact go _ (by omega) (by omega)
    · show ha_RT ext 164 135 _ _ _ _ _
      refine ha_RT_sN [137, 147] (pc' := 147) (L' := hm_Lm d i e j n (some (.int c)) x) (st' := [.int c]) rfl rfl ?_
      exact go c c0 hcn
abbrev hm_Y7 : ha_Y := (164, [.inr (.inl 47), .inl ((-2147483648), 2147483647), .inl ((-2147483648), 2147483647), .inl ((-2147483648), 2147483647), .inl ((-2147483648), 2147483647), .inl ((-2147483648), 2147483647)], some (.inl ((-2147483648), 2147483647)), hm_Wd)
set_option maxHeartbeats 4000000 in
set_option maxRecDepth 10000 in
/-- the reference's copy -/
theorem hm_v7 (hn : hm_no ext) : ha_val ext hw_W hm_Y7 := by
  intro As M hA hi q hq
  obtain ⟨d, i, e, j, n, rfl⟩ := hm_args6 hA
  cases hq
  obtain ⟨vs, hO, h10, h13, h14, h15⟩ := hm_mod hi
  obtain ⟨fk, hK, _⟩ := hm_ints hi (k := 53) (n := 8) (q := ((-2147483648), 2147483647)) rfl
  obtain ⟨fs, hS, _⟩ := hm_ints hi (k := 56) (n := 8) (q := ((-2147483648), 2147483647)) rfl
  obtain ⟨fz, hZ, bz⟩ := hm_ints hi (k := 57) (n := 8) (q := (0, 100)) rfl
  have fin : ∀ (z : Int32) (x y : Option Value) (pc : Nat), hz_fetch 164 pc = some (.ireturn, 0, 0, 0, 0) → ha_RT ext 164 pc (hm_Lm d i e j n x y) [.int z] M 0 (hm_P4 M) :=
    fun z x y pc hpc => ha_RT_ret (rv := some (.int z)) hpc rfl (q := hzq_164) rfl rfl ⟨⟨z, rfl⟩, hi, rfl, fun _ _ => rfl⟩
  have key : ha_RT ext 164 0 (hm_Lm d i e j n none none) [] M 0 (hm_P4 M) := by
    have n14 : ha_RT ext 164 14 (hm_Lm d i e j n none none) [] M 0 (hm_P4 M) :=
      ha_RT_sN [15] (pc' := 15) (L' := hm_Lm d i e j n none none) (st' := [.int (Int32.ofInt (-1))]) rfl rfl (fin _ _ _ _ rfl)
    have n34 : ha_RT ext 164 34 (hm_Lm d i e j n none none) [] M 0 (hm_P4 M) :=
      ha_RT_sN [36] (pc' := 36) (L' := hm_Lm d i e j n none none) (st' := [.int (Int32.ofInt (-11))]) rfl rfl (fin _ _ _ _ rfl)
    have n72 : ha_RT ext 164 72 (hm_Lm d i e j n none none) [] M 0 (hm_P4 M) :=
      ha_RT_sN [74] (pc' := 74) (L' := hm_Lm d i e j n none none) (st' := [.int (Int32.ofInt (-12))]) rfl rfl (fin _ _ _ _ rfl)
    have n116 : ha_RT ext 164 116 (hm_Lm d i e j n none none) [] M 0 (hm_P4 M) :=
      ha_RT_sN [118] (pc' := 118) (L' := hm_Lm d i e j n none none) (st' := [.int (Int32.ofInt (-13))]) rfl rfl (fin _ _ _ _ rfl)
    refine ha_RT_sN [1] (pc' := 1) (L' := hm_Lm d i e j n none none) (st' := [.int d]) rfl rfl ?_
    obtain ⟨n1, u1, hc1, hv1⟩ := hm_sh157 hn d M
    refine ha_RT_call (virt := false) (a := 0) (x := 157) (y := 1) rfl rfl (by decide) (q := _) rfl ⟨rfl, Nat.le_refl 1, Nat.zero_le _, Nat.le_refl 0, Nat.le_of_ble_eq_true rfl⟩ hc1 ?_
    show ha_RT ext 164 4 _ [.int u1] _ _ _
    rcases hv1 with ⟨rfl, d0, d7⟩ | rfl
    case inr => exact ha_RT_br (pc' := 14) (st' := []) rfl rfl rfl n14
    refine ha_RT_br (pc' := 7) (st' := []) rfl rfl rfl ?_
    refine ha_RT_sN [8] (pc' := 8) (L' := hm_Lm d i e j n none none) (st' := [.int e]) rfl rfl ?_
    obtain ⟨n2, u2, hc2, hv2⟩ := hm_sh157 hn e M
    refine ha_RT_call (virt := false) (a := 0) (x := 157) (y := 1) rfl rfl (by decide) (q := _) rfl ⟨rfl, Nat.le_refl 1, Nat.zero_le _, Nat.le_refl 0, Nat.le_of_ble_eq_true rfl⟩ hc2 ?_
    show ha_RT ext 164 11 _ [.int u2] _ _ _
    rcases hv2 with ⟨rfl, e0, e7⟩ | rfl
    case inr => exact ha_RT_br (pc' := 14) (st' := []) rfl rfl rfl n14
    refine ha_RT_br (pc' := 16) (st' := []) rfl rfl rfl ?_
    refine ha_RT_sN [17] (pc' := 17) (L' := hm_Lm d i e j n none none) (st' := [.ref 47]) rfl rfl ?_
    refine ha_RT_mem rfl rfl (hm_rd hO h10 _ _) ?_
    show ha_RT ext 164 20 _ _ _ _ _
    refine ha_RT_sN [21] (pc' := 21) (L' := hm_Lm d i e j n none none) (st' := [.int d, .ref 53]) rfl rfl ?_
    refine ha_RT_mem rfl rfl (hm_ial hK d0 (by show _ < ((8 : Nat) : Int); omega) _ _ _) ?_
    show ha_RT ext 164 22 _ _ _ _ _
    refine ha_RT_if rfl (fun _ => n34) (fun _ => ?_)
    show ha_RT ext 164 25 _ _ _ _ _
    refine ha_RT_sN [26] (pc' := 26) (L' := hm_Lm d i e j n none none) (st' := [.ref 47]) rfl rfl ?_
    refine ha_RT_mem rfl rfl (hm_rd hO h10 _ _) ?_
    show ha_RT ext 164 29 _ _ _ _ _
    refine ha_RT_sN [30] (pc' := 30) (L' := hm_Lm d i e j n none none) (st' := [.int e, .ref 53]) rfl rfl ?_
    refine ha_RT_mem rfl rfl (hm_ial hK e0 (by show _ < ((8 : Nat) : Int); omega) _ _ _) ?_
    show ha_RT ext 164 31 _ _ _ _ _
    refine ha_RT_if rfl (fun _ => ?_) (fun _ => n34)
    show ha_RT ext 164 37 _ _ _ _ _
    refine ha_RT_sN [38] (pc' := 38) (L' := hm_Lm d i e j n none none) (st' := [.ref 47]) rfl rfl ?_
    refine ha_RT_mem rfl rfl (hm_rd hO h10 _ _) ?_
    show ha_RT ext 164 41 _ _ _ _ _
    refine ha_RT_sN [42] (pc' := 42) (L' := hm_Lm d i e j n none none) (st' := [.int d, .ref 53]) rfl rfl ?_
    refine ha_RT_mem rfl rfl (hm_ial hK d0 (by show _ < ((8 : Nat) : Int); omega) _ _ _) ?_
    show ha_RT ext 164 43 _ _ _ _ _
    refine ha_RT_sN [44] (pc' := 44) (L' := hm_Lm d i e j n none none) (st' := [.int (Int32.ofInt 2), .int (fk d.toNatClampNeg)]) rfl rfl ?_
    refine ha_RT_ic rfl (fun _ => n72) (fun _ => ?_)
    show ha_RT ext 164 47 _ _ _ _ _
    refine ha_RT_sN [48] (pc' := 48) (L' := hm_Lm d i e j n none none) (st' := [.ref 47]) rfl rfl ?_
    refine ha_RT_mem rfl rfl (hm_rd hO h10 _ _) ?_
    show ha_RT ext 164 51 _ _ _ _ _
    refine ha_RT_sN [52] (pc' := 52) (L' := hm_Lm d i e j n none none) (st' := [.int e, .ref 53]) rfl rfl ?_
    refine ha_RT_mem rfl rfl (hm_ial hK e0 (by show _ < ((8 : Nat) : Int); omega) _ _ _) ?_
    show ha_RT ext 164 53 _ _ _ _ _
    refine ha_RT_sN [54] (pc' := 54) (L' := hm_Lm d i e j n none none) (st' := [.int (Int32.ofInt 2), .int (fk e.toNatClampNeg)]) rfl rfl ?_
    refine ha_RT_ic rfl (fun _ => n72) (fun _ => ?_)
    show ha_RT ext 164 57 _ _ _ _ _
    refine ha_RT_sN [58] (pc' := 58) (L' := hm_Lm d i e j n none none) (st' := [.ref 47]) rfl rfl ?_
    refine ha_RT_mem rfl rfl (hm_rd hO h13 _ _) ?_
    show ha_RT ext 164 61 _ _ _ _ _
    refine ha_RT_sN [62] (pc' := 62) (L' := hm_Lm d i e j n none none) (st' := [.int d, .ref 56]) rfl rfl ?_
    refine ha_RT_mem rfl rfl (hm_ial hS d0 (by show _ < ((8 : Nat) : Int); omega) _ _ _) ?_
    show ha_RT ext 164 63 _ _ _ _ _
    refine ha_RT_sN [64] (pc' := 64) (L' := hm_Lm d i e j n none none) (st' := [.ref 47, .int (fs d.toNatClampNeg)]) rfl rfl ?_
    refine ha_RT_mem rfl rfl (hm_rd hO h13 _ _) ?_
    show ha_RT ext 164 67 _ _ _ _ _
    refine ha_RT_sN [68] (pc' := 68) (L' := hm_Lm d i e j n none none) (st' := [.int e, .ref 56, .int (fs d.toNatClampNeg)]) rfl rfl ?_
    refine ha_RT_mem rfl rfl (hm_ial hS e0 (by show _ < ((8 : Nat) : Int); omega) _ _ _) ?_
    show ha_RT ext 164 69 _ _ _ _ _
    refine ha_RT_ic rfl (fun _ => ?_) (fun _ => n72)
    show ha_RT ext 164 75 _ _ _ _ _
    refine ha_RT_sN [77] (pc' := 77) (L' := hm_Lm d i e j n none none) (st' := [.int n]) rfl rfl ?_
    refine ha_RT_if rfl (fun _ => n116) (fun hn0 => ?_)
    show ha_RT ext 164 80 _ _ _ _ _
    refine ha_RT_sN [81] (pc' := 81) (L' := hm_Lm d i e j n none none) (st' := [.int i]) rfl rfl ?_
    refine ha_RT_if rfl (fun _ => n116) (fun hi0 => ?_)
    show ha_RT ext 164 84 _ _ _ _ _
    refine ha_RT_sN [86] (pc' := 86) (L' := hm_Lm d i e j n none none) (st' := [.int j]) rfl rfl ?_
    refine ha_RT_if rfl (fun _ => n116) (fun hj0 => ?_)
    show ha_RT ext 164 89 _ _ _ _ _
    simp only [hz_cmp, decide_eq_false_iff_not, Int32.lt_iff_toInt_lt, show (0 : Int32).toInt = 0 from rfl] at hn0 hi0 hj0
    refine ha_RT_sN [91, 92] (pc' := 92) (L' := hm_Lm d i e j n none none) (st' := [.ref 47, .int n]) rfl rfl ?_
    refine ha_RT_mem rfl rfl (hm_rd hO h14 _ _) ?_
    show ha_RT ext 164 95 _ _ _ _ _
    refine ha_RT_sN [96] (pc' := 96) (L' := hm_Lm d i e j n none none) (st' := [.int d, .ref 57, .int n]) rfl rfl ?_
    refine ha_RT_mem rfl rfl (hm_ial hZ d0 (by show _ < ((8 : Nat) : Int); omega) _ _ _) ?_
    show ha_RT ext 164 97 _ _ _ _ _
    refine ha_RT_sN [98, 99] (pc' := 99) (L' := hm_Lm d i e j n none none) (st' := [.int (fz d.toNatClampNeg - i), .int n]) rfl rfl ?_
    refine ha_RT_ic rfl (fun _ => n116) (fun hd1 => ?_)
    show ha_RT ext 164 102 _ _ _ _ _
    refine ha_RT_sN [104, 105] (pc' := 105) (L' := hm_Lm d i e j n none none) (st' := [.ref 47, .int n]) rfl rfl ?_
    refine ha_RT_mem rfl rfl (hm_rd hO h14 _ _) ?_
    show ha_RT ext 164 108 _ _ _ _ _
    refine ha_RT_sN [109] (pc' := 109) (L' := hm_Lm d i e j n none none) (st' := [.int e, .ref 57, .int n]) rfl rfl ?_
    refine ha_RT_mem rfl rfl (hm_ial hZ e0 (by show _ < ((8 : Nat) : Int); omega) _ _ _) ?_
    show ha_RT ext 164 110 _ _ _ _ _
    refine ha_RT_sN [112, 113] (pc' := 113) (L' := hm_Lm d i e j n none none) (st' := [.int (fz e.toNatClampNeg - j), .int n]) rfl rfl ?_
    refine ha_RT_ic rfl (fun he1 => ?_) (fun _ => n116)
    show ha_RT ext 164 119 _ _ _ _ _
    have bd := bz d.toNatClampNeg (by show d.toInt.toNat < 8; omega)
    have be := bz e.toNatClampNeg (by show e.toInt.toNat < 8; omega)
    have bd0 : 0 ≤ (fz d.toNatClampNeg).toInt ∧ (fz d.toNatClampNeg).toInt ≤ 100 := bd
    have be0 : 0 ≤ (fz e.toNatClampNeg).toInt ∧ (fz e.toNatClampNeg).toInt ≤ 100 := be
    have ri := ha_rng i
    have rj := ha_rng j
    unfold ha_lo ha_hi at ri rj
    have q1 : (fz d.toNatClampNeg - i).toInt = (fz d.toNatClampNeg).toInt - i.toInt := by
      rw [Int32.toInt_sub]
      exact ha_bm (by unfold ha_lo; omega) (by unfold ha_hi; omega)
    have q2 : (fz e.toNatClampNeg - j).toInt = (fz e.toNatClampNeg).toInt - j.toInt := by
      rw [Int32.toInt_sub]
      exact ha_bm (by unfold ha_lo; omega) (by unfold ha_hi; omega)
    simp only [hz_cmp, decide_eq_false_iff_not, decide_eq_true_eq, Int32.lt_iff_toInt_lt, Int32.le_iff_toInt_le, q1, q2] at hd1 he1
    refine ha_RT_sN [120, 122] (pc' := 122) (L' := hm_Lm d i e j n (some (.int (Int32.ofInt 0))) none) (st' := []) rfl rfl ?_
    exact hm_loop4 d0 d7 e0 e7 (by omega) (by omega) (by omega) (by omega) M (n.toInt.toNat + 1) (Int32.ofInt 0) M none (by show (n.toInt - 0).toNat < _; omega) (by decide) ⟨hi, rfl, fun _ _ => rfl⟩
  obtain ⟨m, rv, M', h1, ⟨w, rfl⟩, hw⟩ := key
  exact ⟨m, some (.int w), M', hm_toC hn (q := hzq_164) rfl (by decide) h1, ⟨w, rfl, (ha_rng w).1, (ha_rng w).2⟩, hw⟩
end HD
