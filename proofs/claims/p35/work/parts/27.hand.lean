/-! BY HAND: greatest divisors, the clock -/
/-- steps that touch no cell and call nothing, by the places that they come to -/
def hz_s1 (k pc : Nat) (L : List (Option Value)) (st : List Value) : Option (Nat × List (Option Value) × List Value) := match hz_fetch k pc with
  | some (i, a, x, _, _) => (match hz_kind i with
    | 0 => (hz_stk i a st).map (fun st => (pc + hz_len i, L, st))
    | 1 => (hz_loc i L st).map (fun R => (pc + hz_len i, R.1, R.2))
    | 2 => (hz_br i pc x st).map (fun R => (R.1, L, R.2))
    | _ => none)
  | none => none
def hz_sN (k : Nat) : List Nat → Nat → List (Option Value) → List Value → Option (List (Option Value) × List Value)
  | [], _, L, st => some (L, st)
  | p :: ps, pc, L, st => match hz_s1 k pc L st with
    | some (q, L', st') => bif Nat.beq q p then hz_sN k ps p L' st' else none
    | none => none
section HM
variable {ext : Nat → List Value → hzMem → Option (Option (Option Value × hzMem))} {k pc : Nat} {L : List (Option Value)} {st : List Value} {M : hzMem} {b : Nat} {Post : Option Value → hzMem → Prop}
theorem ha_RT_s1 {pc' : Nat} {L' : List (Option Value)} {st' : List Value} (h : hz_s1 k pc L st = some (pc', L', st')) (kk : ha_RT ext k pc' L' st' M b Post) : ha_RT ext k pc L st M b Post := by
  unfold hz_s1 at h
  split at h
  · rename_i i a x y h' hf
    split at h
    · rename_i hk
      obtain ⟨s, h1, h2⟩ := Option.map_eq_some_iff.mp h
      cases h2
      exact ha_RT_stk hf hk h1 kk
    · rename_i hk
      obtain ⟨s, h1, h2⟩ := Option.map_eq_some_iff.mp h
      cases h2
      exact ha_RT_loc hf hk h1 kk
    · rename_i hk
      obtain ⟨s, h1, h2⟩ := Option.map_eq_some_iff.mp h
      cases h2
      exact ha_RT_br hf hk h1 kk
    · cases h
  · cases h
theorem ha_RT_sN : ∀ (ps : List Nat) {pc : Nat} {L : List (Option Value)} {st : List Value} {pc' : Nat} {L' : List (Option Value)} {st' : List Value}, hz_sN k ps pc L st = some (L', st') → ps.getLastD pc = pc' → ha_RT ext k pc' L' st' M b Post → ha_RT ext k pc L st M b Post
  | [], pc, L, st, pc', L', st', h, hp, kk => by cases h; cases hp; exact kk
  | p :: ps, pc, L, st, pc', L', st', h, hp, kk => by
    rw [hz_sN] at h
    split at h
    · rename_i q L1 st1 h1
      cases hb : Nat.beq q p with
      | true =>
        rw [hb] at h
        have e := Nat.eq_of_beq_eq_true hb
        subst e
        refine ha_RT_s1 h1 (ha_RT_sN ps h ?_ kk)
        rw [← hp]
        cases ps <;> rfl
      | false => rw [hb] at h; cases h
    · cases h
end HM
theorem hm_cmp0 (y : Int64) : (lg_cmp y (Int64.ofInt 0) = 0) ↔ y = 0 := by
  have e : Int64.ofInt 0 = 0 := by decide
  rw [e]
  have h1 := lg_cmp_ge y 0
  have h2 := lg_cmp_le y 0
  constructor
  · intro h
    rw [h] at h1 h2
    have a := h1.mp (by decide)
    have b := h2.mp (by decide)
    exact Int64.le_antisymm b a
  · intro h
    subst h
    decide
theorem hm_lrem (x y : Int64) : x - (x / y) * y = x % y := by
  apply Int64.toInt_inj.mp
  have h1 := Int64.le_toInt (x % y)
  have h2 := Int64.toInt_lt (x % y)
  rw [Int64.toInt_sub, Int64.toInt_mul, Int64.toInt_div, Int.bmod_mul_bmod, Int.sub_bmod_bmod, Int.mul_comm (x.toInt.tdiv y.toInt), ← Int.tmod_def, ← Int64.toInt_mod]
  exact Int.bmod_eq_of_le_mul_two (by omega) (by omega)
theorem hm_rem (x y : Int64) (hy : y ≠ 0) : (x - x / y * y).toInt.natAbs < y.toInt.natAbs := by
  rw [hm_lrem, Int64.toInt_mod, Int.natAbs_tmod]
  refine Nat.mod_lt _ ?_
  have : y.toInt ≠ 0 := fun h => hy (Int64.toInt_inj.mp (by rw [h]; rfl))
  omega
section HG
variable {ext : Nat → List Value → hzMem → Option (Option (Option Value × hzMem))}
abbrev hm_Lg (a c : Value) (x y : Int64) (l8 l9 : Option Value) : List (Option Value) := [some a, none, some c, none, some (.long x), none, some (.long y), none, l8, l9]
set_option maxRecDepth 10000 in
theorem hm_gcd (a c : Value) (M : hzMem) (b : Nat) : ∀ (m : Nat) (x y : Int64) (l8 l9 : Option Value), y.toInt.natAbs < m → ha_RT ext 145 6 (hm_Lg a c x y l8 l9) [] M b (fun rv M' => M' = M ∧ ∃ z : Int64, rv = some (.long z) ∧ (x ≠ 0 ∨ y ≠ 0 → z ≠ 0)) := by
  intro m
  induction m with
  | zero => intro x y l8 l9 h; exact absurd h (Nat.not_lt_zero _)
  | succ m ih =>
    intro x y l8 l9 h
    refine ha_RT_sN [8, 9, 10] (pc' := 10) (L' := hm_Lg a c x y l8 l9) (st' := [.int (lg_cmp y (Int64.ofInt 0))]) rfl rfl ?_
    by_cases hy : y = 0
    · refine ha_RT_br (pc' := 31) (st' := []) rfl rfl (by rw [(hm_cmp0 y).mpr hy]; rfl) ?_
      refine ha_RT_sN [33] (pc' := 33) (L' := hm_Lg a c x y l8 l9) (st' := [.long x]) rfl rfl ?_
      exact ha_RT_ret (rv := some (.long x)) rfl rfl rfl rfl ⟨rfl, x, rfl, fun q => q.resolve_right (fun z => z hy)⟩
    · refine ha_RT_br (pc' := 13) (st' := []) rfl rfl (by
        have : ¬ lg_cmp y (Int64.ofInt 0) = 0 := fun q => hy ((hm_cmp0 y).mp q)
        simp only [hz_br, hz_cmp, decide_eq_true_eq, if_neg this]) ?_
      refine ha_RT_sN [15, 17] (pc' := 17) (L' := hm_Lg a c x y l8 l9) (st' := [.long y, .long x]) rfl rfl ?_
      refine ha_RT_stk (st' := [.long (x - x / y * y)]) rfl rfl (if_neg hy) ?_
      show ha_RT ext 145 18 _ _ _ _ _
      refine ha_RT_sN [20, 22, 24, 26, 28, 6] (pc' := 6) (L' := hm_Lg a c y (x - x / y * y) (some (.long (x - x / y * y))) none) (st' := []) rfl rfl ?_
      obtain ⟨n, rv, M', h1, h2, z, h3, h4⟩ := ih y (x - x / y * y) (some (.long (x - x / y * y))) none (by have := hm_rem x y hy; omega)
      exact ⟨n, rv, M', h1, h2, z, h3, fun _ => h4 (Or.inl hy)⟩
end HG
section HG2
variable {ext : Nat → List Value → hzMem → Option (Option (Option Value × hzMem))}
abbrev hm_Ld (a c : Value) (x y : Int64) (k : Int32) (l9 l10 : Option Value) : List (Option Value) := [some a, none, some c, none, some (.long x), none, some (.long y), none, some (.int k), l9, l10]
set_option maxRecDepth 10000 in
theorem hm_gd (a c : Value) (M : hzMem) (b : Nat) : ∀ (m : Nat) (x y : Int64) (k : Int32) (l9 l10 : Option Value), y.toInt.natAbs < m → ha_RT ext 67 9 (hm_Ld a c x y k l9 l10) [] M b (fun rv M' => M' = M ∧ ∃ z : Int64, rv = some (.long z)) := by
  intro m
  induction m with
  | zero => intro x y k l9 l10 h; exact absurd h (Nat.not_lt_zero _)
  | succ m ih =>
    intro x y k l9 l10 h
    have fin : ha_RT ext 67 44 (hm_Ld a c x y k l9 l10) [] M b (fun rv M' => M' = M ∧ ∃ z : Int64, rv = some (.long z)) := by
      refine ha_RT_sN [46] (pc' := 46) (L' := hm_Ld a c x y k l9 l10) (st' := [.long x]) rfl rfl ?_
      exact ha_RT_ret (rv := some (.long x)) rfl rfl rfl rfl ⟨rfl, x, rfl⟩
    refine ha_RT_sN [11, 13] (pc' := 13) (L' := hm_Ld a c x y k l9 l10) (st' := [.int (Int32.ofInt 100), .int k]) rfl rfl ?_
    cases hk : hz_cmp .ge k (Int32.ofInt 100) with
    | true => exact ha_RT_br (pc' := 44) (st' := []) rfl rfl (by simp only [hz_br, hk, if_true]) fin
    | false =>
      refine ha_RT_br (pc' := 16) (st' := []) rfl rfl (by simp only [hz_br, hk, Bool.false_eq_true, if_false]) ?_
      refine ha_RT_sN [18, 19, 20] (pc' := 20) (L' := hm_Ld a c x y k l9 l10) (st' := [.int (lg_cmp y (Int64.ofInt 0))]) rfl rfl ?_
      by_cases hy : y = 0
      · exact ha_RT_br (pc' := 44) (st' := []) rfl rfl (by rw [(hm_cmp0 y).mpr hy]; rfl) fin
      · refine ha_RT_br (pc' := 23) (st' := []) rfl rfl (by
          have : ¬ lg_cmp y (Int64.ofInt 0) = 0 := fun q => hy ((hm_cmp0 y).mp q)
          simp only [hz_br, hz_cmp, decide_eq_true_eq, if_neg this]) ?_
        refine ha_RT_sN [25, 27] (pc' := 27) (L' := hm_Ld a c x y k l9 l10) (st' := [.long y, .long x]) rfl rfl ?_
        refine ha_RT_stk (st' := [.long (x - x / y * y)]) rfl rfl (if_neg hy) ?_
        show ha_RT ext 67 28 _ _ _ _ _
        refine ha_RT_sN [30, 32, 34, 36, 38, 41, 9] (pc' := 9) (L' := hm_Ld a c y (x - x / y * y) (k + Int32.ofInt 1) (some (.long (x - x / y * y))) none) (st' := []) rfl rfl ?_
        exact ih y (x - x / y * y) _ _ none (by have := hm_rem x y hy; omega)
theorem hm_ent0 (a c : Int64) : hz_ent 11 [.long a, .long c] = [some (.long a), none, some (.long c), none, none, none, none, none, none, none, none] := rfl
theorem hm_ent1 (a c : Int64) : hz_ent 10 [.long a, .long c] = [some (.long a), none, some (.long c), none, none, none, none, none, none, none] := rfl
theorem hm_args3 {As : List Value} {q : Int × Int} (h : ha_argsC [.inr (.inr ()), .inr (.inr ()), .inl q] As) : ∃ (a c : Int64) (p : Int32), As = [.long a, .long c, .int p] := by
  match As, h with
  | [x, y, z], h =>
    obtain ⟨a, rfl⟩ := h.1
    obtain ⟨c, rfl⟩ := h.2.1
    obtain ⟨p, rfl, _⟩ := h.2.2.1
    exact ⟨a, c, p, rfl⟩
  | [], h => exact h.elim
  | [_], h => exact h.2.elim
  | [_, _], h => exact h.2.2.elim
  | _ :: _ :: _ :: _ :: _, h => exact h.2.2.2.elim
abbrev hm_Y0 : ha_Y := (66, [.inr (.inr ()), .inr (.inr ()), .inl ((-2147483648), 2147483647)], some (.inr ()), [])
abbrev hm_Y1 : ha_Y := (146, [.inr (.inr ()), .inr (.inr ()), .inl ((-2147483648), 2147483647)], some (.inr ()), [])
theorem hm_wok {W : List ha_sh} {M : hzMem} (h : ha_inv W M) : ha_wok W [] M M := ⟨h, rfl, fun _ _ => rfl⟩
set_option maxRecDepth 10000 in
/-- inLeastTerms -/
theorem hm_v0 {W : List ha_sh} (hn : ∀ (x : Nat) (As : List Value) (M : hzMem) (q : hzN), hzM[x]? = some q → q.2.2.2.2.2.2.2.2.1 ≠ 0 → ext x As M = none) : ha_val ext W hm_Y0 := by
  intro As M hA hi q hq
  obtain ⟨a, c, p, rfl⟩ := hm_args3 hA
  cases hq
  have key : ha_RT ext 66 0 [some (.long a), none, some (.long c), none, some (.int p), none, none] [] M 0 (fun rv M' => M' = M ∧ ∃ z : Int64, rv = some (.long z)) := by
    refine ha_RT_sN [1, 2] (pc' := 2) (L' := [some (.long a), none, some (.long c), none, some (.int p), none, none]) (st' := [.long c, .long a]) rfl rfl ?_
    obtain ⟨n1, rv1, M1, h1, rfl, z, rfl⟩ := ha_RT_sN (ext := ext) (k := 67) (M := M) (b := 0) (Post := fun rv M' => M' = M ∧ ∃ z : Int64, rv = some (.long z)) [1, 3, 4, 6, 7, 9] (pc := 0) (L := [some (.long a), none, some (.long c), none, none, none, none, none, none, none, none]) (st := []) (pc' := 9) (L' := hm_Ld (.long a) (.long c) a c (Int32.ofInt 0) none none) (st' := []) rfl rfl (hm_gd _ _ M 0 _ a c _ none none (Nat.lt_succ_self _))
    have hc : ha_C ext n1 67 [.long a, .long c] M1 11 0 = some (some (.long z), M1) := by
      unfold ha_C
      rw [hn 67 _ _ _ rfl (by decide)]
      exact h1
    refine ha_RT_call (virt := false) (a := 0) (x := 67) (y := 2) rfl rfl (by decide) (q := _) rfl ⟨rfl, Nat.le_refl 2, Nat.zero_le _, Nat.le_refl 0, Nat.le_of_ble_eq_true rfl⟩ hc ?_
    show ha_RT ext 66 5 _ _ _ _ _
    refine ha_RT_sN [7, 9, 10, 11] (pc' := 11) (L' := [some (.long a), none, some (.long c), none, some (.int p), some (.long z), none]) (st' := [.int (lg_cmp z (Int64.ofInt 0))]) rfl rfl ?_
    by_cases hz : z = 0
    · refine ha_RT_br (pc' := 14) (st' := []) rfl rfl (by rw [(hm_cmp0 z).mpr hz]; rfl) ?_
      refine ha_RT_sN [15] (pc' := 15) (L' := [some (.long a), none, some (.long c), none, some (.int p), some (.long z), none]) (st' := [.long (Int64.ofInt 0)]) rfl rfl ?_
      exact ha_RT_ret (rv := some (.long (Int64.ofInt 0))) rfl rfl rfl rfl ⟨rfl, _, rfl⟩
    · refine ha_RT_br (pc' := 16) (st' := []) rfl rfl (by
        have : ¬ lg_cmp z (Int64.ofInt 0) = 0 := fun q => hz ((hm_cmp0 z).mp q)
        simp only [hz_br, hz_cmp, this, decide_false, Bool.not_false, if_true]) ?_
      have fin : ∀ v : Int64, ha_RT ext 66 26 [some (.long a), none, some (.long c), none, some (.int p), some (.long z), none] [.long v] M1 (0 - 0) (fun rv M' => M' = M1 ∧ ∃ z : Int64, rv = some (.long z)) := by
        intro v
        refine ha_RT_sN [28] (pc' := 28) (L' := [some (.long a), none, some (.long c), none, some (.int p), some (.long z), none]) (st' := [.long z, .long v]) rfl rfl ?_
        refine ha_RT_stk (st' := [.long (v / z)]) rfl rfl (if_neg hz) ?_
        show ha_RT ext 66 29 _ _ _ _ _
        exact ha_RT_ret (rv := some (.long (v / z))) rfl rfl rfl rfl ⟨rfl, _, rfl⟩
      refine ha_RT_sN [18] (pc' := 18) (L' := [some (.long a), none, some (.long c), none, some (.int p), some (.long z), none]) (st' := [.int p]) rfl rfl ?_
      cases hp : hz_cmp .ne p 0 with
      | true =>
        refine ha_RT_br (pc' := 25) (st' := []) rfl rfl (by simp only [hz_br, hp, if_true]) ?_
        exact ha_RT_sN [26] (pc' := 26) (L' := [some (.long a), none, some (.long c), none, some (.int p), some (.long z), none]) (st' := [.long c]) rfl rfl (fin c)
      | false =>
        refine ha_RT_br (pc' := 21) (st' := []) rfl rfl (by simp only [hz_br, hp, Bool.false_eq_true, if_false]) ?_
        exact ha_RT_sN [22, 26] (pc' := 26) (L' := [some (.long a), none, some (.long c), none, some (.int p), some (.long z), none]) (st' := [.long a]) rfl rfl (fin a)
  obtain ⟨n, rv, M', h1, rfl, z, rfl⟩ := key
  refine ⟨n, some (.long z), M', ?_, (show ∃ y : Int64, Value.long z = .long y from ⟨z, rfl⟩), hm_wok hi⟩
  unfold ha_C
  rw [hn 66 _ _ _ rfl (by decide)]
  exact h1
set_option maxRecDepth 10000 in
/-- partOf -/
theorem hm_v1 {W : List ha_sh} (hn : ∀ (x : Nat) (As : List Value) (M : hzMem) (q : hzN), hzM[x]? = some q → q.2.2.2.2.2.2.2.2.1 ≠ 0 → ext x As M = none) : ha_val ext W hm_Y1 := by
  intro As M hA hi q hq
  obtain ⟨a, c, p, rfl⟩ := hm_args3 hA
  cases hq
  have key : ha_RT ext 146 0 [some (.long a), none, some (.long c), none, some (.int p)] [] M 0 (fun rv M' => M' = M ∧ ∃ z : Int64, rv = some (.long z)) := by
    refine ha_RT_sN [1, 2, 3] (pc' := 3) (L' := [some (.long a), none, some (.long c), none, some (.int p)]) (st' := [.int (lg_cmp a (Int64.ofInt 0))]) rfl rfl ?_
    by_cases ha : a = 0
    · refine ha_RT_br (pc' := 6) (st' := []) rfl rfl (by rw [(hm_cmp0 a).mpr ha]; rfl) ?_
      refine ha_RT_sN [8, 9] (pc' := 9) (L' := [some (.long a), none, some (.long c), none, some (.int p)]) (st' := [.long p.toInt64]) rfl rfl ?_
      exact ha_RT_ret (rv := some (.long p.toInt64)) rfl rfl rfl rfl ⟨rfl, _, rfl⟩
    · refine ha_RT_br (pc' := 10) (st' := []) rfl rfl (by
        have : ¬ lg_cmp a (Int64.ofInt 0) = 0 := fun q => ha ((hm_cmp0 a).mp q)
        simp only [hz_br, hz_cmp, this, decide_false, Bool.not_false, if_true]) ?_
      have fin : ∀ v : Int64, ha_RT ext 146 20 [some (.long a), none, some (.long c), none, some (.int p)] [.long v] M 0 (fun rv M' => M' = M ∧ ∃ z : Int64, rv = some (.long z)) := by
        intro v
        refine ha_RT_sN [21, 22] (pc' := 22) (L' := [some (.long a), none, some (.long c), none, some (.int p)]) (st' := [.long c, .long a, .long v]) rfl rfl ?_
        obtain ⟨n1, rv1, M1, h1, rfl, z, rfl, hz⟩ := ha_RT_sN (ext := ext) (k := 145) (M := M) (b := 0) (Post := fun rv M' => M' = M ∧ ∃ z : Int64, rv = some (.long z) ∧ (a ≠ 0 ∨ c ≠ 0 → z ≠ 0)) [1, 3, 4, 6] (pc := 0) (L := [some (.long a), none, some (.long c), none, none, none, none, none, none, none]) (st := []) (pc' := 6) (L' := hm_Lg (.long a) (.long c) a c none none) (st' := []) rfl rfl (hm_gcd _ _ M 0 _ a c none none (Nat.lt_succ_self _))
        have hz := hz (Or.inl ha)
        have hc : ha_C ext n1 145 [.long a, .long c] M1 10 0 = some (some (.long z), M1) := by
          unfold ha_C
          rw [hn 145 _ _ _ rfl (by decide)]
          exact h1
        refine ha_RT_call (virt := false) (a := 0) (x := 145) (y := 2) rfl rfl (by decide) (q := _) rfl ⟨rfl, Nat.le_of_ble_eq_true rfl, Nat.le_of_ble_eq_true rfl, Nat.le_refl 0, Nat.le_of_ble_eq_true rfl⟩ hc ?_
        show ha_RT ext 146 25 _ _ _ _ _
        refine ha_RT_stk (st' := [.long (v / z)]) rfl rfl (if_neg hz) ?_
        show ha_RT ext 146 26 _ _ _ _ _
        exact ha_RT_ret (rv := some (.long (v / z))) rfl rfl rfl rfl ⟨rfl, _, rfl⟩
      refine ha_RT_sN [12] (pc' := 12) (L' := [some (.long a), none, some (.long c), none, some (.int p)]) (st' := [.int p]) rfl rfl ?_
      cases hp : hz_cmp .ne p 0 with
      | true =>
        refine ha_RT_br (pc' := 19) (st' := []) rfl rfl (by simp only [hz_br, hp, if_true]) ?_
        exact ha_RT_sN [20] (pc' := 20) (L' := [some (.long a), none, some (.long c), none, some (.int p)]) (st' := [.long c]) rfl rfl (fin c)
      | false =>
        refine ha_RT_br (pc' := 15) (st' := []) rfl rfl (by simp only [hz_br, hp, Bool.false_eq_true, if_false]) ?_
        exact ha_RT_sN [16, 20] (pc' := 20) (L' := [some (.long a), none, some (.long c), none, some (.int p)]) (st' := [.long a]) rfl rfl (fin a)
  obtain ⟨n, rv, M', h1, rfl, z, rfl⟩ := key
  refine ⟨n, some (.long z), M', ?_, (show ∃ y : Int64, Value.long z = .long y from ⟨z, rfl⟩), hm_wok hi⟩
  unfold ha_C
  rw [hn 146 _ _ _ rfl (by decide)]
  exact h1
end HG2
