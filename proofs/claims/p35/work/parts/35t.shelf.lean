/-! THE SHELVES of both sides, exactly -/
section HS
variable {ext : Nat → List Value → hzMem → Option (Option (Option Value × hzMem))}
/-- how a shelf is held, two figures (a hat's kind and figure; a row's sort and length), a row's elements -/
abbrev hs_S : Type := Int32 × Int32 × Int32 × (Nat → Int32)
def hs_u (σ : Nat → hs_S) (d : Nat) (x : hs_S) : Nat → hs_S := fun j => if j = d then x else σ j
def hs_c (x : hs_S) (d : Nat) (M : hzMem) : Prop := ∃ (vs : List Value) (fe : Nat → Int32), M[29 + 2 * d]? = some (.inr (0, vs)) ∧ vs.length = 6 ∧ vs[0]? = some (.int x.1) ∧ vs[5]? = some (.ref (30 + 2 * d)) ∧ M[30 + 2 * d]? = some (.inl (0, 100, .inl fe)) ∧ (x.1 = 1 → vs[1]? = some (.int x.2.1) ∧ vs[2]? = some (.int x.2.2.1)) ∧ (x.1 = 2 → vs[3]? = some (.int x.2.1) ∧ vs[4]? = some (.int x.2.2.1) ∧ ∀ j : Nat, j < 100 → fe j = x.2.2.2 j)
/-- the class's shelves -/
def hs_C (σ : Nat → hs_S) (M : hzMem) : Prop := ∀ d : Nat, d < 8 → hs_c (σ d) d M
/-- the reference's -/
def hs_M (σ : Nat → hs_S) (M : hzMem) : Prop := ∃ K KK KF S Z E : Nat → Int32, M[53]? = some (.inl (0, 8, .inl K)) ∧ M[54]? = some (.inl (0, 8, .inl KK)) ∧ M[55]? = some (.inl (0, 8, .inl KF)) ∧ M[56]? = some (.inl (0, 8, .inl S)) ∧ M[57]? = some (.inl (0, 8, .inl Z)) ∧ M[58]? = some (.inl (0, 800, .inl E)) ∧
  ∀ d : Nat, d < 8 → K d = (σ d).1 ∧ ((σ d).1 = 1 → KK d = (σ d).2.1 ∧ KF d = (σ d).2.2.1) ∧ ((σ d).1 = 2 → S d = (σ d).2.1 ∧ Z d = (σ d).2.2.1 ∧ ∀ j : Nat, j < 100 → E (100 * d + j) = (σ d).2.2.2 j)
/-- in bounds -/
def hs_ok (σ : Nat → hs_S) : Prop := ∀ d : Nat, d < 8 → ((σ d).1 = 0 ∨ (σ d).1 = 1 ∨ (σ d).1 = 2) ∧ ((σ d).1 = 1 → (0 ≤ (σ d).2.1.toInt ∧ (σ d).2.1.toInt ≤ 7) ∧ (0 ≤ (σ d).2.2.1.toInt ∧ (σ d).2.2.1.toInt ≤ 9)) ∧ ((σ d).1 = 2 → (0 ≤ (σ d).2.1.toInt ∧ (σ d).2.1.toInt ≤ 2) ∧ (0 ≤ (σ d).2.2.1.toInt ∧ (σ d).2.2.1.toInt ≤ 100))
theorem hs_c_of {x : hs_S} {d : Nat} {M M' : hzMem} (h : hs_c x d M) (h1 : M'[29 + 2 * d]? = M[29 + 2 * d]?) (h2 : M'[30 + 2 * d]? = M[30 + 2 * d]?) : hs_c x d M' := by
  obtain ⟨vs, fe, a, b, c, e, f, g⟩ := h
  exact ⟨vs, fe, h1.trans a, b, c, e, h2.trans f, g⟩
/-- one shelf changed, the others' cells as they were -/
theorem hs_C_set {σ : Nat → hs_S} {M M' : hzMem} {d : Nat} {x : hs_S} (hC : hs_C σ M) (hx : hs_c x d M') (h : ∀ j : Nat, j ≠ 29 + 2 * d → j ≠ 30 + 2 * d → M'[j]? = M[j]?) : hs_C (hs_u σ d x) M' := by
  intro e he
  unfold hs_u
  by_cases q : e = d
  · subst q
    rw [if_pos rfl]
    exact hx
  · rw [if_neg q]
    exact hs_c_of (hC e he) (h _ (by omega) (by omega)) (h _ (by omega) (by omega))
theorem hs_pf {M : hzMem} {A : Nat} {vs : List Value} {y : Nat} (h : M[A]? = some (.inr (0, vs))) (hl : vs.length = 6) (hy : y < 5) (q : Int32) (i : Nat) (r : List Value) : hz_mem (.putfield i) 0 y (.int q :: .ref A :: r) M = some (r, M.set A (.inr (0, vs.set y (.int q)))) := by
  have hf : hz_fit 0 y (.int q) = true := by
    match y, hy with
    | 0, _ => rfl
    | 1, _ => rfl
    | 2, _ => rfl
    | 3, _ => rfl
    | 4, _ => rfl
  simp [hz_mem, h, hf, hl]
  omega
theorem hs_gs {M : hzMem} {A : Nat} {e0 e : (Nat × vp_A) ⊕ (Nat × List Value)} (h : M[A]? = some e0) : (M.set A e)[A]? = some e := List.getElem?_set_self (List.getElem?_eq_some_iff.mp h).1
set_option maxRecDepth 10000 in
theorem hm_ex44 (hn : hm_no ext) (x lo hi : Int32) (M : hzMem) : ∃ n, ha_C ext n 44 [.int x, .int lo, .int hi] M 3 0 = some (some (.int (hm_bi (decide (lo.toInt ≤ x.toInt ∧ x.toInt ≤ hi.toInt)))), M) := by
  have key : ha_RT ext 44 0 [some (.int x), some (.int lo), some (.int hi)] [] M 0 (fun rv M' => M' = M ∧ rv = some (.int (hm_bi (decide (lo.toInt ≤ x.toInt ∧ x.toInt ≤ hi.toInt))))) := by
    have no : ¬ (lo.toInt ≤ x.toInt ∧ x.toInt ≤ hi.toInt) → ha_RT ext 44 14 [some (.int x), some (.int lo), some (.int hi)] [] M 0 (fun rv M' => M' = M ∧ rv = some (.int (hm_bi (decide (lo.toInt ≤ x.toInt ∧ x.toInt ≤ hi.toInt))))) := by
      intro h
      refine ha_RT_sN [15] (pc' := 15) (L' := [some (.int x), some (.int lo), some (.int hi)]) (st' := [.int (Int32.ofInt 0)]) rfl rfl ?_
      refine ha_RT_ret (rv := some (.int (Int32.ofInt 0))) rfl rfl rfl rfl ⟨rfl, ?_⟩
      rw [decide_eq_false h]
      rfl
    refine ha_RT_sN [1, 2] (pc' := 2) (L' := [some (.int x), some (.int lo), some (.int hi)]) (st' := [.int lo, .int x]) rfl rfl ?_
    refine ha_RT_ic rfl (fun h1 => no ?_) (fun h1 => ?_)
    · simp only [hz_cmp, decide_eq_true_eq, Int32.lt_iff_toInt_lt] at h1
      omega
    show ha_RT ext 44 5 _ _ _ _ _
    refine ha_RT_sN [6, 7] (pc' := 7) (L' := [some (.int x), some (.int lo), some (.int hi)]) (st' := [.int hi, .int x]) rfl rfl ?_
    refine ha_RT_ic rfl (fun h2 => no ?_) (fun h2 => ?_)
    · simp only [hz_cmp, decide_eq_true_eq, Int32.lt_iff_toInt_lt] at h2
      omega
    show ha_RT ext 44 10 _ _ _ _ _
    refine ha_RT_sN [11, 15] (pc' := 15) (L' := [some (.int x), some (.int lo), some (.int hi)]) (st' := [.int (Int32.ofInt 1)]) rfl rfl ?_
    simp only [hz_cmp, decide_eq_false_iff_not, Int32.lt_iff_toInt_lt] at h1 h2
    refine ha_RT_ret (rv := some (.int (Int32.ofInt 1))) rfl rfl rfl rfl ⟨rfl, ?_⟩
    rw [decide_eq_true (show lo.toInt ≤ x.toInt ∧ x.toInt ≤ hi.toInt from ⟨by omega, by omega⟩)]
    rfl
  obtain ⟨n, rv, M', h1, rfl, rfl⟩ := key
  exact ⟨n, hm_toC hn (q := hzq_44) rfl (by decide) h1⟩
set_option maxRecDepth 10000 in
theorem hm_ex51 (hn : hm_no ext) (d : Int32) (M : hzMem) : ∃ n, ha_C ext n 51 [.int d] M 1 0 = some (some (.int (hm_bi (decide (0 ≤ d.toInt ∧ d.toInt ≤ 7)))), M) := by
  have key : ha_RT ext 51 0 [some (.int d)] [] M 0 (fun rv M' => M' = M ∧ rv = some (.int (hm_bi (decide (0 ≤ d.toInt ∧ d.toInt ≤ 7))))) := by
    refine ha_RT_sN [1, 2, 4] (pc' := 4) (L' := [some (.int d)]) (st' := [.int (Int32.ofInt 7), .int (Int32.ofInt 0), .int d]) rfl rfl ?_
    obtain ⟨n1, hc⟩ := hm_ex44 hn d (Int32.ofInt 0) (Int32.ofInt 7) M
    refine ha_RT_call (virt := false) (a := 0) (x := 44) (y := 3) rfl rfl (by decide) (q := _) rfl ⟨rfl, Nat.le_refl 3, Nat.zero_le _, Nat.le_refl 0, Nat.le_of_ble_eq_true rfl⟩ hc ?_
    show ha_RT ext 51 7 _ [.int (hm_bi (decide (0 ≤ d.toInt ∧ d.toInt ≤ 7)))] _ _ _
    generalize decide (0 ≤ d.toInt ∧ d.toInt ≤ 7) = b
    cases b
    · exact ha_RT_ret (rv := some (.int (Int32.ofInt 0))) rfl rfl rfl rfl ⟨rfl, rfl⟩
    · exact ha_RT_ret (rv := some (.int (Int32.ofInt 1))) rfl rfl rfl rfl ⟨rfl, rfl⟩
  obtain ⟨n, rv, M', h1, rfl, rfl⟩ := key
  exact ⟨n, hm_toC hn (q := hzq_51) rfl (by decide) h1⟩
set_option maxRecDepth 10000 in
theorem hm_ex157 (hn : hm_no ext) (d : Int32) (M : hzMem) : ∃ n, ha_C ext n 157 [.int d] M 1 0 = some (some (.int (hm_bi (decide (0 ≤ d.toInt ∧ d.toInt ≤ 7)))), M) := by
  have key : ha_RT ext 157 0 [some (.int d)] [] M 0 (fun rv M' => M' = M ∧ rv = some (.int (hm_bi (decide (0 ≤ d.toInt ∧ d.toInt ≤ 7))))) := by
    refine ha_RT_sN [1, 2, 4] (pc' := 4) (L' := [some (.int d)]) (st' := [.int (Int32.ofInt 7), .int (Int32.ofInt 0), .int d]) rfl rfl ?_
    obtain ⟨n1, hc⟩ := hm_ex70 hn d (Int32.ofInt 0) (Int32.ofInt 7) M
    refine ha_RT_call (virt := false) (a := 0) (x := 70) (y := 3) rfl rfl (by decide) (q := _) rfl ⟨rfl, Nat.le_refl 3, Nat.zero_le _, Nat.le_refl 0, Nat.le_of_ble_eq_true rfl⟩ hc ?_
    show ha_RT ext 157 7 _ [.int (hm_bi (decide (0 ≤ d.toInt ∧ d.toInt ≤ 7)))] _ _ _
    generalize decide (0 ≤ d.toInt ∧ d.toInt ≤ 7) = b
    cases b
    · exact ha_RT_ret (rv := some (.int (Int32.ofInt 0))) rfl rfl rfl rfl ⟨rfl, rfl⟩
    · exact ha_RT_ret (rv := some (.int (Int32.ofInt 1))) rfl rfl rfl rfl ⟨rfl, rfl⟩
  obtain ⟨n, rv, M', h1, rfl, rfl⟩ := key
  exact ⟨n, hm_toC hn (q := hzq_157) rfl (by decide) h1⟩
set_option maxRecDepth 10000 in
theorem hm_ex48 (hn : hm_no ext) (d : Int32) (M : hzMem) : ∃ n, ha_C ext n 48 [.int d] M 1 0 = some (some (.int (hm_bi (decide (0 ≤ d.toInt ∧ d.toInt ≤ 7)))), M) := by
  have key : ha_RT ext 48 0 [some (.int d)] [] M 0 (fun rv M' => M' = M ∧ rv = some (.int (hm_bi (decide (0 ≤ d.toInt ∧ d.toInt ≤ 7))))) := by
    refine ha_RT_sN [1, 2, 4] (pc' := 4) (L' := [some (.int d)]) (st' := [.int (Int32.ofInt 7), .int (Int32.ofInt 0), .int d]) rfl rfl ?_
    obtain ⟨n1, hc⟩ := hm_ex44 hn d (Int32.ofInt 0) (Int32.ofInt 7) M
    refine ha_RT_call (virt := false) (a := 0) (x := 44) (y := 3) rfl rfl (by decide) (q := _) rfl ⟨rfl, Nat.le_refl 3, Nat.zero_le _, Nat.le_refl 0, Nat.le_of_ble_eq_true rfl⟩ hc ?_
    show ha_RT ext 48 7 _ [.int (hm_bi (decide (0 ≤ d.toInt ∧ d.toInt ≤ 7)))] _ _ _
    generalize decide (0 ≤ d.toInt ∧ d.toInt ≤ 7) = b
    cases b
    · exact ha_RT_ret (rv := some (.int (Int32.ofInt 0))) rfl rfl rfl rfl ⟨rfl, rfl⟩
    · exact ha_RT_ret (rv := some (.int (Int32.ofInt 1))) rfl rfl rfl rfl ⟨rfl, rfl⟩
  obtain ⟨n, rv, M', h1, rfl, rfl⟩ := key
  exact ⟨n, hm_toC hn (q := hzq_48) rfl (by decide) h1⟩
set_option maxRecDepth 10000 in
theorem hm_ex49 (hn : hm_no ext) (d : Int32) (M : hzMem) : ∃ n, ha_C ext n 49 [.int d] M 1 0 = some (some (.int (hm_bi (decide (0 ≤ d.toInt ∧ d.toInt ≤ 9)))), M) := by
  have key : ha_RT ext 49 0 [some (.int d)] [] M 0 (fun rv M' => M' = M ∧ rv = some (.int (hm_bi (decide (0 ≤ d.toInt ∧ d.toInt ≤ 9))))) := by
    refine ha_RT_sN [1, 2, 4] (pc' := 4) (L' := [some (.int d)]) (st' := [.int (Int32.ofInt 9), .int (Int32.ofInt 0), .int d]) rfl rfl ?_
    obtain ⟨n1, hc⟩ := hm_ex44 hn d (Int32.ofInt 0) (Int32.ofInt 9) M
    refine ha_RT_call (virt := false) (a := 0) (x := 44) (y := 3) rfl rfl (by decide) (q := _) rfl ⟨rfl, Nat.le_refl 3, Nat.zero_le _, Nat.le_refl 0, Nat.le_of_ble_eq_true rfl⟩ hc ?_
    show ha_RT ext 49 7 _ [.int (hm_bi (decide (0 ≤ d.toInt ∧ d.toInt ≤ 9)))] _ _ _
    generalize decide (0 ≤ d.toInt ∧ d.toInt ≤ 9) = b
    cases b
    · exact ha_RT_ret (rv := some (.int (Int32.ofInt 0))) rfl rfl rfl rfl ⟨rfl, rfl⟩
    · exact ha_RT_ret (rv := some (.int (Int32.ofInt 1))) rfl rfl rfl rfl ⟨rfl, rfl⟩
  obtain ⟨n, rv, M', h1, rfl, rfl⟩ := key
  exact ⟨n, hm_toC hn (q := hzq_49) rfl (by decide) h1⟩
set_option maxRecDepth 10000 in
theorem hm_ex45 (hn : hm_no ext) (w : Int32) (M : hzMem) : ∃ n, ha_C ext n 45 [.int w] M 1 0 = some (some (.int (hm_bi (decide (w = 0 ∨ w = 1)))), M) := by
  have key : ha_RT ext 45 0 [some (.int w)] [] M 0 (fun rv M' => M' = M ∧ rv = some (.int (hm_bi (decide (w = 0 ∨ w = 1))))) := by
    have yes : (w = 0 ∨ w = 1) → ha_RT ext 45 9 [some (.int w)] [] M 0 (fun rv M' => M' = M ∧ rv = some (.int (hm_bi (decide (w = 0 ∨ w = 1))))) := by
      intro h
      refine ha_RT_sN [10, 14] (pc' := 14) (L' := [some (.int w)]) (st' := [.int (Int32.ofInt 1)]) rfl rfl ?_
      refine ha_RT_ret (rv := some (.int (Int32.ofInt 1))) rfl rfl rfl rfl ⟨rfl, ?_⟩
      rw [decide_eq_true h]
      rfl
    refine ha_RT_sN [1] (pc' := 1) (L' := [some (.int w)]) (st' := [.int w]) rfl rfl ?_
    refine ha_RT_if rfl (fun h1 => yes (Or.inl (of_decide_eq_true h1))) (fun h1 => ?_)
    show ha_RT ext 45 4 _ _ _ _ _
    refine ha_RT_sN [5, 6] (pc' := 6) (L' := [some (.int w)]) (st' := [.int (Int32.ofInt 1), .int w]) rfl rfl ?_
    refine ha_RT_ic rfl (fun h2 => ?_) (fun h2 => yes (Or.inr ?_))
    case' refine_2 =>
      simp only [hz_cmp, Bool.not_eq_false', decide_eq_true_eq] at h2
      exact h2
    show ha_RT ext 45 13 _ _ _ _ _
    refine ha_RT_sN [14] (pc' := 14) (L' := [some (.int w)]) (st' := [.int (Int32.ofInt 0)]) rfl rfl ?_
    refine ha_RT_ret (rv := some (.int (Int32.ofInt 0))) rfl rfl rfl rfl ⟨rfl, ?_⟩
    simp only [hz_cmp, decide_eq_false_iff_not, Bool.not_eq_true', decide_eq_false_iff_not] at h1 h2
    rw [decide_eq_false (fun q => q.elim h1 h2)]
    rfl
  obtain ⟨n, rv, M', h1, rfl, rfl⟩ := key
  exact ⟨n, hm_toC hn (q := hzq_45) rfl (by decide) h1⟩
set_option maxRecDepth 10000 in
theorem hm_cl170 (hn : hm_no ext) {M : hzMem} {A : Nat} {vs : List Value} (h : M[A]? = some (.inr (0, vs))) (hl : vs.length = 6) : ∃ n, ha_C ext n 170 [.ref A] M 1 0 = some (none, M.set A (.inr (0, vs.set 0 (.int 0)))) := by
  have key : ha_RT ext 170 0 [some (.ref A)] [] M 0 (fun rv M' => M' = M.set A (.inr (0, vs.set 0 (.int 0))) ∧ rv = none) := by
    refine ha_RT_sN [1, 2] (pc' := 2) (L' := [some (.ref A)]) (st' := [.int 0, .ref A]) rfl rfl ?_
    refine ha_RT_mem rfl rfl (hs_pf h hl (y := 0) (by decide) 0 _ _) ?_
    show ha_RT ext 170 5 _ _ _ _ _
    exact ha_RT_ret (rv := none) rfl rfl rfl rfl ⟨rfl, rfl⟩
  obtain ⟨n, rv, M', h1, rfl, rfl⟩ := key
  exact ⟨n, hm_toC hn (q := hzq_170) rfl (by decide) h1⟩
set_option maxRecDepth 10000 in
theorem hm_th171 (hn : hm_no ext) {M : hzMem} {A : Nat} {vs : List Value} (h : M[A]? = some (.inr (0, vs))) (hl : vs.length = 6) (k f : Int32) : ∃ n, ha_C ext n 171 [.ref A, .int k, .int f] M 3 0 = some (none, M.set A (.inr (0, ((vs.set 0 (.int 1)).set 1 (.int k)).set 2 (.int f)))) := by
  have key : ha_RT ext 171 0 [some (.ref A), some (.int k), some (.int f)] [] M 0 (fun rv M' => M' = M.set A (.inr (0, ((vs.set 0 (.int 1)).set 1 (.int k)).set 2 (.int f))) ∧ rv = none) := by
    refine ha_RT_sN [1, 2] (pc' := 2) (L' := [some (.ref A), some (.int k), some (.int f)]) (st' := [.int 1, .ref A]) rfl rfl ?_
    refine ha_RT_mem rfl rfl (hs_pf h hl (y := 0) (by decide) 1 _ _) ?_
    show ha_RT ext 171 5 _ _ _ _ _
    refine ha_RT_sN [6, 7] (pc' := 7) (L' := [some (.ref A), some (.int k), some (.int f)]) (st' := [.int k, .ref A]) rfl rfl ?_
    refine ha_RT_mem rfl rfl (hs_pf (hs_gs h) (by rw [List.length_set]; exact hl) (y := 1) (by decide) k _ _) ?_
    show ha_RT ext 171 10 _ _ _ _ _
    refine ha_RT_sN [11, 12] (pc' := 12) (L' := [some (.ref A), some (.int k), some (.int f)]) (st' := [.int f, .ref A]) rfl rfl ?_
    rw [List.set_set]
    refine ha_RT_mem rfl rfl (hs_pf (hs_gs h) (by rw [List.length_set, List.length_set]; exact hl) (y := 2) (by decide) f _ _) ?_
    show ha_RT ext 171 15 _ _ _ _ _
    rw [List.set_set]
    exact ha_RT_ret (rv := none) rfl rfl rfl rfl ⟨rfl, rfl⟩
  obtain ⟨n, rv, M', h1, rfl, rfl⟩ := key
  exact ⟨n, hm_toC hn (q := hzq_171) rfl (by decide) h1⟩
def sp_keep (σ : Nat → hs_S) (d w k f : Int32) : Int32 × (Nat → hs_S) := if ¬ (0 ≤ d.toInt ∧ d.toInt ≤ 7) ∨ ¬ (w = 0 ∨ w = 1) then (Int32.ofInt (-1), σ) else if w = 0 then (Int32.ofInt 0, hs_u σ d.toNatClampNeg (0, 0, 0, fun _ => 0)) else if ¬ (0 ≤ k.toInt ∧ k.toInt ≤ 7) ∨ ¬ (0 ≤ f.toInt ∧ f.toInt ≤ 9) then (Int32.ofInt (-1), σ) else (Int32.ofInt 0, hs_u σ d.toNatClampNeg (1, k, f, fun _ => 0))
theorem hs_wkeep {M : hzMem} (hi : ha_inv hw_W M) {d : Nat} (hd : d < 8) {vs vs' : List Value} (h : M[29 + 2 * d]? = some (.inr (0, vs))) (hs : ∀ sh, hw_W[29 + 2 * d]? = some sh → ha_shp sh (.inr (0, vs'))) : ha_wok hw_W hm_Wc M (M.set (29 + 2 * d) (.inr (0, vs'))) :=
  ha_wok_set ⟨hi, rfl, fun _ _ => rfl⟩ h (by have : ∀ k : Nat, k < 8 → 29 + 2 * k ∈ hm_Wc := by decide
                                             exact this d hd) hs
theorem hs_shp {M : hzMem} (hi : ha_inv hw_W M) {d : Nat} (hd : d < 8) {vs : List Value} (h : M[29 + 2 * d]? = some (.inr (0, vs))) : ha_shp (.inl (0, [.inl (0, 2), .inl ((-2147483648), 2147483647), .inl ((-2147483648), 2147483647), .inl (0, 2), .inl (0, 100), .inr (30 + 2 * d)])) (.inr (0, vs)) := by
  obtain ⟨e, hM, hs⟩ := hi _ _ (hm_Wsh d hd).1
  cases hM.symm.trans h
  exact hs
set_option maxHeartbeats 4000000 in
set_option maxRecDepth 10000 in
theorem hs_c38 (hn : hm_no ext) {σ : Nat → hs_S} {M : hzMem} (hi : ha_inv hw_W M) (hC : hs_C σ M) (d w k f : Int32) : ∃ n M', ha_C ext n 38 [.ref 0, .int d, .int w, .int k, .int f] M 5 0 = some (some (.int (sp_keep σ d w k f).1), M') ∧ ha_wok hw_W hm_Wc M M' ∧ hs_C (sp_keep σ d w k f).2 M' := by
  have key : ha_RT ext 38 0 [some (.ref 0), some (.int d), some (.int w), some (.int k), some (.int f)] [] M 0 (fun rv M' => rv = some (.int (sp_keep σ d w k f).1) ∧ ha_wok hw_W hm_Wc M M' ∧ hs_C (sp_keep σ d w k f).2 M') := by
    have no : sp_keep σ d w k f = (Int32.ofInt (-1), σ) → ∀ pc : Nat, (pc = 14 ∨ pc = 46) → ha_RT ext 38 pc [some (.ref 0), some (.int d), some (.int w), some (.int k), some (.int f)] [] M 0 (fun rv M' => rv = some (.int (sp_keep σ d w k f).1) ∧ ha_wok hw_W hm_Wc M M' ∧ hs_C (sp_keep σ d w k f).2 M') := by
      intro e pc hpc
      rcases hpc with rfl | rfl
      · refine ha_RT_sN [15] (pc' := 15) (L' := [some (.ref 0), some (.int d), some (.int w), some (.int k), some (.int f)]) (st' := [.int (Int32.ofInt (-1))]) rfl rfl ?_
        refine ha_RT_ret (rv := some (.int (Int32.ofInt (-1)))) rfl rfl rfl rfl ?_
        rw [e]
        exact ⟨rfl, ⟨hi, rfl, fun _ _ => rfl⟩, hC⟩
      · refine ha_RT_sN [47] (pc' := 47) (L' := [some (.ref 0), some (.int d), some (.int w), some (.int k), some (.int f)]) (st' := [.int (Int32.ofInt (-1))]) rfl rfl ?_
        refine ha_RT_ret (rv := some (.int (Int32.ofInt (-1)))) rfl rfl rfl rfl ?_
        rw [e]
        exact ⟨rfl, ⟨hi, rfl, fun _ _ => rfl⟩, hC⟩
    refine ha_RT_sN [1] (pc' := 1) (L' := [some (.ref 0), some (.int d), some (.int w), some (.int k), some (.int f)]) (st' := [.int d]) rfl rfl ?_
    obtain ⟨n1, hc1⟩ := hm_ex51 hn d M
    refine ha_RT_call (virt := false) (a := 0) (x := 51) (y := 1) rfl rfl (by decide) (q := _) rfl ⟨rfl, Nat.le_of_ble_eq_true rfl, Nat.le_of_ble_eq_true rfl, Nat.le_refl 0, Nat.le_of_ble_eq_true rfl⟩ hc1 ?_
    show ha_RT ext 38 4 _ [.int (hm_bi (decide (0 ≤ d.toInt ∧ d.toInt ≤ 7)))] _ _ _
    refine ha_RT_if rfl (fun h1 => no (if_pos (Or.inl (by rw [hm_bie, Bool.not_eq_true', decide_eq_false_iff_not] at h1; exact h1))) 14 (Or.inl rfl)) (fun h1 => ?_)
    show ha_RT ext 38 7 _ _ _ _ _
    rw [hm_bie, Bool.not_eq_false', decide_eq_true_eq] at h1
    refine ha_RT_sN [8] (pc' := 8) (L' := [some (.ref 0), some (.int d), some (.int w), some (.int k), some (.int f)]) (st' := [.int w]) rfl rfl ?_
    obtain ⟨n2, hc2⟩ := hm_ex45 hn w M
    refine ha_RT_call (virt := false) (a := 0) (x := 45) (y := 1) rfl rfl (by decide) (q := _) rfl ⟨rfl, Nat.le_of_ble_eq_true rfl, Nat.le_of_ble_eq_true rfl, Nat.le_refl 0, Nat.le_of_ble_eq_true rfl⟩ hc2 ?_
    show ha_RT ext 38 11 _ [.int (hm_bi (decide (w = 0 ∨ w = 1)))] _ _ _
    refine ha_RT_if rfl (fun h2 => ?_) (fun h2 => no (if_pos (Or.inr (by rw [hm_bin, decide_eq_false_iff_not] at h2; exact h2))) 14 (Or.inl rfl))
    show ha_RT ext 38 16 _ _ _ _ _
    rw [hm_bin, decide_eq_true_eq] at h2
    have hg : ¬ (¬ (0 ≤ d.toInt ∧ d.toInt ≤ 7) ∨ ¬ (w = 0 ∨ w = 1)) := fun q => q.elim (fun q => q h1) (fun q => q h2)
    have hd8 : d.toNatClampNeg < 8 := by show d.toInt.toNat < 8; omega
    obtain ⟨vs0, hO, h4⟩ := hm_fld4 hi
    obtain ⟨fr, hR, hf⟩ := hm_row hi
    obtain ⟨vs, fe, s1, s2, s3, s4, s5, s6⟩ := hC d.toNatClampNeg hd8
    have hsp := hs_shp hi hd8 s1
    refine ha_RT_sN [17] (pc' := 17) (L' := [some (.ref 0), some (.int d), some (.int w), some (.int k), some (.int f)]) (st' := [.int w]) rfl rfl ?_
    refine ha_RT_if rfl (fun h3 => ?_) (fun h3 => ?_)
    · show ha_RT ext 38 31 _ _ _ _ _
      simp only [hz_cmp, Bool.not_eq_true', decide_eq_false_iff_not] at h3
      refine ha_RT_sN [32] (pc' := 32) (L' := [some (.ref 0), some (.int d), some (.int w), some (.int k), some (.int f)]) (st' := [.int k]) rfl rfl ?_
      obtain ⟨n3, hc3⟩ := hm_ex48 hn k M
      refine ha_RT_call (virt := false) (a := 0) (x := 48) (y := 1) rfl rfl (by decide) (q := _) rfl ⟨rfl, Nat.le_of_ble_eq_true rfl, Nat.le_of_ble_eq_true rfl, Nat.le_refl 0, Nat.le_of_ble_eq_true rfl⟩ hc3 ?_
      show ha_RT ext 38 35 _ [.int (hm_bi (decide (0 ≤ k.toInt ∧ k.toInt ≤ 7)))] _ _ _
      refine ha_RT_if rfl (fun h5 => no ((if_neg hg).trans ((if_neg h3).trans (if_pos (Or.inl (by rw [hm_bie, Bool.not_eq_true', decide_eq_false_iff_not] at h5; exact h5))))) 46 (Or.inr rfl)) (fun h5 => ?_)
      show ha_RT ext 38 38 _ _ _ _ _
      rw [hm_bie, Bool.not_eq_false', decide_eq_true_eq] at h5
      refine ha_RT_sN [40] (pc' := 40) (L' := [some (.ref 0), some (.int d), some (.int w), some (.int k), some (.int f)]) (st' := [.int f]) rfl rfl ?_
      obtain ⟨n4, hc4⟩ := hm_ex49 hn f M
      refine ha_RT_call (virt := false) (a := 0) (x := 49) (y := 1) rfl rfl (by decide) (q := _) rfl ⟨rfl, Nat.le_of_ble_eq_true rfl, Nat.le_of_ble_eq_true rfl, Nat.le_refl 0, Nat.le_of_ble_eq_true rfl⟩ hc4 ?_
      show ha_RT ext 38 43 _ [.int (hm_bi (decide (0 ≤ f.toInt ∧ f.toInt ≤ 9)))] _ _ _
      refine ha_RT_if rfl (fun h6 => ?_) (fun h6 => no ((if_neg hg).trans ((if_neg h3).trans (if_pos (Or.inr (by rw [hm_bin, decide_eq_false_iff_not] at h6; exact h6))))) 46 (Or.inr rfl))
      show ha_RT ext 38 48 _ _ _ _ _
      rw [hm_bin, decide_eq_true_eq] at h6
      have e : sp_keep σ d w k f = (Int32.ofInt 0, hs_u σ d.toNatClampNeg (1, k, f, fun _ => 0)) := (if_neg hg).trans ((if_neg h3).trans (if_neg (fun q => q.elim (fun q => q h5) (fun q => q h6))))
      refine ha_RT_sN [49] (pc' := 49) (L' := [some (.ref 0), some (.int d), some (.int w), some (.int k), some (.int f)]) (st' := [.ref 0]) rfl rfl ?_
      refine ha_RT_mem rfl rfl (hm_rd hO h4 _ _) ?_
      show ha_RT ext 38 52 _ _ _ _ _
      refine ha_RT_sN [53] (pc' := 53) (L' := [some (.ref 0), some (.int d), some (.int w), some (.int k), some (.int f)]) (st' := [.int d, .ref 28]) rfl rfl ?_
      refine ha_RT_mem rfl rfl (hm_aal hR hf h1.1 h1.2 _ _ _) ?_
      show ha_RT ext 38 54 _ _ _ _ _
      refine ha_RT_sN [55, 57] (pc' := 57) (L' := [some (.ref 0), some (.int d), some (.int w), some (.int k), some (.int f)]) (st' := [.int f, .int k, .ref (29 + 2 * d.toNatClampNeg)]) rfl rfl ?_
      obtain ⟨n5, hc5⟩ := hm_th171 hn s1 s2 k f
      refine ha_RT_call (virt := true) (a := 0) (x := 171) (y := 3) rfl rfl (by decide) (q := _) rfl ⟨by
        show hz_rcv 0 [.ref (29 + 2 * d.toNatClampNeg), .int k, .int f] M = true
        simp [hz_rcv, s1], Nat.le_of_ble_eq_true rfl, Nat.le_of_ble_eq_true rfl, Nat.le_refl 0, Nat.le_of_ble_eq_true rfl⟩ hc5 ?_
      show ha_RT ext 38 60 _ [] _ _ _
      refine ha_RT_sN [61] (pc' := 61) (L' := [some (.ref 0), some (.int d), some (.int w), some (.int k), some (.int f)]) (st' := [.int (Int32.ofInt 0)]) rfl rfl ?_
      refine ha_RT_ret (rv := some (.int (Int32.ofInt 0))) rfl rfl rfl rfl ?_
      rw [e]
      refine ⟨rfl, hs_wkeep hi hd8 s1 (fun sh hsh => ?_), hs_C_set hC ⟨_, fe, hs_gs s1, by simp only [List.length_set]; exact s2, ?_, ?_, ?_, fun _ => ⟨?_, ?_⟩, fun q => absurd (show (1 : Int32) = 2 from q) (by decide)⟩ (fun j j1 j2 => List.getElem?_set_ne (fun z => j1 z.symm))⟩
      · cases (hm_Wsh _ hd8).1.symm.trans hsh
        exact hm_shps (hm_shps (hm_shps hsp (y := 0) (lo := 0) (hi := 2) rfl (by decide) (by decide)) (y := 1) rfl (ha_rng k).1 (ha_rng k).2) (y := 2) rfl (ha_rng f).1 (ha_rng f).2
      · rw [List.getElem?_set_ne (by decide), List.getElem?_set_ne (by decide)]; exact List.getElem?_set_self (by omega)
      · rw [List.getElem?_set_ne (by decide), List.getElem?_set_ne (by decide), List.getElem?_set_ne (by decide)]; exact s4
      · rw [List.getElem?_set_ne (by omega)]; exact s5
      · rw [List.getElem?_set_ne (by decide)]; exact List.getElem?_set_self (by simp only [List.length_set]; omega)
      · exact List.getElem?_set_self (by simp only [List.length_set]; omega)
    · show ha_RT ext 38 20 _ _ _ _ _
      simp only [hz_cmp, Bool.not_eq_false', decide_eq_true_eq] at h3
      have e : sp_keep σ d w k f = (Int32.ofInt 0, hs_u σ d.toNatClampNeg (0, 0, 0, fun _ => 0)) := (if_neg hg).trans (if_pos h3)
      refine ha_RT_sN [21] (pc' := 21) (L' := [some (.ref 0), some (.int d), some (.int w), some (.int k), some (.int f)]) (st' := [.ref 0]) rfl rfl ?_
      refine ha_RT_mem rfl rfl (hm_rd hO h4 _ _) ?_
      show ha_RT ext 38 24 _ _ _ _ _
      refine ha_RT_sN [25] (pc' := 25) (L' := [some (.ref 0), some (.int d), some (.int w), some (.int k), some (.int f)]) (st' := [.int d, .ref 28]) rfl rfl ?_
      refine ha_RT_mem rfl rfl (hm_aal hR hf h1.1 h1.2 _ _ _) ?_
      show ha_RT ext 38 26 _ _ _ _ _
      obtain ⟨n5, hc5⟩ := hm_cl170 hn s1 s2
      refine ha_RT_call (virt := true) (a := 0) (x := 170) (y := 1) rfl rfl (by decide) (q := _) rfl ⟨by
        show hz_rcv 0 [.ref (29 + 2 * d.toNatClampNeg)] M = true
        simp [hz_rcv, s1], Nat.le_of_ble_eq_true rfl, Nat.le_of_ble_eq_true rfl, Nat.le_refl 0, Nat.le_of_ble_eq_true rfl⟩ hc5 ?_
      show ha_RT ext 38 29 _ [] _ _ _
      refine ha_RT_sN [30] (pc' := 30) (L' := [some (.ref 0), some (.int d), some (.int w), some (.int k), some (.int f)]) (st' := [.int (Int32.ofInt 0)]) rfl rfl ?_
      refine ha_RT_ret (rv := some (.int (Int32.ofInt 0))) rfl rfl rfl rfl ?_
      rw [e]
      refine ⟨rfl, hs_wkeep hi hd8 s1 (fun sh hsh => ?_), hs_C_set hC ⟨_, fe, hs_gs s1, by simp only [List.length_set]; exact s2, ?_, ?_, ?_, fun q => absurd q (by decide), fun q => absurd q (by decide)⟩ (fun j j1 j2 => List.getElem?_set_ne (fun z => j1 z.symm))⟩
      · cases (hm_Wsh _ hd8).1.symm.trans hsh
        exact hm_shps hsp (y := 0) (lo := 0) (hi := 2) rfl (by decide) (by decide)
      · exact List.getElem?_set_self (by omega)
      · rw [List.getElem?_set_ne (by decide)]; exact s4
      · rw [List.getElem?_set_ne (by omega)]; exact s5
  obtain ⟨n, rv, M', h1, rfl, h2⟩ := key
  exact ⟨n, M', hm_toC hn (q := hzq_38) rfl (by decide) h1, h2⟩
end HS
