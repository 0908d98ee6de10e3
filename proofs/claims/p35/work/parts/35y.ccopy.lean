/-! THE CLASS's COPY, exactly -/
section HS
variable {ext : Nat → List Value → hzMem → Option (Option (Option Value × hzMem))}
set_option maxRecDepth 10000 in
theorem hm_ex174 (hn : hm_no ext) {A : Nat} {vs : List Value} {z : Int32} {M : hzMem} (hM : M[A]? = some (.inr (0, vs))) (h4 : vs[4]? = some (.int z)) (z0 : 0 ≤ z.toInt) (z1 : z.toInt ≤ 100) (i n : Int32) : ∃ m, ha_C ext m 174 [.ref A, .int i, .int n] M 3 0 = some (some (.int (hm_bi (decide (0 ≤ n.toInt ∧ 0 ≤ i.toInt ∧ i.toInt + n.toInt ≤ z.toInt)))), M) := by
  have key : ha_RT ext 174 0 [some (.ref A), some (.int i), some (.int n)] [] M 0 (fun rv M' => M' = M ∧ rv = some (.int (hm_bi (decide (0 ≤ n.toInt ∧ 0 ≤ i.toInt ∧ i.toInt + n.toInt ≤ z.toInt))))) := by
    have no : ¬ (0 ≤ n.toInt ∧ 0 ≤ i.toInt ∧ i.toInt + n.toInt ≤ z.toInt) → ha_RT ext 174 22 [some (.ref A), some (.int i), some (.int n)] [] M 0 (fun rv M' => M' = M ∧ rv = some (.int (hm_bi (decide (0 ≤ n.toInt ∧ 0 ≤ i.toInt ∧ i.toInt + n.toInt ≤ z.toInt))))) := by
      intro h
      refine ha_RT_sN [23] (pc' := 23) (L' := [some (.ref A), some (.int i), some (.int n)]) (st' := [.int (Int32.ofInt 0)]) rfl rfl ?_
      refine ha_RT_ret (rv := some (.int (Int32.ofInt 0))) rfl rfl rfl rfl ⟨rfl, ?_⟩
      rw [decide_eq_false h]
      rfl
    have hs : 0 ≤ n.toInt → (z - n).toInt = z.toInt - n.toInt := fun h => by
      have := ha_rng n
      unfold ha_hi at this
      rw [Int32.toInt_sub]
      exact ha_bm (by unfold ha_lo; omega) (by unfold ha_hi; omega)
    refine ha_RT_sN [1] (pc' := 1) (L' := [some (.ref A), some (.int i), some (.int n)]) (st' := [.int n]) rfl rfl ?_
    refine ha_RT_if rfl (fun h1 => no ?_) (fun h1 => ?_)
    · simp only [hz_cmp, decide_eq_true_eq, Int32.lt_iff_toInt_lt, show (0 : Int32).toInt = 0 from rfl] at h1
      omega
    show ha_RT ext 174 4 _ _ _ _ _
    simp only [hz_cmp, decide_eq_false_iff_not, Int32.lt_iff_toInt_lt, show (0 : Int32).toInt = 0 from rfl] at h1
    refine ha_RT_sN [5] (pc' := 5) (L' := [some (.ref A), some (.int i), some (.int n)]) (st' := [.int i]) rfl rfl ?_
    refine ha_RT_if rfl (fun h2 => no ?_) (fun h2 => ?_)
    · simp only [hz_cmp, decide_eq_true_eq, Int32.lt_iff_toInt_lt, show (0 : Int32).toInt = 0 from rfl] at h2
      omega
    show ha_RT ext 174 8 _ _ _ _ _
    simp only [hz_cmp, decide_eq_false_iff_not, Int32.lt_iff_toInt_lt, show (0 : Int32).toInt = 0 from rfl] at h2
    refine ha_RT_sN [9, 10] (pc' := 10) (L' := [some (.ref A), some (.int i), some (.int n)]) (st' := [.ref A, .int i]) rfl rfl ?_
    refine ha_RT_mem rfl rfl (hm_rd hM h4 _ _) ?_
    show ha_RT ext 174 13 _ _ _ _ _
    refine ha_RT_sN [14, 15] (pc' := 15) (L' := [some (.ref A), some (.int i), some (.int n)]) (st' := [.int (z - n), .int i]) rfl rfl ?_
    refine ha_RT_ic rfl (fun h3 => no ?_) (fun h3 => ?_)
    · simp only [hz_cmp, decide_eq_true_eq, Int32.lt_iff_toInt_lt, hs (by omega)] at h3
      omega
    show ha_RT ext 174 18 _ _ _ _ _
    refine ha_RT_sN [19, 23] (pc' := 23) (L' := [some (.ref A), some (.int i), some (.int n)]) (st' := [.int (Int32.ofInt 1)]) rfl rfl ?_
    simp only [hz_cmp, decide_eq_false_iff_not, Int32.lt_iff_toInt_lt, hs (by omega)] at h3
    refine ha_RT_ret (rv := some (.int (Int32.ofInt 1))) rfl rfl rfl rfl ⟨rfl, ?_⟩
    rw [decide_eq_true (show 0 ≤ n.toInt ∧ 0 ≤ i.toInt ∧ i.toInt + n.toInt ≤ z.toInt from ⟨by omega, by omega, by omega⟩)]
    rfl
  obtain ⟨n, rv, M', h1, rfl, rfl⟩ := key
  exact ⟨n, hm_toC hn (q := hzq_174) rfl (by decide) h1⟩
def sp_copy (σ : Nat → hs_S) (d i e j n : Int32) : Int32 × (Nat → hs_S) := if ¬ (0 ≤ d.toInt ∧ d.toInt ≤ 7) ∨ ¬ (0 ≤ e.toInt ∧ e.toInt ≤ 7) then (Int32.ofInt (-1), σ) else if (σ d.toNatClampNeg).1 = 0 ∨ (σ e.toNatClampNeg).1 = 0 then (Int32.ofInt (-11), σ) else if (σ d.toNatClampNeg).1 ≠ 2 ∨ (σ e.toNatClampNeg).1 ≠ 2 ∨ (σ d.toNatClampNeg).2.1 ≠ (σ e.toNatClampNeg).2.1 then (Int32.ofInt (-12), σ) else if ¬ (0 ≤ n.toInt ∧ 0 ≤ i.toInt ∧ i.toInt + n.toInt ≤ (σ d.toNatClampNeg).2.2.1.toInt) ∨ ¬ (0 ≤ n.toInt ∧ 0 ≤ j.toInt ∧ j.toInt + n.toInt ≤ (σ e.toNatClampNeg).2.2.1.toInt) then (Int32.ofInt (-13), σ) else (n, hs_u σ e.toNatClampNeg (2, (σ e.toNatClampNeg).2.1, (σ e.toNatClampNeg).2.2.1, va_cpy (σ d.toNatClampNeg).2.2.2 (σ e.toNatClampNeg).2.2.2 i.toNatClampNeg j.toNatClampNeg n.toNatClampNeg))
set_option maxHeartbeats 4000000 in
set_option maxRecDepth 10000 in
theorem hs_c41 (hn : hm_no ext) {σ : Nat → hs_S} {M : hzMem} (hi : ha_inv hw_W M) (hC : hs_C σ M) (d i e j n : Int32) : ∃ m M', ha_C ext m 41 [.ref 0, .int d, .int i, .int e, .int j, .int n] M 8 0 = some (some (.int (sp_copy σ d i e j n).1), M') ∧ ha_wok hw_W hm_Wc M M' ∧ hs_C (sp_copy σ d i e j n).2 M' := by
  have key : ha_RT ext 41 0 (hm_Lc d i e j n none none) [] M 0 (fun rv M' => rv = some (.int (sp_copy σ d i e j n).1) ∧ ha_wok hw_W hm_Wc M M' ∧ hs_C (sp_copy σ d i e j n).2 M') := by
    have n14 : ∀ x y : Option Value, sp_copy σ d i e j n = (Int32.ofInt (-1), σ) → ha_RT ext 41 14 (hm_Lc d i e j n x y) [] M 0 (fun rv M' => rv = some (.int (sp_copy σ d i e j n).1) ∧ ha_wok hw_W hm_Wc M M' ∧ hs_C (sp_copy σ d i e j n).2 M') := by
      intro x y q
      refine ha_RT_sN [15] (pc' := 15) (L' := (hm_Lc d i e j n x y)) (st' := [.int (Int32.ofInt (-1))]) rfl rfl ?_
      refine ha_RT_ret (rv := some (.int (Int32.ofInt (-1)))) rfl rfl rfl rfl ?_
      rw [q]
      exact ⟨rfl, ⟨hi, rfl, fun _ _ => rfl⟩, hC⟩
    have n48 : ∀ x y : Option Value, sp_copy σ d i e j n = (Int32.ofInt (-11), σ) → ha_RT ext 41 48 (hm_Lc d i e j n x y) [] M 0 (fun rv M' => rv = some (.int (sp_copy σ d i e j n).1) ∧ ha_wok hw_W hm_Wc M M' ∧ hs_C (sp_copy σ d i e j n).2 M') := by
      intro x y q
      refine ha_RT_sN [50] (pc' := 50) (L' := (hm_Lc d i e j n x y)) (st' := [.int (Int32.ofInt (-11))]) rfl rfl ?_
      refine ha_RT_ret (rv := some (.int (Int32.ofInt (-11)))) rfl rfl rfl rfl ?_
      rw [q]
      exact ⟨rfl, ⟨hi, rfl, fun _ _ => rfl⟩, hC⟩
    have n82 : ∀ x y : Option Value, sp_copy σ d i e j n = (Int32.ofInt (-12), σ) → ha_RT ext 41 82 (hm_Lc d i e j n x y) [] M 0 (fun rv M' => rv = some (.int (sp_copy σ d i e j n).1) ∧ ha_wok hw_W hm_Wc M M' ∧ hs_C (sp_copy σ d i e j n).2 M') := by
      intro x y q
      refine ha_RT_sN [84] (pc' := 84) (L' := (hm_Lc d i e j n x y)) (st' := [.int (Int32.ofInt (-12))]) rfl rfl ?_
      refine ha_RT_ret (rv := some (.int (Int32.ofInt (-12)))) rfl rfl rfl rfl ?_
      rw [q]
      exact ⟨rfl, ⟨hi, rfl, fun _ _ => rfl⟩, hC⟩
    have n108 : ∀ x y : Option Value, sp_copy σ d i e j n = (Int32.ofInt (-13), σ) → ha_RT ext 41 108 (hm_Lc d i e j n x y) [] M 0 (fun rv M' => rv = some (.int (sp_copy σ d i e j n).1) ∧ ha_wok hw_W hm_Wc M M' ∧ hs_C (sp_copy σ d i e j n).2 M') := by
      intro x y q
      refine ha_RT_sN [110] (pc' := 110) (L' := (hm_Lc d i e j n x y)) (st' := [.int (Int32.ofInt (-13))]) rfl rfl ?_
      refine ha_RT_ret (rv := some (.int (Int32.ofInt (-13)))) rfl rfl rfl rfl ?_
      rw [q]
      exact ⟨rfl, ⟨hi, rfl, fun _ _ => rfl⟩, hC⟩
    refine ha_RT_sN [1] (pc' := 1) (L' := (hm_Lc d i e j n none none)) (st' := [.int d]) rfl rfl ?_
    obtain ⟨m1, hc1⟩ := hm_ex51 hn d M
    refine ha_RT_call (virt := false) (a := 0) (x := 51) (y := 1) rfl rfl (by decide) (q := _) rfl ⟨rfl, Nat.le_of_ble_eq_true rfl, Nat.le_of_ble_eq_true rfl, Nat.le_refl 0, Nat.le_of_ble_eq_true rfl⟩ hc1 ?_
    show ha_RT ext 41 4 _ [.int (hm_bi (decide (0 ≤ d.toInt ∧ d.toInt ≤ 7)))] _ _ _
    refine ha_RT_if rfl (fun h1 => n14 _ _ (if_pos (Or.inl (by rw [hm_bie, Bool.not_eq_true', decide_eq_false_iff_not] at h1; exact h1)))) (fun h1 => ?_)
    show ha_RT ext 41 7 _ _ _ _ _
    rw [hm_bie, Bool.not_eq_false', decide_eq_true_eq] at h1
    refine ha_RT_sN [8] (pc' := 8) (L' := (hm_Lc d i e j n none none)) (st' := [.int e]) rfl rfl ?_
    obtain ⟨m2, hc2⟩ := hm_ex51 hn e M
    refine ha_RT_call (virt := false) (a := 0) (x := 51) (y := 1) rfl rfl (by decide) (q := _) rfl ⟨rfl, Nat.le_of_ble_eq_true rfl, Nat.le_of_ble_eq_true rfl, Nat.le_refl 0, Nat.le_of_ble_eq_true rfl⟩ hc2 ?_
    show ha_RT ext 41 11 _ [.int (hm_bi (decide (0 ≤ e.toInt ∧ e.toInt ≤ 7)))] _ _ _
    refine ha_RT_if rfl (fun h2 => ?_) (fun h2 => n14 _ _ (if_pos (Or.inr (by rw [hm_bin, decide_eq_false_iff_not] at h2; exact h2))))
    show ha_RT ext 41 16 _ _ _ _ _
    rw [hm_bin, decide_eq_true_eq] at h2
    have g1 : ¬ (¬ (0 ≤ d.toInt ∧ d.toInt ≤ 7) ∨ ¬ (0 ≤ e.toInt ∧ e.toInt ≤ 7)) := fun q => q.elim (fun q => q h1) (fun q => q h2)
    have kd : d.toNatClampNeg < 8 := by show d.toInt.toNat < 8; omega
    have ke : e.toNatClampNeg < 8 := by show e.toInt.toNat < 8; omega
    obtain ⟨vs0, hO, h4⟩ := hm_fld4 hi
    obtain ⟨fr, hR, hf⟩ := hm_row hi
    obtain ⟨vs, fe, s1, s2, s3, s4, s5, s6, s7⟩ := hC d.toNatClampNeg kd
    obtain ⟨vt, ft, t1, t2, t3, t4, t5, t6, t7⟩ := hC e.toNatClampNeg ke
    refine ha_RT_sN [17] (pc' := 17) (L' := (hm_Lc d i e j n none none)) (st' := [.ref 0]) rfl rfl ?_
    refine ha_RT_mem rfl rfl (hm_rd hO h4 _ _) ?_
    show ha_RT ext 41 20 _ _ _ _ _
    refine ha_RT_sN [21] (pc' := 21) (L' := (hm_Lc d i e j n none none)) (st' := [.int d, .ref 28]) rfl rfl ?_
    refine ha_RT_mem rfl rfl (hm_aal hR hf h1.1 h1.2 _ _ _) ?_
    show ha_RT ext 41 22 _ _ _ _ _
    refine ha_RT_sN [24, 25] (pc' := 25) (L' := (hm_Lc d i e j n (some (.ref (29 + 2 * d.toNatClampNeg))) none)) (st' := [.ref 0]) rfl rfl ?_
    refine ha_RT_mem rfl rfl (hm_rd hO h4 _ _) ?_
    show ha_RT ext 41 28 _ _ _ _ _
    refine ha_RT_sN [29] (pc' := 29) (L' := (hm_Lc d i e j n (some (.ref (29 + 2 * d.toNatClampNeg))) none)) (st' := [.int e, .ref 28]) rfl rfl ?_
    refine ha_RT_mem rfl rfl (hm_aal hR hf h2.1 h2.2 _ _ _) ?_
    show ha_RT ext 41 30 _ _ _ _ _
    refine ha_RT_sN [32, 34] (pc' := 34) (L' := (hm_Lc d i e j n (some (.ref (29 + 2 * d.toNatClampNeg))) (some (.ref (29 + 2 * e.toNatClampNeg))))) (st' := [.ref (29 + 2 * d.toNatClampNeg)]) rfl rfl ?_
    refine ha_RT_mem rfl rfl (hm_rd s1 s3 _ _) ?_
    show ha_RT ext 41 37 _ _ _ _ _
    refine ha_RT_if rfl (fun h3 => n48 _ _ ((if_neg g1).trans (if_pos (Or.inl (of_decide_eq_true h3))))) (fun h3 => ?_)
    show ha_RT ext 41 40 _ _ _ _ _
    simp only [hz_cmp, decide_eq_false_iff_not] at h3
    refine ha_RT_sN [42] (pc' := 42) (L' := (hm_Lc d i e j n (some (.ref (29 + 2 * d.toNatClampNeg))) (some (.ref (29 + 2 * e.toNatClampNeg))))) (st' := [.ref (29 + 2 * e.toNatClampNeg)]) rfl rfl ?_
    refine ha_RT_mem rfl rfl (hm_rd t1 t3 _ _) ?_
    show ha_RT ext 41 45 _ _ _ _ _
    refine ha_RT_if rfl (fun h5 => ?_) (fun h5 => n48 _ _ ((if_neg g1).trans (if_pos (Or.inr (by simp only [hz_cmp, Bool.not_eq_false', decide_eq_true_eq] at h5; exact h5)))))
    show ha_RT ext 41 51 _ _ _ _ _
    simp only [hz_cmp, Bool.not_eq_true', decide_eq_false_iff_not] at h5
    have g2 : ¬ ((σ d.toNatClampNeg).1 = 0 ∨ (σ e.toNatClampNeg).1 = 0) := fun q => q.elim h3 h5
    refine ha_RT_sN [53] (pc' := 53) (L' := (hm_Lc d i e j n (some (.ref (29 + 2 * d.toNatClampNeg))) (some (.ref (29 + 2 * e.toNatClampNeg))))) (st' := [.ref (29 + 2 * d.toNatClampNeg)]) rfl rfl ?_
    refine ha_RT_mem rfl rfl (hm_rd s1 s3 _ _) ?_
    show ha_RT ext 41 56 _ _ _ _ _
    refine ha_RT_sN [57] (pc' := 57) (L' := (hm_Lc d i e j n (some (.ref (29 + 2 * d.toNatClampNeg))) (some (.ref (29 + 2 * e.toNatClampNeg))))) (st' := [.int (Int32.ofInt 2), .int (σ d.toNatClampNeg).1]) rfl rfl ?_
    refine ha_RT_ic rfl (fun h6 => n82 _ _ ((if_neg g1).trans ((if_neg g2).trans (if_pos (Or.inl (by simp only [hz_cmp, Bool.not_eq_true', decide_eq_false_iff_not] at h6; exact h6)))))) (fun h6 => ?_)
    show ha_RT ext 41 60 _ _ _ _ _
    simp only [hz_cmp, Bool.not_eq_false', decide_eq_true_eq] at h6
    refine ha_RT_sN [62] (pc' := 62) (L' := (hm_Lc d i e j n (some (.ref (29 + 2 * d.toNatClampNeg))) (some (.ref (29 + 2 * e.toNatClampNeg))))) (st' := [.ref (29 + 2 * e.toNatClampNeg)]) rfl rfl ?_
    refine ha_RT_mem rfl rfl (hm_rd t1 t3 _ _) ?_
    show ha_RT ext 41 65 _ _ _ _ _
    refine ha_RT_sN [66] (pc' := 66) (L' := (hm_Lc d i e j n (some (.ref (29 + 2 * d.toNatClampNeg))) (some (.ref (29 + 2 * e.toNatClampNeg))))) (st' := [.int (Int32.ofInt 2), .int (σ e.toNatClampNeg).1]) rfl rfl ?_
    refine ha_RT_ic rfl (fun h7 => n82 _ _ ((if_neg g1).trans ((if_neg g2).trans (if_pos (Or.inr (Or.inl (by simp only [hz_cmp, Bool.not_eq_true', decide_eq_false_iff_not] at h7; exact h7))))))) (fun h7 => ?_)
    show ha_RT ext 41 69 _ _ _ _ _
    simp only [hz_cmp, Bool.not_eq_false', decide_eq_true_eq] at h7
    have w1 : (σ d.toNatClampNeg).1 = 2 := h6
    have w2 : (σ e.toNatClampNeg).1 = 2 := h7
    obtain ⟨s8, s9, s10⟩ := s7 w1
    obtain ⟨t8, t9, t10⟩ := t7 w2
    have bz := hm_sib (hs_shp hi kd s1) (y := 4) (lo := 0) (hi := 100) rfl s9
    have bt := hm_sib (hs_shp hi ke t1) (y := 4) (lo := 0) (hi := 100) rfl t9
    refine ha_RT_sN [71] (pc' := 71) (L' := (hm_Lc d i e j n (some (.ref (29 + 2 * d.toNatClampNeg))) (some (.ref (29 + 2 * e.toNatClampNeg))))) (st' := [.ref (29 + 2 * d.toNatClampNeg)]) rfl rfl ?_
    refine ha_RT_mem rfl rfl (hm_rd s1 s8 _ _) ?_
    show ha_RT ext 41 74 _ _ _ _ _
    refine ha_RT_sN [76] (pc' := 76) (L' := (hm_Lc d i e j n (some (.ref (29 + 2 * d.toNatClampNeg))) (some (.ref (29 + 2 * e.toNatClampNeg))))) (st' := [.ref (29 + 2 * e.toNatClampNeg), .int (σ d.toNatClampNeg).2.1]) rfl rfl ?_
    refine ha_RT_mem rfl rfl (hm_rd t1 t8 _ _) ?_
    show ha_RT ext 41 79 _ _ _ _ _
    refine ha_RT_ic rfl (fun h8 => ?_) (fun h8 => n82 _ _ ((if_neg g1).trans ((if_neg g2).trans (if_pos (Or.inr (Or.inr (by simp only [hz_cmp, decide_eq_false_iff_not] at h8; exact h8)))))))
    show ha_RT ext 41 85 _ _ _ _ _
    simp only [hz_cmp, decide_eq_true_eq] at h8
    have g3 : ¬ ((σ d.toNatClampNeg).1 ≠ 2 ∨ (σ e.toNatClampNeg).1 ≠ 2 ∨ (σ d.toNatClampNeg).2.1 ≠ (σ e.toNatClampNeg).2.1) := fun q => q.elim (fun q => q w1) (fun q => q.elim (fun q => q w2) (fun q => q h8))
    refine ha_RT_sN [87, 88, 90] (pc' := 90) (L' := (hm_Lc d i e j n (some (.ref (29 + 2 * d.toNatClampNeg))) (some (.ref (29 + 2 * e.toNatClampNeg))))) (st' := [.int n, .int i, .ref (29 + 2 * d.toNatClampNeg)]) rfl rfl ?_
    obtain ⟨m3, hc3⟩ := hm_ex174 hn s1 s9 bz.1 bz.2 i n
    refine ha_RT_call (virt := true) (a := 0) (x := 174) (y := 3) rfl rfl (by decide) (q := _) rfl ⟨by
      show hz_rcv 0 [.ref (29 + 2 * d.toNatClampNeg), .int i, .int n] M = true
      simp [hz_rcv, s1], Nat.le_of_ble_eq_true rfl, Nat.le_of_ble_eq_true rfl, Nat.le_refl 0, Nat.le_of_ble_eq_true rfl⟩ hc3 ?_
    show ha_RT ext 41 93 _ [.int (hm_bi (decide (0 ≤ n.toInt ∧ 0 ≤ i.toInt ∧ i.toInt + n.toInt ≤ (σ d.toNatClampNeg).2.2.1.toInt)))] _ _ _
    refine ha_RT_if rfl (fun h9 => n108 _ _ ((if_neg g1).trans ((if_neg g2).trans ((if_neg g3).trans (if_pos (Or.inl (by rw [hm_bie, Bool.not_eq_true', decide_eq_false_iff_not] at h9; exact h9))))))) (fun h9 => ?_)
    show ha_RT ext 41 96 _ _ _ _ _
    rw [hm_bie, Bool.not_eq_false', decide_eq_true_eq] at h9
    refine ha_RT_sN [98, 100, 102] (pc' := 102) (L' := (hm_Lc d i e j n (some (.ref (29 + 2 * d.toNatClampNeg))) (some (.ref (29 + 2 * e.toNatClampNeg))))) (st' := [.int n, .int j, .ref (29 + 2 * e.toNatClampNeg)]) rfl rfl ?_
    obtain ⟨m4, hc4⟩ := hm_ex174 hn t1 t9 bt.1 bt.2 j n
    refine ha_RT_call (virt := true) (a := 0) (x := 174) (y := 3) rfl rfl (by decide) (q := _) rfl ⟨by
      show hz_rcv 0 [.ref (29 + 2 * e.toNatClampNeg), .int j, .int n] M = true
      simp [hz_rcv, t1], Nat.le_of_ble_eq_true rfl, Nat.le_of_ble_eq_true rfl, Nat.le_refl 0, Nat.le_of_ble_eq_true rfl⟩ hc4 ?_
    show ha_RT ext 41 105 _ [.int (hm_bi (decide (0 ≤ n.toInt ∧ 0 ≤ j.toInt ∧ j.toInt + n.toInt ≤ (σ e.toNatClampNeg).2.2.1.toInt)))] _ _ _
    refine ha_RT_if rfl (fun h10 => ?_) (fun h10 => n108 _ _ ((if_neg g1).trans ((if_neg g2).trans ((if_neg g3).trans (if_pos (Or.inr (by rw [hm_bin, decide_eq_false_iff_not] at h10; exact h10)))))))
    show ha_RT ext 41 111 _ _ _ _ _
    rw [hm_bin, decide_eq_true_eq] at h10
    have q : sp_copy σ d i e j n = _ := (if_neg g1).trans ((if_neg g2).trans ((if_neg g3).trans (if_neg (fun q => q.elim (fun q => q h9) (fun q => q h10)))))
    refine ha_RT_sN [113] (pc' := 113) (L' := (hm_Lc d i e j n (some (.ref (29 + 2 * d.toNatClampNeg))) (some (.ref (29 + 2 * e.toNatClampNeg))))) (st' := [.ref (29 + 2 * d.toNatClampNeg)]) rfl rfl ?_
    refine ha_RT_mem rfl rfl (hm_rd s1 s4 _ _) ?_
    show ha_RT ext 41 116 _ _ _ _ _
    refine ha_RT_sN [117, 119] (pc' := 119) (L' := (hm_Lc d i e j n (some (.ref (29 + 2 * d.toNatClampNeg))) (some (.ref (29 + 2 * e.toNatClampNeg))))) (st' := [.ref (29 + 2 * e.toNatClampNeg), .int i, .ref (30 + 2 * d.toNatClampNeg)]) rfl rfl ?_
    refine ha_RT_mem rfl rfl (hm_rd t1 t4 _ _) ?_
    show ha_RT ext 41 122 _ _ _ _ _
    refine ha_RT_sN [124, 126] (pc' := 126) (L' := (hm_Lc d i e j n (some (.ref (29 + 2 * d.toNatClampNeg))) (some (.ref (29 + 2 * e.toNatClampNeg))))) (st' := [.int n, .int j, .ref (30 + 2 * e.toNatClampNeg), .int i, .ref (30 + 2 * d.toNatClampNeg)]) rfl rfl ?_
    have nn : ∀ z : Int32, 0 ≤ z.toInt → ¬ z < 0 := fun z hz => by
      rw [Int32.lt_iff_toInt_lt, show (0 : Int32).toInt = 0 from rfl]
      omega
    have tn : ∀ z : Int32, z.toNatClampNeg = z.toInt.toNat := fun _ => rfl
    refine ha_RT_acp (M1 := M.set (30 + 2 * e.toNatClampNeg) (.inl (0, 100, .inl (va_cpy fe ft i.toNatClampNeg j.toNatClampNeg n.toNatClampNeg)))) (st' := []) rfl (Or.inr rfl) rfl ?_ ?_
    · simp only [hz_acp, s5, t5]
      rw [if_pos]
      exact ⟨by trivial, by trivial, nn _ h9.2.1, nn _ h10.2.1, nn _ h9.1, by rw [tn, tn]; omega, by rw [tn, tn]; omega, by decide⟩
    show ha_RT ext 41 129 _ _ _ _ _
    refine ha_RT_sN [131] (pc' := 131) (L' := (hm_Lc d i e j n (some (.ref (29 + 2 * d.toNatClampNeg))) (some (.ref (29 + 2 * e.toNatClampNeg))))) (st' := [.int n]) rfl rfl ?_
    refine ha_RT_ret (rv := some (.int n)) rfl rfl rfl rfl ?_
    rw [q]
    have wk := ha_wok_set (Wr := hm_Wc) (⟨hi, rfl, fun _ _ => rfl⟩ : ha_wok hw_W hm_Wc M M) t5 (e := .inl (0, 100, .inl (va_cpy fe ft i.toNatClampNeg j.toNatClampNeg n.toNatClampNeg))) (hm_Wcm _ ke) (fun sh hsh => by
      cases (hm_Wsh _ ke).2.symm.trans hsh
      exact ⟨rfl, rfl, fun _ _ => ha_rng _⟩)
    refine ⟨rfl, wk, hs_C_set hC ⟨vt, _, by rw [List.getElem?_set_ne (by omega)]; exact t1, t2, by rw [t3, w2], t4, hs_gs t5, fun q => absurd (show (2 : Int32) = 1 from q) (by decide), fun _ => ⟨t8, t9, fun x hx => ?_⟩⟩ (fun x j1 j2 => List.getElem?_set_ne (fun z => j2 z.symm))⟩
    show va_cpy fe ft _ _ _ x = va_cpy (σ d.toNatClampNeg).2.2.2 (σ e.toNatClampNeg).2.2.2 _ _ _ x
    unfold va_cpy
    split
    · rename_i hx2
      exact s10 _ (by rw [tn, tn, tn] at *; omega)
    · exact t10 x hx
  obtain ⟨n, rv, M', h1, rfl, h2⟩ := key
  exact ⟨n, M', hm_toC hn (q := hzq_41) rfl (by decide) h1, h2⟩
end HS
