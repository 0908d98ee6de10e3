/-! COST AND TOSS, exactly -/
def sp_worth (k f : Int32) : Int32 := if k = 1 then Int32.ofInt 3 else if k = 2 then Int32.ofInt 5 + f else if k = 3 then Int32.ofInt 1 else if k = 4 then Int32.ofInt 6 else if k = 5 then Int32.ofInt 14 + f else if k = 6 then f else Int32.ofInt 2
theorem hs_k8 {k : Int32} (h : 0 ≤ k.toInt ∧ k.toInt ≤ 7) : k = Int32.ofInt 0 ∨ k = Int32.ofInt 1 ∨ k = Int32.ofInt 2 ∨ k = Int32.ofInt 3 ∨ k = Int32.ofInt 4 ∨ k = Int32.ofInt 5 ∨ k = Int32.ofInt 6 ∨ k = Int32.ofInt 7 := by
  have g : ∀ z : Int, k.toInt = z → k = Int32.ofInt z := fun z hz => by rw [← hz, Int32.ofInt_toInt]
  have : k.toInt = 0 ∨ k.toInt = 1 ∨ k.toInt = 2 ∨ k.toInt = 3 ∨ k.toInt = 4 ∨ k.toInt = 5 ∨ k.toInt = 6 ∨ k.toInt = 7 := by omega
  rcases this with h | h | h | h | h | h | h | h
  · exact Or.inl (g _ h)
  · exact Or.inr (Or.inl (g _ h))
  · exact Or.inr (Or.inr (Or.inl (g _ h)))
  · exact Or.inr (Or.inr (Or.inr (Or.inl (g _ h))))
  · exact Or.inr (Or.inr (Or.inr (Or.inr (Or.inl (g _ h)))))
  · exact Or.inr (Or.inr (Or.inr (Or.inr (Or.inr (Or.inl (g _ h))))))
  · exact Or.inr (Or.inr (Or.inr (Or.inr (Or.inr (Or.inr (Or.inl (g _ h)))))))
  · exact Or.inr (Or.inr (Or.inr (Or.inr (Or.inr (Or.inr (Or.inr (g _ h)))))))
theorem hs_59 (f : Int32) : Int32.ofInt 5 + f + Int32.ofInt 9 = Int32.ofInt 14 + f := by
  rw [Int32.add_comm (Int32.ofInt 5) f, Int32.add_assoc, Int32.add_comm f]
  rfl
set_option maxRecDepth 10000 in
theorem hs_w169 {k : Int32} (h : 0 ≤ k.toInt ∧ k.toInt ≤ 7) (f : Int32) (M : hzMem) : ∃ n, ha_C hx_ext n 169 [.int k, .int f] M 3 0 = some (some (.int (sp_worth k f)), M) := by
  rcases hs_k8 h with rfl | rfl | rfl | rfl | rfl | rfl | rfl | rfl
  · exact ⟨30, rfl⟩
  · exact ⟨30, rfl⟩
  · exact ⟨30, rfl⟩
  · exact ⟨30, rfl⟩
  · exact ⟨30, rfl⟩
  · rw [show sp_worth (Int32.ofInt 5) f = Int32.ofInt 14 + f from rfl, ← hs_59]
    exact ⟨30, rfl⟩
  · exact ⟨30, rfl⟩
  · exact ⟨30, rfl⟩
set_option maxRecDepth 10000 in
theorem hs_w83 {k : Int32} (h : 0 ≤ k.toInt ∧ k.toInt ≤ 7) (f : Int32) (M : hzMem) : ∃ n, ha_C hx_ext n 83 [.int k, .int f] M 2 0 = some (some (.int (sp_worth k f)), M) := by
  rcases hs_k8 h with rfl | rfl | rfl | rfl | rfl | rfl | rfl | rfl <;> exact ⟨30, rfl⟩
def sp_cost (σ : Nat → hs_S) (d : Int32) : Int32 := if sp_ref σ d 1 ≠ 0 then sp_ref σ d 1 else sp_worth (σ d.toNatClampNeg).2.1 (σ d.toNatClampNeg).2.2.1
def sp_toss (σ : Nat → hs_S) (d : Int32) : Int32 := if sp_ref σ d 1 ≠ 0 then sp_ref σ d 1 else hx_r (σ d.toNatClampNeg).2.1 (σ d.toNatClampNeg).2.2.1
set_option maxHeartbeats 4000000 in
set_option maxRecDepth 10000 in
theorem hs_c42 {σ : Nat → hs_S} {M : hzMem} (hi : ha_inv hw_W M) (hC : hs_C σ M) (h0 : hs_ok σ) (d : Int32) : ∃ m, ha_C hx_ext m 42 [.ref 0, .int d] M 3 0 = some (some (.int (sp_cost σ d)), M) := by
  have key : ha_RT hx_ext 42 0 [some (.ref 0), some (.int d), none] [] M 0 (fun rv M' => M' = M ∧ rv = some (.int (sp_cost σ d))) := by
    refine ha_RT_sN [1, 2] (pc' := 2) (L' := [some (.ref 0), some (.int d), none]) (st' := [.int d, .ref 0]) rfl rfl ?_
    obtain ⟨n1, hc1⟩ := hs_r53 hx_no hi hC d
    refine ha_RT_call (virt := true) (a := 0) (x := 53) (y := 2) rfl rfl (by decide) (q := _) rfl ⟨hs_r0 hi [.int d], Nat.le_of_ble_eq_true rfl, Nat.le_of_ble_eq_true rfl, Nat.le_of_ble_eq_true rfl, Nat.le_of_ble_eq_true rfl⟩ hc1 ?_
    show ha_RT hx_ext 42 5 _ [.int (sp_ref σ d 1)] _ _ _
    refine ha_RT_sN [6, 7] (pc' := 7) (L' := [some (.ref 0), some (.int d), some (.int (sp_ref σ d 1))]) (st' := [.int (sp_ref σ d 1)]) rfl rfl ?_
    refine ha_RT_if rfl (fun h1 => ?_) (fun h1 => ?_)
    case' refine_2 =>
      show ha_RT hx_ext 42 10 _ _ _ _ _
      simp only [hz_cmp, decide_eq_false_iff_not] at h1
      have e : sp_cost σ d = sp_ref σ d 1 := if_pos h1
      refine ha_RT_sN [11] (pc' := 11) (L' := [some (.ref 0), some (.int d), some (.int (sp_ref σ d 1))]) (st' := [.int (sp_ref σ d 1)]) rfl rfl ?_
      refine ha_RT_ret (rv := some (.int (sp_ref σ d 1))) rfl rfl rfl rfl ⟨rfl, ?_⟩
      rw [e]
    show ha_RT hx_ext 42 12 _ _ _ _ _
    simp only [hz_cmp, decide_eq_true_eq] at h1
    obtain ⟨hd, hw, _⟩ := sp_ref2 h1
    have hd8 : d.toNatClampNeg < 8 := by show d.toInt.toNat < 8; omega
    obtain ⟨vs0, hO, h4⟩ := hm_fld4 hi
    obtain ⟨fr, hR, hf⟩ := hm_row hi
    obtain ⟨vs, fe, s1, s2, s3, s4, s5, s6, s7⟩ := hC d.toNatClampNeg hd8
    obtain ⟨s8, s9⟩ := s6 hw
    have bd := (h0 d.toNatClampNeg hd8).2.1 hw
    have e : sp_cost σ d = _ := if_neg (fun q => q h1)
    refine ha_RT_sN [13] (pc' := 13) (L' := [some (.ref 0), some (.int d), some (.int (sp_ref σ d 1))]) (st' := [.ref 0]) rfl rfl ?_
    refine ha_RT_mem rfl rfl (hm_rd hO h4 _ _) ?_
    show ha_RT hx_ext 42 16 _ _ _ _ _
    refine ha_RT_sN [17] (pc' := 17) (L' := [some (.ref 0), some (.int d), some (.int (sp_ref σ d 1))]) (st' := [.int d, .ref 28]) rfl rfl ?_
    refine ha_RT_mem rfl rfl (hm_aal hR hf hd.1 hd.2 _ _ _) ?_
    show ha_RT hx_ext 42 18 _ _ _ _ _
    refine ha_RT_mem rfl rfl (hm_rd s1 s8 _ _) ?_
    show ha_RT hx_ext 42 21 _ _ _ _ _
    refine ha_RT_sN [22] (pc' := 22) (L' := [some (.ref 0), some (.int d), some (.int (sp_ref σ d 1))]) (st' := [.ref 0, .int (σ d.toNatClampNeg).2.1]) rfl rfl ?_
    refine ha_RT_mem rfl rfl (hm_rd hO h4 _ _) ?_
    show ha_RT hx_ext 42 25 _ _ _ _ _
    refine ha_RT_sN [26] (pc' := 26) (L' := [some (.ref 0), some (.int d), some (.int (sp_ref σ d 1))]) (st' := [.int d, .ref 28, .int (σ d.toNatClampNeg).2.1]) rfl rfl ?_
    refine ha_RT_mem rfl rfl (hm_aal hR hf hd.1 hd.2 _ _ _) ?_
    show ha_RT hx_ext 42 27 _ _ _ _ _
    refine ha_RT_mem rfl rfl (hm_rd s1 s9 _ _) ?_
    show ha_RT hx_ext 42 30 _ _ _ _ _
    obtain ⟨n2, hc2⟩ := hs_w169 bd.1 (σ d.toNatClampNeg).2.2.1 M
    refine ha_RT_call (virt := false) (a := 0) (x := 169) (y := 2) rfl rfl (by decide) (q := _) rfl ⟨rfl, Nat.le_of_ble_eq_true rfl, Nat.le_of_ble_eq_true rfl, Nat.le_of_ble_eq_true rfl, Nat.le_of_ble_eq_true rfl⟩ hc2 ?_
    show ha_RT hx_ext 42 33 _ [.int (sp_worth (σ d.toNatClampNeg).2.1 (σ d.toNatClampNeg).2.2.1)] _ _ _
    refine ha_RT_ret (rv := some (.int (sp_worth (σ d.toNatClampNeg).2.1 (σ d.toNatClampNeg).2.2.1))) rfl rfl rfl rfl ⟨rfl, ?_⟩
    rw [e]
  obtain ⟨n, rv, M', h1, rfl, rfl⟩ := key
  exact ⟨n, hm_toC hx_no (q := hzq_42) rfl (by decide) h1⟩
set_option maxHeartbeats 4000000 in
set_option maxRecDepth 10000 in
theorem hs_c43 {σ : Nat → hs_S} {M : hzMem} (hi : ha_inv hw_W M) (hC : hs_C σ M) (h0 : hs_ok σ) (d : Int32) : ∃ m, ha_C hx_ext m 43 [.ref 0, .int d] M 3 1 = some (some (.int (sp_toss σ d)), M) := by
  have key : ha_RT hx_ext 43 0 [some (.ref 0), some (.int d), none] [] M 1 (fun rv M' => M' = M ∧ rv = some (.int (sp_toss σ d))) := by
    refine ha_RT_sN [1, 2] (pc' := 2) (L' := [some (.ref 0), some (.int d), none]) (st' := [.int d, .ref 0]) rfl rfl ?_
    obtain ⟨n1, hc1⟩ := hs_r53 hx_no hi hC d
    refine ha_RT_call (virt := true) (a := 0) (x := 53) (y := 2) rfl rfl (by decide) (q := _) rfl ⟨hs_r0 hi [.int d], Nat.le_of_ble_eq_true rfl, Nat.le_of_ble_eq_true rfl, Nat.le_of_ble_eq_true rfl, Nat.le_of_ble_eq_true rfl⟩ hc1 ?_
    show ha_RT hx_ext 43 5 _ [.int (sp_ref σ d 1)] _ _ _
    refine ha_RT_sN [6, 7] (pc' := 7) (L' := [some (.ref 0), some (.int d), some (.int (sp_ref σ d 1))]) (st' := [.int (sp_ref σ d 1)]) rfl rfl ?_
    refine ha_RT_if rfl (fun h1 => ?_) (fun h1 => ?_)
    case' refine_2 =>
      show ha_RT hx_ext 43 10 _ _ _ _ _
      simp only [hz_cmp, decide_eq_false_iff_not] at h1
      have e : sp_toss σ d = sp_ref σ d 1 := if_pos h1
      refine ha_RT_sN [11] (pc' := 11) (L' := [some (.ref 0), some (.int d), some (.int (sp_ref σ d 1))]) (st' := [.int (sp_ref σ d 1)]) rfl rfl ?_
      refine ha_RT_ret (rv := some (.int (sp_ref σ d 1))) rfl rfl rfl rfl ⟨rfl, ?_⟩
      rw [e]
    show ha_RT hx_ext 43 12 _ _ _ _ _
    simp only [hz_cmp, decide_eq_true_eq] at h1
    obtain ⟨hd, hw, _⟩ := sp_ref2 h1
    have hd8 : d.toNatClampNeg < 8 := by show d.toInt.toNat < 8; omega
    obtain ⟨vs0, hO, h4⟩ := hm_fld4 hi
    obtain ⟨fr, hR, hf⟩ := hm_row hi
    obtain ⟨vs, fe, s1, s2, s3, s4, s5, s6, s7⟩ := hC d.toNatClampNeg hd8
    obtain ⟨s8, s9⟩ := s6 hw
    have bd := (h0 d.toNatClampNeg hd8).2.1 hw
    have e : sp_toss σ d = _ := if_neg (fun q => q h1)
    refine ha_RT_sN [13] (pc' := 13) (L' := [some (.ref 0), some (.int d), some (.int (sp_ref σ d 1))]) (st' := [.ref 0]) rfl rfl ?_
    refine ha_RT_mem rfl rfl (hm_rd hO h4 _ _) ?_
    show ha_RT hx_ext 43 16 _ _ _ _ _
    refine ha_RT_sN [17] (pc' := 17) (L' := [some (.ref 0), some (.int d), some (.int (sp_ref σ d 1))]) (st' := [.int d, .ref 28]) rfl rfl ?_
    refine ha_RT_mem rfl rfl (hm_aal hR hf hd.1 hd.2 _ _ _) ?_
    show ha_RT hx_ext 43 18 _ _ _ _ _
    refine ha_RT_mem rfl rfl (hm_rd s1 s8 _ _) ?_
    show ha_RT hx_ext 43 21 _ _ _ _ _
    refine ha_RT_sN [22] (pc' := 22) (L' := [some (.ref 0), some (.int d), some (.int (sp_ref σ d 1))]) (st' := [.ref 0, .int (σ d.toNatClampNeg).2.1]) rfl rfl ?_
    refine ha_RT_mem rfl rfl (hm_rd hO h4 _ _) ?_
    show ha_RT hx_ext 43 25 _ _ _ _ _
    refine ha_RT_sN [26] (pc' := 26) (L' := [some (.ref 0), some (.int d), some (.int (sp_ref σ d 1))]) (st' := [.int d, .ref 28, .int (σ d.toNatClampNeg).2.1]) rfl rfl ?_
    refine ha_RT_mem rfl rfl (hm_aal hR hf hd.1 hd.2 _ _ _) ?_
    show ha_RT hx_ext 43 27 _ _ _ _ _
    refine ha_RT_mem rfl rfl (hm_rd s1 s9 _ _) ?_
    show ha_RT hx_ext 43 30 _ _ _ _ _
    have hc2 : ha_C hx_ext 0 69 [.int (σ d.toNatClampNeg).2.1, .int (σ d.toNatClampNeg).2.2.1] M 3 1 = some (some (.int (hx_r (σ d.toNatClampNeg).2.1 (σ d.toNatClampNeg).2.2.1)), M) := rfl
    refine ha_RT_call (virt := false) (a := 0) (x := 69) (y := 2) rfl rfl (by decide) (q := _) rfl ⟨rfl, Nat.le_of_ble_eq_true rfl, Nat.le_of_ble_eq_true rfl, Nat.le_of_ble_eq_true rfl, Nat.le_of_ble_eq_true rfl⟩ hc2 ?_
    show ha_RT hx_ext 43 33 _ [.int (hx_r (σ d.toNatClampNeg).2.1 (σ d.toNatClampNeg).2.2.1)] _ _ _
    refine ha_RT_ret (rv := some (.int (hx_r (σ d.toNatClampNeg).2.1 (σ d.toNatClampNeg).2.2.1))) rfl rfl rfl rfl ⟨rfl, ?_⟩
    rw [e]
  obtain ⟨n, rv, M', h1, rfl, rfl⟩ := key
  exact ⟨n, hm_toC hx_no (q := hzq_43) rfl (by decide) h1⟩
set_option maxRecDepth 10000 in
theorem hs_w159 {σ : Nat → hs_S} {M : hzMem} (hi : ha_inv hw_W M) (hC : hs_M σ M) (h0 : hs_ok σ) (d : Int32) : ∃ n, ha_C hx_ext n 159 [.ref 47, .int d] M 2 0 = some (some (.int (sp_ref σ d 1)), M) := by
  have key : ha_RT hx_ext 159 0 [some (.ref 47), some (.int d)] [] M 0 (fun rv M' => M' = M ∧ rv = some (.int (sp_ref σ d 1))) := by
    obtain ⟨vs, hO, v10, v11, v12, v13, v14, v15⟩ := hs_mod hi
    obtain ⟨K, KK, KF, S, Z, E, m1, m2, m3, m4, m5, m6, ho⟩ := id hC
    refine ha_RT_sN [1] (pc' := 1) (L' := [some (.ref 47), some (.int d)]) (st' := [.int d]) rfl rfl ?_
    obtain ⟨n1, hc1⟩ := hm_ex157 hx_no d M
    refine ha_RT_call (virt := false) (a := 0) (x := 157) (y := 1) rfl rfl (by decide) (q := _) rfl ⟨rfl, Nat.le_of_ble_eq_true rfl, Nat.le_of_ble_eq_true rfl, Nat.le_of_ble_eq_true rfl, Nat.le_of_ble_eq_true rfl⟩ hc1 ?_
    show ha_RT hx_ext 159 4 _ [.int (hm_bi (decide (0 ≤ d.toInt ∧ d.toInt ≤ 7)))] _ _ _
    refine ha_RT_if rfl (fun h1 => ?_) (fun h1 => ?_)
    case' refine_2 =>
      show ha_RT hx_ext 159 7 _ _ _ _ _
      rw [hm_bin, decide_eq_false_iff_not] at h1
      have e : sp_ref σ d 1 = Int32.ofInt (-1) := if_pos h1
      refine ha_RT_sN [8, 41] (pc' := 41) (L' := [some (.ref 47), some (.int d)]) (st' := [.int (Int32.ofInt (-1))]) rfl rfl ?_
      refine ha_RT_ret (rv := some (.int (Int32.ofInt (-1)))) rfl rfl rfl rfl ⟨rfl, ?_⟩
      rw [e]
    show ha_RT hx_ext 159 11 _ _ _ _ _
    rw [hm_bin, decide_eq_true_eq] at h1
    have d8 : d.toInt < ((8 : Nat) : Int) := by show d.toInt < 8; omega
    have dn : d.toNatClampNeg < 8 := by show d.toInt.toNat < 8; omega
    have hK := (ho d.toNatClampNeg dn).1
    refine ha_RT_sN [12] (pc' := 12) (L' := [some (.ref 47), some (.int d)]) (st' := [.ref 47]) rfl rfl ?_
    refine ha_RT_mem rfl rfl (hm_rd hO v10 _ _) ?_
    show ha_RT hx_ext 159 15 _ _ _ _ _
    refine ha_RT_sN [16] (pc' := 16) (L' := [some (.ref 47), some (.int d)]) (st' := [.int d, .ref 53]) rfl rfl ?_
    refine ha_RT_mem rfl rfl (hm_ial m1 h1.1 d8 _ _ _) ?_
    show ha_RT hx_ext 159 17 _ _ _ _ _
    refine ha_RT_if rfl (fun h3 => ?_) (fun h3 => ?_)
    case' refine_2 =>
      show ha_RT hx_ext 159 20 _ _ _ _ _
      simp only [hz_cmp, Bool.not_eq_false', decide_eq_true_eq] at h3
      have e : sp_ref σ d 1 = Int32.ofInt (-11) := (if_neg (fun q => q h1)).trans (if_pos (hK.symm.trans h3))
      refine ha_RT_sN [22, 41] (pc' := 41) (L' := [some (.ref 47), some (.int d)]) (st' := [.int (Int32.ofInt (-11))]) rfl rfl ?_
      refine ha_RT_ret (rv := some (.int (Int32.ofInt (-11)))) rfl rfl rfl rfl ⟨rfl, ?_⟩
      rw [e]
    show ha_RT hx_ext 159 25 _ _ _ _ _
    simp only [hz_cmp, Bool.not_eq_true', decide_eq_false_iff_not] at h3
    refine ha_RT_sN [26] (pc' := 26) (L' := [some (.ref 47), some (.int d)]) (st' := [.ref 47]) rfl rfl ?_
    refine ha_RT_mem rfl rfl (hm_rd hO v10 _ _) ?_
    show ha_RT hx_ext 159 29 _ _ _ _ _
    refine ha_RT_sN [30] (pc' := 30) (L' := [some (.ref 47), some (.int d)]) (st' := [.int d, .ref 53]) rfl rfl ?_
    refine ha_RT_mem rfl rfl (hm_ial m1 h1.1 d8 _ _ _) ?_
    show ha_RT hx_ext 159 31 _ _ _ _ _
    refine ha_RT_sN [32] (pc' := 32) (L' := [some (.ref 47), some (.int d)]) (st' := [.int (Int32.ofInt 2), .int (K d.toNatClampNeg)]) rfl rfl ?_
    refine ha_RT_ic rfl (fun h5 => ?_) (fun h5 => ?_)
    · show ha_RT hx_ext 159 40 _ _ _ _ _
      simp only [hz_cmp, Bool.not_eq_true', decide_eq_false_iff_not] at h5
      have e : sp_ref σ d 1 = Int32.ofInt 0 := (if_neg (fun q => q h1)).trans ((if_neg (fun q => h3 (hK.trans q))).trans (if_pos ((h0 d.toNatClampNeg dn).1.elim (fun q => absurd (hK.trans q) h3) (fun q => q.elim id (fun q => absurd (hK.trans q) h5)))))
      refine ha_RT_sN [41] (pc' := 41) (L' := [some (.ref 47), some (.int d)]) (st' := [.int (Int32.ofInt 0)]) rfl rfl ?_
      refine ha_RT_ret (rv := some (.int (Int32.ofInt 0))) rfl rfl rfl rfl ⟨rfl, ?_⟩
      rw [e]
    · show ha_RT hx_ext 159 35 _ _ _ _ _
      simp only [hz_cmp, Bool.not_eq_false', decide_eq_true_eq] at h5
      have e : sp_ref σ d 1 = Int32.ofInt (-12) := (if_neg (fun q => q h1)).trans ((if_neg (fun q => h3 (hK.trans q))).trans (if_neg (fun q => absurd ((show (2 : Int32) = K d.toNatClampNeg from h5.symm).trans (hK.trans q)) (by decide))))
      refine ha_RT_sN [37, 41] (pc' := 41) (L' := [some (.ref 47), some (.int d)]) (st' := [.int (Int32.ofInt (-12))]) rfl rfl ?_
      refine ha_RT_ret (rv := some (.int (Int32.ofInt (-12)))) rfl rfl rfl rfl ⟨rfl, ?_⟩
      rw [e]
  obtain ⟨n, rv, M', h1, rfl, rfl⟩ := key
  exact ⟨n, hm_toC hx_no (q := hzq_159) rfl (by decide) h1⟩
set_option maxHeartbeats 4000000 in
set_option maxRecDepth 10000 in
theorem hs_m165 {σ : Nat → hs_S} {M : hzMem} (hi : ha_inv hw_W M) (hC : hs_M σ M) (h0 : hs_ok σ) (d : Int32) : ∃ m, ha_C hx_ext m 165 [.ref 47, .int d] M 3 0 = some (some (.int (sp_cost σ d)), M) := by
  have key : ha_RT hx_ext 165 0 [some (.ref 47), some (.int d), none] [] M 0 (fun rv M' => M' = M ∧ rv = some (.int (sp_cost σ d))) := by
    obtain ⟨vs, hO, v10, v11, v12, v13, v14, v15⟩ := hs_mod hi
    obtain ⟨K, KK, KF, S, Z, E, m1, m2, m3, m4, m5, m6, ho⟩ := id hC
    refine ha_RT_sN [1, 2] (pc' := 2) (L' := [some (.ref 47), some (.int d), none]) (st' := [.int d, .ref 47]) rfl rfl ?_
    obtain ⟨n1, hc1⟩ := hs_w159 hi hC h0 d
    refine ha_RT_call (virt := true) (a := 0) (x := 159) (y := 2) rfl rfl (by decide) (q := _) rfl ⟨hs_r47 hi [.int d], Nat.le_of_ble_eq_true rfl, Nat.le_of_ble_eq_true rfl, Nat.le_of_ble_eq_true rfl, Nat.le_of_ble_eq_true rfl⟩ hc1 ?_
    show ha_RT hx_ext 165 5 _ [.int (sp_ref σ d 1)] _ _ _
    refine ha_RT_sN [6, 7] (pc' := 7) (L' := [some (.ref 47), some (.int d), some (.int (sp_ref σ d 1))]) (st' := [.int (sp_ref σ d 1)]) rfl rfl ?_
    refine ha_RT_if rfl (fun h1 => ?_) (fun h1 => ?_)
    case' refine_2 =>
      show ha_RT hx_ext 165 10 _ _ _ _ _
      simp only [hz_cmp, decide_eq_false_iff_not] at h1
      have e : sp_cost σ d = sp_ref σ d 1 := if_pos h1
      refine ha_RT_sN [11, 29] (pc' := 29) (L' := [some (.ref 47), some (.int d), some (.int (sp_ref σ d 1))]) (st' := [.int (sp_ref σ d 1)]) rfl rfl ?_
      refine ha_RT_ret (rv := some (.int (sp_ref σ d 1))) rfl rfl rfl rfl ⟨rfl, ?_⟩
      rw [e]
    show ha_RT hx_ext 165 14 _ _ _ _ _
    simp only [hz_cmp, decide_eq_true_eq] at h1
    obtain ⟨hd, hw, _⟩ := sp_ref2 h1
    have d8 : d.toInt < ((8 : Nat) : Int) := by show d.toInt < 8; omega
    have dn : d.toNatClampNeg < 8 := by show d.toInt.toNat < 8; omega
    obtain ⟨hA, hB⟩ := (ho d.toNatClampNeg dn).2.1 hw
    have bd := (h0 d.toNatClampNeg dn).2.1 hw
    have e : sp_cost σ d = _ := if_neg (fun q => q h1)
    refine ha_RT_sN [15] (pc' := 15) (L' := [some (.ref 47), some (.int d), some (.int (sp_ref σ d 1))]) (st' := [.ref 47]) rfl rfl ?_
    refine ha_RT_mem rfl rfl (hm_rd hO v11 _ _) ?_
    show ha_RT hx_ext 165 18 _ _ _ _ _
    refine ha_RT_sN [19] (pc' := 19) (L' := [some (.ref 47), some (.int d), some (.int (sp_ref σ d 1))]) (st' := [.int d, .ref 54]) rfl rfl ?_
    refine ha_RT_mem rfl rfl (hm_ial m2 hd.1 d8 _ _ _) ?_
    show ha_RT hx_ext 165 20 _ _ _ _ _
    refine ha_RT_sN [21] (pc' := 21) (L' := [some (.ref 47), some (.int d), some (.int (sp_ref σ d 1))]) (st' := [.ref 47, .int (KK d.toNatClampNeg)]) rfl rfl ?_
    refine ha_RT_mem rfl rfl (hm_rd hO v12 _ _) ?_
    show ha_RT hx_ext 165 24 _ _ _ _ _
    refine ha_RT_sN [25] (pc' := 25) (L' := [some (.ref 47), some (.int d), some (.int (sp_ref σ d 1))]) (st' := [.int d, .ref 55, .int (KK d.toNatClampNeg)]) rfl rfl ?_
    refine ha_RT_mem rfl rfl (hm_ial m3 hd.1 d8 _ _ _) ?_
    show ha_RT hx_ext 165 26 _ _ _ _ _
    rw [hA, hB]
    obtain ⟨n2, hc2⟩ := hs_w83 bd.1 (σ d.toNatClampNeg).2.2.1 M
    refine ha_RT_call (virt := false) (a := 0) (x := 83) (y := 2) rfl rfl (by decide) (q := _) rfl ⟨rfl, Nat.le_of_ble_eq_true rfl, Nat.le_of_ble_eq_true rfl, Nat.le_of_ble_eq_true rfl, Nat.le_of_ble_eq_true rfl⟩ hc2 ?_
    show ha_RT hx_ext 165 29 _ [.int (sp_worth (σ d.toNatClampNeg).2.1 (σ d.toNatClampNeg).2.2.1)] _ _ _
    refine ha_RT_ret (rv := some (.int (sp_worth (σ d.toNatClampNeg).2.1 (σ d.toNatClampNeg).2.2.1))) rfl rfl rfl rfl ⟨rfl, ?_⟩
    rw [e]
  obtain ⟨n, rv, M', h1, rfl, rfl⟩ := key
  exact ⟨n, hm_toC hx_no (q := hzq_165) rfl (by decide) h1⟩
set_option maxHeartbeats 4000000 in
set_option maxRecDepth 10000 in
theorem hs_m166 {σ : Nat → hs_S} {M : hzMem} (hi : ha_inv hw_W M) (hC : hs_M σ M) (h0 : hs_ok σ) (d : Int32) : ∃ m, ha_C hx_ext m 166 [.ref 47, .int d] M 5 0 = some (some (.int (sp_toss σ d)), M) := by
  have key : ha_RT hx_ext 166 0 [some (.ref 47), some (.int d), none, none, none] [] M 0 (fun rv M' => M' = M ∧ rv = some (.int (sp_toss σ d))) := by
    obtain ⟨vs, hO, v10, v11, v12, v13, v14, v15⟩ := hs_mod hi
    obtain ⟨K, KK, KF, S, Z, E, m1, m2, m3, m4, m5, m6, ho⟩ := id hC
    refine ha_RT_sN [1, 2] (pc' := 2) (L' := [some (.ref 47), some (.int d), none, none, none]) (st' := [.int d, .ref 47]) rfl rfl ?_
    obtain ⟨n1, hc1⟩ := hs_w159 hi hC h0 d
    refine ha_RT_call (virt := true) (a := 0) (x := 159) (y := 2) rfl rfl (by decide) (q := _) rfl ⟨hs_r47 hi [.int d], Nat.le_of_ble_eq_true rfl, Nat.le_of_ble_eq_true rfl, Nat.le_of_ble_eq_true rfl, Nat.le_of_ble_eq_true rfl⟩ hc1 ?_
    show ha_RT hx_ext 166 5 _ [.int (sp_ref σ d 1)] _ _ _
    refine ha_RT_sN [6, 7] (pc' := 7) (L' := [some (.ref 47), some (.int d), some (.int (sp_ref σ d 1)), none, none]) (st' := [.int (sp_ref σ d 1)]) rfl rfl ?_
    refine ha_RT_if rfl (fun h1 => ?_) (fun h1 => ?_)
    case' refine_2 =>
      show ha_RT hx_ext 166 10 _ _ _ _ _
      simp only [hz_cmp, decide_eq_false_iff_not] at h1
      have e : sp_toss σ d = sp_ref σ d 1 := if_pos h1
      refine ha_RT_sN [11] (pc' := 11) (L' := [some (.ref 47), some (.int d), some (.int (sp_ref σ d 1)), none, none]) (st' := [.int (sp_ref σ d 1)]) rfl rfl ?_
      refine ha_RT_ret (rv := some (.int (sp_ref σ d 1))) rfl rfl rfl rfl ⟨rfl, ?_⟩
      rw [e]
    show ha_RT hx_ext 166 12 _ _ _ _ _
    simp only [hz_cmp, decide_eq_true_eq] at h1
    obtain ⟨hd, hw, _⟩ := sp_ref2 h1
    have d8 : d.toInt < ((8 : Nat) : Int) := by show d.toInt < 8; omega
    have dn : d.toNatClampNeg < 8 := by show d.toInt.toNat < 8; omega
    obtain ⟨hA, hB⟩ := (ho d.toNatClampNeg dn).2.1 hw
    have bd := (h0 d.toNatClampNeg dn).2.1 hw
    have e : sp_toss σ d = _ := if_neg (fun q => q h1)
    refine ha_RT_sN [13] (pc' := 13) (L' := [some (.ref 47), some (.int d), some (.int (sp_ref σ d 1)), none, none]) (st' := [.ref 47]) rfl rfl ?_
    refine ha_RT_mem rfl rfl (hm_rd hO v11 _ _) ?_
    show ha_RT hx_ext 166 16 _ _ _ _ _
    refine ha_RT_sN [17] (pc' := 17) (L' := [some (.ref 47), some (.int d), some (.int (sp_ref σ d 1)), none, none]) (st' := [.int d, .ref 54]) rfl rfl ?_
    refine ha_RT_mem rfl rfl (hm_ial m2 hd.1 d8 _ _ _) ?_
    show ha_RT hx_ext 166 18 _ _ _ _ _
    rw [hA]
    generalize (σ d.toNatClampNeg).2.1 = k at e bd ⊢
    refine ha_RT_sN [19, 20] (pc' := 20) (L' := [some (.ref 47), some (.int d), some (.int (sp_ref σ d 1)), some (.int k), none]) (st' := [.ref 47]) rfl rfl ?_
    refine ha_RT_mem rfl rfl (hm_rd hO v12 _ _) ?_
    show ha_RT hx_ext 166 23 _ _ _ _ _
    refine ha_RT_sN [24] (pc' := 24) (L' := [some (.ref 47), some (.int d), some (.int (sp_ref σ d 1)), some (.int k), none]) (st' := [.int d, .ref 55]) rfl rfl ?_
    refine ha_RT_mem rfl rfl (hm_ial m3 hd.1 d8 _ _ _) ?_
    show ha_RT hx_ext 166 25 _ _ _ _ _
    rw [hB]
    generalize (σ d.toNatClampNeg).2.2.1 = f at e bd ⊢
    have n43 : (k = 3 ∨ k = 6 ∨ f = 0) → ha_RT hx_ext 166 43 [some (.ref 47), some (.int d), some (.int (sp_ref σ d 1)), some (.int k), some (.int f)] [] M 0 (fun rv M' => M' = M ∧ rv = some (.int (sp_toss σ d))) := by
      intro q
      refine ha_RT_sN [45] (pc' := 45) (L' := [some (.ref 47), some (.int d), some (.int (sp_ref σ d 1)), some (.int k), some (.int f)]) (st' := [.int (-15)]) rfl rfl ?_
      have e2 : hx_r k f = -15 := if_pos q
      refine ha_RT_ret (rv := some (.int (-15))) rfl rfl rfl rfl ⟨rfl, ?_⟩
      rw [e, e2]
    refine ha_RT_sN [27, 28, 29] (pc' := 29) (L' := [some (.ref 47), some (.int d), some (.int (sp_ref σ d 1)), some (.int k), some (.int f)]) (st' := [.int (Int32.ofInt 3), .int k]) rfl rfl ?_
    refine ha_RT_ic rfl (fun q => n43 (Or.inl (of_decide_eq_true q))) (fun k3 => ?_)
    show ha_RT hx_ext 166 32 _ _ _ _ _
    simp only [hz_cmp, decide_eq_false_iff_not] at k3
    refine ha_RT_sN [33, 35] (pc' := 35) (L' := [some (.ref 47), some (.int d), some (.int (sp_ref σ d 1)), some (.int k), some (.int f)]) (st' := [.int (Int32.ofInt 6), .int k]) rfl rfl ?_
    refine ha_RT_ic rfl (fun q => n43 (Or.inr (Or.inl (of_decide_eq_true q)))) (fun k6 => ?_)
    show ha_RT hx_ext 166 38 _ _ _ _ _
    simp only [hz_cmp, decide_eq_false_iff_not] at k6
    refine ha_RT_sN [40] (pc' := 40) (L' := [some (.ref 47), some (.int d), some (.int (sp_ref σ d 1)), some (.int k), some (.int f)]) (st' := [.int f]) rfl rfl ?_
    refine ha_RT_if rfl (fun f0 => ?_) (fun q => n43 (Or.inr (Or.inr (by simp only [hz_cmp, Bool.not_eq_false', decide_eq_true_eq] at q; exact q))))
    show ha_RT hx_ext 166 46 _ _ _ _ _
    simp only [hz_cmp, Bool.not_eq_true', decide_eq_false_iff_not] at f0
    have g : ¬ (k = 3 ∨ k = 6 ∨ f = 0) := fun q => q.elim k3 (fun q => q.elim k6 f0)
    refine ha_RT_sN [47, 48] (pc' := 48) (L' := [some (.ref 47), some (.int d), some (.int (sp_ref σ d 1)), some (.int k), some (.int f)]) (st' := [.int (Int32.ofInt 4), .int k]) rfl rfl ?_
    refine ha_RT_ic rfl (fun k4 => ?_) (fun k4 => ?_)
    case' refine_2 =>
      show ha_RT hx_ext 166 51 _ _ _ _ _
      simp only [hz_cmp, Bool.not_eq_false', decide_eq_true_eq] at k4
      refine ha_RT_sN [54, 55, 57] (pc' := 57) (L' := [some (.ref 47), some (.int d), some (.int (sp_ref σ d 1)), some (.int k), some (.int f)]) (st' := [.int f, .int k, .int (Int32.ofInt 200)]) rfl rfl ?_
      obtain ⟨n2, hc2⟩ := hs_w83 bd.1 f M
      refine ha_RT_call (virt := false) (a := 0) (x := 83) (y := 2) rfl rfl (by decide) (q := _) rfl ⟨rfl, Nat.le_of_ble_eq_true rfl, Nat.le_of_ble_eq_true rfl, Nat.le_of_ble_eq_true rfl, Nat.le_of_ble_eq_true rfl⟩ hc2 ?_
      show ha_RT hx_ext 166 60 _ [.int (sp_worth k f), .int (Int32.ofInt 200)] _ _ _
      have ew : sp_worth k f = Int32.ofInt 6 := by rw [show k = Int32.ofInt 4 from k4]; rfl
      rw [ew]
      refine ha_RT_sN [61, 79] (pc' := 79) (L' := [some (.ref 47), some (.int d), some (.int (sp_ref σ d 1)), some (.int k), some (.int f)]) (st' := [.int (Int32.ofInt 200 + Int32.ofInt 6)]) rfl rfl ?_
      have e2 : hx_r k f = Int32.ofInt 200 + Int32.ofInt 6 := (if_neg g).trans ((if_pos k4).trans rfl)
      refine ha_RT_ret (rv := some (.int (Int32.ofInt 200 + Int32.ofInt 6))) rfl rfl rfl rfl ⟨rfl, ?_⟩
      rw [e, e2]
    show ha_RT hx_ext 166 64 _ _ _ _ _
    simp only [hz_cmp, Bool.not_eq_true', decide_eq_false_iff_not] at k4
    refine ha_RT_sN [65, 66] (pc' := 66) (L' := [some (.ref 47), some (.int d), some (.int (sp_ref σ d 1)), some (.int k), some (.int f)]) (st' := [.int (Int32.ofInt 1), .int k]) rfl rfl ?_
    refine ha_RT_ic rfl (fun k1 => ?_) (fun k1 => ?_)
    · show ha_RT hx_ext 166 77 _ _ _ _ _
      simp only [hz_cmp, Bool.not_eq_true', decide_eq_false_iff_not] at k1
      refine ha_RT_sN [79] (pc' := 79) (L' := [some (.ref 47), some (.int d), some (.int (sp_ref σ d 1)), some (.int k), some (.int f)]) (st' := [.int f]) rfl rfl ?_
      have e2 : hx_r k f = f := (if_neg g).trans ((if_neg k4).trans (if_neg k1))
      refine ha_RT_ret (rv := some (.int (f))) rfl rfl rfl rfl ⟨rfl, ?_⟩
      rw [e, e2]
    · show ha_RT hx_ext 166 69 _ _ _ _ _
      simp only [hz_cmp, Bool.not_eq_false', decide_eq_true_eq] at k1
      refine ha_RT_sN [71, 73, 74, 79] (pc' := 79) (L' := [some (.ref 47), some (.int d), some (.int (sp_ref σ d 1)), some (.int k), some (.int f)]) (st' := [.int (Int32.ofInt 100 + f)]) rfl rfl ?_
      have e2 : hx_r k f = Int32.ofInt 100 + f := (if_neg g).trans ((if_neg k4).trans (if_pos k1))
      refine ha_RT_ret (rv := some (.int (Int32.ofInt 100 + f))) rfl rfl rfl rfl ⟨rfl, ?_⟩
      rw [e, e2]
  obtain ⟨n, rv, M', h1, rfl, rfl⟩ := key
  exact ⟨n, hm_toC hx_no (q := hzq_166) rfl (by decide) h1⟩
