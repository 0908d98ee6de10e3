/-! THE REFERENCE's SHELVES, exactly: row, put -/
section HS
variable {ext : Nat → List Value → hzMem → Option (Option (Option Value × hzMem))}
theorem hs_r47 {M : hzMem} (hi : ha_inv hw_W M) (l : List Value) : hz_rcv 3 (.ref 47 :: l) M = true := by
  obtain ⟨vs, hO, _⟩ := hs_mod hi
  simp [hz_rcv, hO]
set_option maxRecDepth 10000 in
theorem hs_w158 (hn : hm_no ext) {σ : Nat → hs_S} {M : hzMem} (hi : ha_inv hw_W M) (hC : hs_M σ M) (d : Int32) : ∃ n, ha_C ext n 158 [.ref 47, .int d, .int (Int32.ofInt (-1))] M 3 0 = some (some (.int (sp_ref σ d 2)), M) := by
  have key : ha_RT ext 158 0 [some (.ref 47), some (.int d), some (.int (Int32.ofInt (-1)))] [] M 0 (fun rv M' => M' = M ∧ rv = some (.int (sp_ref σ d 2))) := by
    obtain ⟨vs, hO, v10, v11, v12, v13, v14, v15⟩ := hs_mod hi
    obtain ⟨K, KK, KF, S, Z, E, m1, m2, m3, m4, m5, m6, ho⟩ := id hC
    refine ha_RT_sN [1] (pc' := 1) (L' := [some (.ref 47), some (.int d), some (.int (Int32.ofInt (-1)))]) (st' := [.int d]) rfl rfl ?_
    obtain ⟨n1, hc1⟩ := hm_ex157 hn d M
    refine ha_RT_call (virt := false) (a := 0) (x := 157) (y := 1) rfl rfl (by decide) (q := _) rfl ⟨rfl, Nat.le_of_ble_eq_true rfl, Nat.le_of_ble_eq_true rfl, Nat.le_refl 0, Nat.le_of_ble_eq_true rfl⟩ hc1 ?_
    show ha_RT ext 158 4 _ [.int (hm_bi (decide (0 ≤ d.toInt ∧ d.toInt ≤ 7)))] _ _ _
    refine ha_RT_if rfl (fun h1 => ?_) (fun h1 => ?_)
    case' refine_2 =>
      show ha_RT ext 158 7 _ _ _ _ _
      rw [hm_bin, decide_eq_false_iff_not] at h1
      have e : sp_ref σ d 2 = Int32.ofInt (-1) := if_pos h1
      refine ha_RT_sN [8, 55] (pc' := 55) (L' := [some (.ref 47), some (.int d), some (.int (Int32.ofInt (-1)))]) (st' := [.int (Int32.ofInt (-1))]) rfl rfl ?_
      refine ha_RT_ret (rv := some (.int (Int32.ofInt (-1)))) rfl rfl rfl rfl ⟨rfl, ?_⟩
      rw [e]
    show ha_RT ext 158 11 _ _ _ _ _
    rw [hm_bin, decide_eq_true_eq] at h1
    have d8 : d.toInt < ((8 : Nat) : Int) := by show d.toInt < 8; omega
    have dn : d.toNatClampNeg < 8 := by show d.toInt.toNat < 8; omega
    have hK := (ho d.toNatClampNeg dn).1
    refine ha_RT_sN [12] (pc' := 12) (L' := [some (.ref 47), some (.int d), some (.int (Int32.ofInt (-1)))]) (st' := [.ref 47]) rfl rfl ?_
    refine ha_RT_mem rfl rfl (hm_rd hO v10 _ _) ?_
    show ha_RT ext 158 15 _ _ _ _ _
    refine ha_RT_sN [16] (pc' := 16) (L' := [some (.ref 47), some (.int d), some (.int (Int32.ofInt (-1)))]) (st' := [.int d, .ref 53]) rfl rfl ?_
    refine ha_RT_mem rfl rfl (hm_ial m1 h1.1 d8 _ _ _) ?_
    show ha_RT ext 158 17 _ _ _ _ _
    refine ha_RT_if rfl (fun h3 => ?_) (fun h3 => ?_)
    case' refine_2 =>
      show ha_RT ext 158 20 _ _ _ _ _
      simp only [hz_cmp, Bool.not_eq_false', decide_eq_true_eq] at h3
      have e : sp_ref σ d 2 = Int32.ofInt (-11) := (if_neg (fun q => q h1)).trans (if_pos (hK.symm.trans h3))
      refine ha_RT_sN [22, 55] (pc' := 55) (L' := [some (.ref 47), some (.int d), some (.int (Int32.ofInt (-1)))]) (st' := [.int (Int32.ofInt (-11))]) rfl rfl ?_
      refine ha_RT_ret (rv := some (.int (Int32.ofInt (-11)))) rfl rfl rfl rfl ⟨rfl, ?_⟩
      rw [e]
    show ha_RT ext 158 25 _ _ _ _ _
    simp only [hz_cmp, Bool.not_eq_true', decide_eq_false_iff_not] at h3
    refine ha_RT_sN [26] (pc' := 26) (L' := [some (.ref 47), some (.int d), some (.int (Int32.ofInt (-1)))]) (st' := [.ref 47]) rfl rfl ?_
    refine ha_RT_mem rfl rfl (hm_rd hO v10 _ _) ?_
    show ha_RT ext 158 29 _ _ _ _ _
    refine ha_RT_sN [30] (pc' := 30) (L' := [some (.ref 47), some (.int d), some (.int (Int32.ofInt (-1)))]) (st' := [.int d, .ref 53]) rfl rfl ?_
    refine ha_RT_mem rfl rfl (hm_ial m1 h1.1 d8 _ _ _) ?_
    show ha_RT ext 158 31 _ _ _ _ _
    refine ha_RT_sN [32] (pc' := 32) (L' := [some (.ref 47), some (.int d), some (.int (Int32.ofInt (-1)))]) (st' := [.int (Int32.ofInt 2), .int (K d.toNatClampNeg)]) rfl rfl ?_
    refine ha_RT_ic rfl (fun h5 => ?_) (fun h5 => ?_)
    · show ha_RT ext 158 49 _ _ _ _ _
      simp only [hz_cmp, Bool.not_eq_true', decide_eq_false_iff_not] at h5
      have e : sp_ref σ d 2 = Int32.ofInt (-12) := (if_neg (fun q => q h1)).trans ((if_neg (fun q => h3 (hK.trans q))).trans (if_neg (fun q => h5 (hK.trans q))))
      refine ha_RT_sN [51, 55] (pc' := 55) (L' := [some (.ref 47), some (.int d), some (.int (Int32.ofInt (-1)))]) (st' := [.int (Int32.ofInt (-12))]) rfl rfl ?_
      refine ha_RT_ret (rv := some (.int (Int32.ofInt (-12)))) rfl rfl rfl rfl ⟨rfl, ?_⟩
      rw [e]
    · show ha_RT ext 158 35 _ _ _ _ _
      simp only [hz_cmp, Bool.not_eq_false', decide_eq_true_eq] at h5
      have e : sp_ref σ d 2 = Int32.ofInt 0 := (if_neg (fun q => q h1)).trans ((if_neg (fun q => h3 (hK.trans q))).trans (if_pos (hK.symm.trans h5)))
      refine ha_RT_sN [36, 54] (pc' := 54) (L' := [some (.ref 47), some (.int d), some (.int (Int32.ofInt (-1)))]) (st' := []) rfl rfl ?_
      refine ha_RT_sN [55] (pc' := 55) (L' := [some (.ref 47), some (.int d), some (.int (Int32.ofInt (-1)))]) (st' := [.int (Int32.ofInt 0)]) rfl rfl ?_
      refine ha_RT_ret (rv := some (.int (Int32.ofInt 0))) rfl rfl rfl rfl ⟨rfl, ?_⟩
      rw [e]
  obtain ⟨n, rv, M', h1, rfl, rfl⟩ := key
  exact ⟨n, hm_toC hn (q := hzq_158) rfl (by decide) h1⟩
set_option maxHeartbeats 4000000 in
set_option maxRecDepth 10000 in
theorem hs_m162 (hn : hm_no ext) {σ : Nat → hs_S} {M : hzMem} (hi : ha_inv hw_W M) (hC : hs_M σ M) (d i v : Int32) : ∃ m M', ha_C ext m 162 [.ref 47, .int d, .int i, .int v] M 5 0 = some (some (.int (sp_put σ d i v).1), M') ∧ ha_wok hw_W hm_Wd M M' ∧ hs_M (sp_put σ d i v).2 M' := by
  have key : ha_RT ext 162 0 [some (.ref 47), some (.int d), some (.int i), some (.int v), none] [] M 0 (fun rv M' => rv = some (.int (sp_put σ d i v).1) ∧ ha_wok hw_W hm_Wd M M' ∧ hs_M (sp_put σ d i v).2 M') := by
    obtain ⟨vs, hO, v10, v11, v12, v13, v14, v15⟩ := hs_mod hi
    obtain ⟨K, KK, KF, S, Z, E, m1, m2, m3, m4, m5, m6, ho⟩ := id hC
    refine ha_RT_sN [1, 2, 3] (pc' := 3) (L' := [some (.ref 47), some (.int d), some (.int i), some (.int v), none]) (st' := [.int (Int32.ofInt (-1)), .int d, .ref 47]) rfl rfl ?_
    obtain ⟨n1, hc1⟩ := hs_w158 hn hi hC d
    refine ha_RT_call (virt := true) (a := 0) (x := 158) (y := 3) rfl rfl (by decide) (q := _) rfl ⟨hs_r47 hi [.int d, .int (Int32.ofInt (-1))], Nat.le_of_ble_eq_true rfl, Nat.le_of_ble_eq_true rfl, Nat.le_refl 0, Nat.le_of_ble_eq_true rfl⟩ hc1 ?_
    show ha_RT ext 162 6 _ [.int (sp_ref σ d 2)] _ _ _
    refine ha_RT_sN [8, 10] (pc' := 10) (L' := [some (.ref 47), some (.int d), some (.int i), some (.int v), some (.int (sp_ref σ d 2))]) (st' := [.int (sp_ref σ d 2)]) rfl rfl ?_
    refine ha_RT_if rfl (fun h1 => ?_) (fun h1 => ?_)
    case' refine_2 =>
      show ha_RT ext 162 13 _ _ _ _ _
      simp only [hz_cmp, decide_eq_false_iff_not] at h1
      have e : sp_put σ d i v = (sp_ref σ d 2, σ) := if_pos h1
      refine ha_RT_sN [15] (pc' := 15) (L' := [some (.ref 47), some (.int d), some (.int i), some (.int v), some (.int (sp_ref σ d 2))]) (st' := [.int (sp_ref σ d 2)]) rfl rfl ?_
      refine ha_RT_ret (rv := some (.int (sp_ref σ d 2))) rfl rfl rfl rfl ?_
      rw [e]
      exact ⟨rfl, ⟨hi, rfl, fun _ _ => rfl⟩, hC⟩
    show ha_RT ext 162 16 _ _ _ _ _
    simp only [hz_cmp, decide_eq_true_eq] at h1
    obtain ⟨hd, hw, _⟩ := sp_ref2 h1
    have d8 : d.toInt < ((8 : Nat) : Int) := by show d.toInt < 8; omega
    have dn : d.toNatClampNeg < 8 := by show d.toInt.toNat < 8; omega
    obtain ⟨hK, hK1, hK2⟩ := ho d.toNatClampNeg dn
    obtain ⟨hS, hZ, hE⟩ := hK2 hw
    obtain ⟨fz, mz, bz⟩ := hm_ints hi (k := 57) (n := 8) (q := (0, 100)) rfl
    have bzd : 0 ≤ (Z d.toNatClampNeg).toInt ∧ (Z d.toNatClampNeg).toInt ≤ 100 := by
      cases mz.symm.trans m5
      exact bz d.toNatClampNeg dn
    refine ha_RT_sN [17, 18, 19] (pc' := 19) (L' := [some (.ref 47), some (.int d), some (.int i), some (.int v), some (.int (sp_ref σ d 2))]) (st' := [.ref 47, .int (Int32.ofInt 0), .int i]) rfl rfl ?_
    refine ha_RT_mem rfl rfl (hm_rd hO v14 _ _) ?_
    show ha_RT ext 162 22 _ _ _ _ _
    refine ha_RT_sN [23] (pc' := 23) (L' := [some (.ref 47), some (.int d), some (.int i), some (.int v), some (.int (sp_ref σ d 2))]) (st' := [.int d, .ref 57, .int (Int32.ofInt 0), .int i]) rfl rfl ?_
    refine ha_RT_mem rfl rfl (hm_ial m5 hd.1 d8 _ _ _) ?_
    show ha_RT ext 162 24 _ _ _ _ _
    refine ha_RT_sN [25, 26] (pc' := 26) (L' := [some (.ref 47), some (.int d), some (.int i), some (.int v), some (.int (sp_ref σ d 2))]) (st' := [.int (Z d.toNatClampNeg - Int32.ofInt 1), .int (Int32.ofInt 0), .int i]) rfl rfl ?_
    obtain ⟨n2, hc2⟩ := hm_ex70 hn i (Int32.ofInt 0) (Z d.toNatClampNeg - Int32.ofInt 1) M
    refine ha_RT_call (virt := false) (a := 0) (x := 70) (y := 3) rfl rfl (by decide) (q := _) rfl ⟨rfl, Nat.le_of_ble_eq_true rfl, Nat.le_of_ble_eq_true rfl, Nat.le_refl 0, Nat.le_of_ble_eq_true rfl⟩ hc2 ?_
    show ha_RT ext 162 29 _ [.int (hm_bi (decide (0 ≤ i.toInt ∧ i.toInt ≤ (Z d.toNatClampNeg - Int32.ofInt 1).toInt)))] _ _ _
    have ez : (Z d.toNatClampNeg - Int32.ofInt 1).toInt = (Z d.toNatClampNeg).toInt - 1 := by
      rw [Int32.toInt_sub, show (Int32.ofInt 1).toInt = 1 from rfl]
      exact ha_bm (by unfold ha_lo; omega) (by unfold ha_hi; omega)
    refine ha_RT_if rfl (fun h5 => ?_) (fun h5 => ?_)
    case' refine_2 =>
      show ha_RT ext 162 32 _ _ _ _ _
      rw [hm_bin, decide_eq_false_iff_not, ez, hZ] at h5
      have e : sp_put σ d i v = (Int32.ofInt (-13), σ) := (if_neg (fun q => q h1)).trans (if_pos (by omega))
      refine ha_RT_sN [34] (pc' := 34) (L' := [some (.ref 47), some (.int d), some (.int i), some (.int v), some (.int (sp_ref σ d 2))]) (st' := [.int (Int32.ofInt (-13))]) rfl rfl ?_
      refine ha_RT_ret (rv := some (.int (Int32.ofInt (-13)))) rfl rfl rfl rfl ?_
      rw [e]
      exact ⟨rfl, ⟨hi, rfl, fun _ _ => rfl⟩, hC⟩
    show ha_RT ext 162 35 _ _ _ _ _
    rw [hm_bin, decide_eq_true_eq, ez] at h5
    have h6 : 0 ≤ i.toInt ∧ i.toInt < (σ d.toNatClampNeg).2.2.1.toInt := by rw [← hZ]; omega
    have e : sp_put σ d i v = _ := (if_neg (fun q => q h1)).trans (if_neg (fun q => q h6))
    have ei : (Int32.ofInt 100 * d + i).toInt = 100 * d.toInt + i.toInt := by
      have e1 : (Int32.ofInt 100 * d).toInt = 100 * d.toInt := by
        rw [Int32.toInt_mul, show (Int32.ofInt 100).toInt = 100 from rfl]
        exact ha_bm (by unfold ha_lo; omega) (by unfold ha_hi; omega)
      rw [Int32.toInt_add, e1]
      exact ha_bm (by unfold ha_lo; omega) (by unfold ha_hi; omega)
    have en : (Int32.ofInt 100 * d + i).toNatClampNeg = 100 * d.toNatClampNeg + i.toNatClampNeg := by
      show (Int32.ofInt 100 * d + i).toInt.toNat = 100 * d.toInt.toNat + i.toInt.toNat
      rw [ei]
      omega
    have i100 : i.toNatClampNeg < 100 := by show i.toInt.toNat < 100; omega
    have fin : ∀ x : Int32, x = sp_low (σ d.toNatClampNeg).2.1 v → ha_RT ext 162 75 [some (.ref 47), some (.int d), some (.int i), some (.int v), some (.int (sp_ref σ d 2))] [.int x, .int (Int32.ofInt 100 * d + i), .ref 58] M 0 (fun rv M' => rv = some (.int (sp_put σ d i v).1) ∧ ha_wok hw_W hm_Wd M M' ∧ hs_M (sp_put σ d i v).2 M') := by
      intro x hx
      refine ha_RT_mem rfl rfl (hm_ias m6 (by omega) (by show _ < ((800 : Nat) : Int); omega) x _ _ _) ?_
      show ha_RT ext 162 76 _ _ _ _ _
      refine ha_RT_sN [77] (pc' := 77) (L' := [some (.ref 47), some (.int d), some (.int i), some (.int v), some (.int (sp_ref σ d 2))]) (st' := [.int (Int32.ofInt 0)]) rfl rfl ?_
      refine ha_RT_ret (rv := some (.int (Int32.ofInt 0))) rfl rfl rfl rfl ?_
      rw [e, en]
      have w1 := ha_wok_set (Wr := hm_Wd) (⟨hi, rfl, fun _ _ => rfl⟩ : ha_wok hw_W hm_Wd M M) m6 (e := .inl (0, 800, .inl (upd E (100 * d.toNatClampNeg + i.toNatClampNeg) x))) (by decide) (fun sh hsh => by cases hsh; exact ⟨rfl, rfl, fun _ _ => ha_rng _⟩)
      refine ⟨rfl, w1, hs_M_set ho (hs_sg (by decide) m1) (hs_sg (by decide) m2) (hs_sg (by decide) m3) (hs_sg (by decide) m4) (hs_sg (by decide) m5) (hs_gs m6) (fun e he q => ⟨rfl, rfl, rfl, rfl, rfl, fun j hj => hs_un (by omega)⟩) ⟨hK.trans hw, fun q => absurd (show (2 : Int32) = 1 from q) (by decide), fun _ => ⟨hS, hZ, fun j hj => ?_⟩⟩⟩
      by_cases q : j = i.toNatClampNeg
      · subst q; exact hs_us.trans (hx.trans hs_us.symm)
      · rw [hs_un (by omega)]; exact (hE j hj).trans (hs_un q).symm
    refine ha_RT_sN [36] (pc' := 36) (L' := [some (.ref 47), some (.int d), some (.int i), some (.int v), some (.int (sp_ref σ d 2))]) (st' := [.ref 47]) rfl rfl ?_
    refine ha_RT_mem rfl rfl (hm_rd hO v15 _ _) ?_
    show ha_RT ext 162 39 _ _ _ _ _
    refine ha_RT_sN [41, 42, 43, 44, 45, 46] (pc' := 46) (L' := [some (.ref 47), some (.int d), some (.int i), some (.int v), some (.int (sp_ref σ d 2))]) (st' := [.ref 47, .int (Int32.ofInt 100 * d + i), .ref 58]) rfl rfl ?_
    refine ha_RT_mem rfl rfl (hm_rd hO v13 _ _) ?_
    show ha_RT ext 162 49 _ _ _ _ _
    refine ha_RT_sN [50] (pc' := 50) (L' := [some (.ref 47), some (.int d), some (.int i), some (.int v), some (.int (sp_ref σ d 2))]) (st' := [.int d, .ref 56, .int (Int32.ofInt 100 * d + i), .ref 58]) rfl rfl ?_
    refine ha_RT_mem rfl rfl (hm_ial m4 hd.1 d8 _ _ _) ?_
    show ha_RT ext 162 51 _ _ _ _ _
    refine ha_RT_if rfl (fun h7 => ?_) (fun h7 => ?_)
    case' refine_2 =>
      show ha_RT ext 162 54 _ _ _ _ _
      simp only [hz_cmp, Bool.not_eq_false', decide_eq_true_eq] at h7
      refine ha_RT_sN [55, 56, 75] (pc' := 75) (L' := [some (.ref 47), some (.int d), some (.int i), some (.int v), some (.int (sp_ref σ d 2))]) (st' := [.int v.toInt8.toInt32, .int (Int32.ofInt 100 * d + i), .ref 58]) rfl rfl ?_
      exact fin _ (if_pos (hS.symm.trans h7)).symm
    show ha_RT ext 162 59 _ _ _ _ _
    simp only [hz_cmp, Bool.not_eq_true', decide_eq_false_iff_not] at h7
    refine ha_RT_sN [60] (pc' := 60) (L' := [some (.ref 47), some (.int d), some (.int i), some (.int v), some (.int (sp_ref σ d 2))]) (st' := [.ref 47, .int (Int32.ofInt 100 * d + i), .ref 58]) rfl rfl ?_
    refine ha_RT_mem rfl rfl (hm_rd hO v13 _ _) ?_
    show ha_RT ext 162 63 _ _ _ _ _
    refine ha_RT_sN [64] (pc' := 64) (L' := [some (.ref 47), some (.int d), some (.int i), some (.int v), some (.int (sp_ref σ d 2))]) (st' := [.int d, .ref 56, .int (Int32.ofInt 100 * d + i), .ref 58]) rfl rfl ?_
    refine ha_RT_mem rfl rfl (hm_ial m4 hd.1 d8 _ _ _) ?_
    show ha_RT ext 162 65 _ _ _ _ _
    refine ha_RT_sN [66] (pc' := 66) (L' := [some (.ref 47), some (.int d), some (.int i), some (.int v), some (.int (sp_ref σ d 2))]) (st' := [.int (Int32.ofInt 1), .int (S d.toNatClampNeg), .int (Int32.ofInt 100 * d + i), .ref 58]) rfl rfl ?_
    refine ha_RT_ic rfl (fun h8 => ?_) (fun h8 => ?_)
    · show ha_RT ext 162 74 _ _ _ _ _
      simp only [hz_cmp, Bool.not_eq_true', decide_eq_false_iff_not] at h8
      refine ha_RT_sN [75] (pc' := 75) (L' := [some (.ref 47), some (.int d), some (.int i), some (.int v), some (.int (sp_ref σ d 2))]) (st' := [.int v, .int (Int32.ofInt 100 * d + i), .ref 58]) rfl rfl ?_
      exact fin _ ((if_neg (fun q => h7 (hS.trans q))).trans (if_neg (fun q => h8 (hS.trans q)))).symm
    · show ha_RT ext 162 69 _ _ _ _ _
      simp only [hz_cmp, Bool.not_eq_false', decide_eq_true_eq] at h8
      refine ha_RT_sN [70, 71, 75] (pc' := 75) (L' := [some (.ref 47), some (.int d), some (.int i), some (.int v), some (.int (sp_ref σ d 2))]) (st' := [.int v.toInt16.toInt32, .int (Int32.ofInt 100 * d + i), .ref 58]) rfl rfl ?_
      exact fin _ ((if_neg (fun q => h7 (hS.trans q))).trans (if_pos (hS.symm.trans h8))).symm
  obtain ⟨n, rv, M', h1, rfl, h2⟩ := key
  exact ⟨n, M', hm_toC hn (q := hzq_162) rfl (by decide) h1, h2⟩
set_option maxRecDepth 10000 in
theorem hs_rl {d t n : Int32} (hd : 0 ≤ d.toInt ∧ d.toInt ≤ 7) {vs : List Value} (v15 : vs[15]? = some (.ref 58)) : ∀ (m : Nat) (c : Int32) (M : hzMem) (E : Nat → Int32), 100 - c.toInt < m → 0 ≤ c.toInt → c.toInt ≤ 100 → M[47]? = some (.inr (3, vs)) → M[58]? = some (.inl (0, 800, .inl E)) → (∀ j : Nat, (j : Int) < c.toInt → E (100 * d.toNatClampNeg + j) = 0) → ha_RT ext 161 55 [some (.ref 47), some (.int d), some (.int t), some (.int n), some (.int c)] [] M 0 (fun rv M' => rv = some (.int (Int32.ofInt 0)) ∧ ∃ E' : Nat → Int32, (∀ j : Nat, j < 100 → E' (100 * d.toNatClampNeg + j) = 0) ∧ (∀ e j : Nat, e ≠ d.toNatClampNeg → j < 100 → E' (100 * e + j) = E (100 * e + j)) ∧ M' = M.set 58 (.inl (0, 800, .inl E'))) := by
  intro m
  induction m with
  | zero => intro c M E h h0 h1; omega
  | succ m ih =>
    intro c M E h h0 h1 hO mE hz
    refine ha_RT_sN [57, 59] (pc' := 59) (L' := [some (.ref 47), some (.int d), some (.int t), some (.int n), some (.int c)]) (st' := [.int (Int32.ofInt 100), .int c]) rfl rfl ?_
    refine ha_RT_ic rfl (fun h2 => ?_) (fun h2 => ?_)
    · show ha_RT ext 161 81 _ _ _ _ _
      simp only [hz_cmp, decide_eq_true_eq, Int32.le_iff_toInt_le, show (Int32.ofInt 100).toInt = 100 from rfl] at h2
      refine ha_RT_sN [82] (pc' := 82) (L' := [some (.ref 47), some (.int d), some (.int t), some (.int n), some (.int c)]) (st' := [.int (Int32.ofInt 0)]) rfl rfl ?_
      exact ha_RT_ret (rv := some (.int (Int32.ofInt 0))) rfl rfl rfl rfl ⟨rfl, E, fun j hj => hz j (by omega), fun _ _ _ _ => rfl, (hx_set0 mE).symm⟩
    show ha_RT ext 161 62 _ _ _ _ _
    simp only [hz_cmp, decide_eq_false_iff_not, Int32.le_iff_toInt_le, show (Int32.ofInt 100).toInt = 100 from rfl] at h2
    have e1 : (Int32.ofInt 100 * d).toInt = 100 * d.toInt := by
      rw [Int32.toInt_mul, show (Int32.ofInt 100).toInt = 100 from rfl]
      exact ha_bm (by unfold ha_lo; omega) (by unfold ha_hi; omega)
    have ei : (Int32.ofInt 100 * d + c).toInt = 100 * d.toInt + c.toInt := by
      rw [Int32.toInt_add, e1]
      exact ha_bm (by unfold ha_lo; omega) (by unfold ha_hi; omega)
    have en : (Int32.ofInt 100 * d + c).toNatClampNeg = 100 * d.toNatClampNeg + c.toNatClampNeg := by
      show (Int32.ofInt 100 * d + c).toInt.toNat = 100 * d.toInt.toNat + c.toInt.toNat
      rw [ei]
      omega
    have c100 : c.toNatClampNeg < 100 := by show c.toInt.toNat < 100; omega
    refine ha_RT_sN [63] (pc' := 63) (L' := [some (.ref 47), some (.int d), some (.int t), some (.int n), some (.int c)]) (st' := [.ref 47]) rfl rfl ?_
    refine ha_RT_mem rfl rfl (hm_rd hO v15 _ _) ?_
    show ha_RT ext 161 66 _ _ _ _ _
    refine ha_RT_sN [68, 69, 70, 72, 73, 74] (pc' := 74) (L' := [some (.ref 47), some (.int d), some (.int t), some (.int n), some (.int c)]) (st' := [.int (Int32.ofInt 0), .int (Int32.ofInt 100 * d + c), .ref 58]) rfl rfl ?_
    refine ha_RT_mem rfl rfl (hm_ias mE (by omega) (by show _ < ((800 : Nat) : Int); omega) (Int32.ofInt 0) _ _ _) ?_
    show ha_RT ext 161 75 _ _ _ _ _
    have hi1 : (c + Int32.ofInt 1).toInt = c.toInt + 1 := hm_p1 h0 (by omega)
    refine ha_RT_sN [78, 55] (pc' := 55) (L' := [some (.ref 47), some (.int d), some (.int t), some (.int n), some (.int (c + Int32.ofInt 1))]) (st' := []) rfl rfl ?_
    rw [en]
    obtain ⟨nn, rv, M', hr, rfl, E', z1, z2, hM⟩ := ih (c + Int32.ofInt 1) (M.set 58 (.inl (0, 800, .inl (upd E (100 * d.toNatClampNeg + c.toNatClampNeg) (Int32.ofInt 0))))) (upd E (100 * d.toNatClampNeg + c.toNatClampNeg) (Int32.ofInt 0)) (by omega) (by omega) (by omega) (hs_sg (by decide) hO) (hs_gs mE) (fun j hj => by
      by_cases q : j = c.toNatClampNeg
      · subst q; exact hs_us
      · rw [hs_un (by omega)]
        have : ¬ j = c.toInt.toNat := q
        exact hz j (by omega))
    rw [List.set_set] at hM
    exact ⟨nn, _, M', hr, rfl, E', z1, fun e j he hj => (z2 e j he hj).trans (hs_un (by omega)), hM⟩
set_option maxHeartbeats 4000000 in
set_option maxRecDepth 10000 in
theorem hs_m161 (hn : hm_no ext) {σ : Nat → hs_S} {M : hzMem} (hi : ha_inv hw_W M) (hC : hs_M σ M) (d t n : Int32) : ∃ m M', ha_C ext m 161 [.ref 47, .int d, .int t, .int n] M 5 0 = some (some (.int (sp_row σ d t n).1), M') ∧ ha_wok hw_W hm_Wd M M' ∧ hs_M (sp_row σ d t n).2 M' := by
  have key : ha_RT ext 161 0 [some (.ref 47), some (.int d), some (.int t), some (.int n), none] [] M 0 (fun rv M' => rv = some (.int (sp_row σ d t n).1) ∧ ha_wok hw_W hm_Wd M M' ∧ hs_M (sp_row σ d t n).2 M') := by
    have no : sp_row σ d t n = (Int32.ofInt (-1), σ) → ha_RT ext 161 22 [some (.ref 47), some (.int d), some (.int t), some (.int n), none] [] M 0 (fun rv M' => rv = some (.int (sp_row σ d t n).1) ∧ ha_wok hw_W hm_Wd M M' ∧ hs_M (sp_row σ d t n).2 M') := by
      intro e
      refine ha_RT_sN [23] (pc' := 23) (L' := [some (.ref 47), some (.int d), some (.int t), some (.int n), none]) (st' := [.int (Int32.ofInt (-1))]) rfl rfl ?_
      refine ha_RT_ret (rv := some (.int (Int32.ofInt (-1)))) rfl rfl rfl rfl ?_
      rw [e]
      exact ⟨rfl, ⟨hi, rfl, fun _ _ => rfl⟩, hC⟩
    refine ha_RT_sN [1] (pc' := 1) (L' := [some (.ref 47), some (.int d), some (.int t), some (.int n), none]) (st' := [.int d]) rfl rfl ?_
    obtain ⟨n1, hc1⟩ := hm_ex157 hn d M
    refine ha_RT_call (virt := false) (a := 0) (x := 157) (y := 1) rfl rfl (by decide) (q := _) rfl ⟨rfl, Nat.le_of_ble_eq_true rfl, Nat.le_of_ble_eq_true rfl, Nat.le_refl 0, Nat.le_of_ble_eq_true rfl⟩ hc1 ?_
    show ha_RT ext 161 4 _ [.int (hm_bi (decide (0 ≤ d.toInt ∧ d.toInt ≤ 7)))] _ _ _
    refine ha_RT_if rfl (fun h1 => no (if_pos (Or.inl (by rw [hm_bie, Bool.not_eq_true', decide_eq_false_iff_not] at h1; exact h1)))) (fun h1 => ?_)
    show ha_RT ext 161 7 _ _ _ _ _
    rw [hm_bie, Bool.not_eq_false', decide_eq_true_eq] at h1
    refine ha_RT_sN [8, 9, 10] (pc' := 10) (L' := [some (.ref 47), some (.int d), some (.int t), some (.int n), none]) (st' := [.int (Int32.ofInt 2), .int (Int32.ofInt 0), .int t]) rfl rfl ?_
    obtain ⟨n2, hc2⟩ := hm_ex70 hn t (Int32.ofInt 0) (Int32.ofInt 2) M
    refine ha_RT_call (virt := false) (a := 0) (x := 70) (y := 3) rfl rfl (by decide) (q := _) rfl ⟨rfl, Nat.le_of_ble_eq_true rfl, Nat.le_of_ble_eq_true rfl, Nat.le_refl 0, Nat.le_of_ble_eq_true rfl⟩ hc2 ?_
    show ha_RT ext 161 13 _ [.int (hm_bi (decide (0 ≤ t.toInt ∧ t.toInt ≤ 2)))] _ _ _
    refine ha_RT_if rfl (fun h2 => no (if_pos (Or.inr (Or.inl (by rw [hm_bie, Bool.not_eq_true', decide_eq_false_iff_not] at h2; exact h2))))) (fun h2 => ?_)
    show ha_RT ext 161 16 _ _ _ _ _
    rw [hm_bie, Bool.not_eq_false', decide_eq_true_eq] at h2
    refine ha_RT_sN [17, 19] (pc' := 19) (L' := [some (.ref 47), some (.int d), some (.int t), some (.int n), none]) (st' := [.int (Int32.ofInt 100), .int n]) rfl rfl ?_
    refine ha_RT_ic rfl (fun h3 => ?_) (fun h3 => no (if_pos (Or.inr (Or.inr (by simp only [hz_cmp, decide_eq_false_iff_not, Int32.le_iff_toInt_le, show (Int32.ofInt 100).toInt = 100 from rfl] at h3; omega)))))
    show ha_RT ext 161 24 _ _ _ _ _
    simp only [hz_cmp, decide_eq_true_eq, Int32.le_iff_toInt_le, show (Int32.ofInt 100).toInt = 100 from rfl] at h3
    have hg : ¬ (¬ (0 ≤ d.toInt ∧ d.toInt ≤ 7) ∨ ¬ (0 ≤ t.toInt ∧ t.toInt ≤ 2) ∨ 100 < n.toInt) := by omega
    refine ha_RT_sN [25] (pc' := 25) (L' := [some (.ref 47), some (.int d), some (.int t), some (.int n), none]) (st' := [.int n]) rfl rfl ?_
    refine ha_RT_if rfl (fun h5 => ?_) (fun h5 => ?_)
    case' refine_2 =>
      show ha_RT ext 161 28 _ _ _ _ _
      simp only [hz_cmp, decide_eq_false_iff_not, Int32.le_iff_toInt_le, show (0 : Int32).toInt = 0 from rfl] at h5
      have e : sp_row σ d t n = (Int32.ofInt (-14), σ) := (if_neg hg).trans (if_pos (by omega))
      refine ha_RT_sN [30] (pc' := 30) (L' := [some (.ref 47), some (.int d), some (.int t), some (.int n), none]) (st' := [.int (Int32.ofInt (-14))]) rfl rfl ?_
      refine ha_RT_ret (rv := some (.int (Int32.ofInt (-14)))) rfl rfl rfl rfl ?_
      rw [e]
      exact ⟨rfl, ⟨hi, rfl, fun _ _ => rfl⟩, hC⟩
    show ha_RT ext 161 31 _ _ _ _ _
    simp only [hz_cmp, decide_eq_true_eq, Int32.le_iff_toInt_le, show (0 : Int32).toInt = 0 from rfl] at h5
    have e : sp_row σ d t n = (Int32.ofInt 0, hs_u σ d.toNatClampNeg (2, t, n, fun _ => 0)) := (if_neg hg).trans (if_neg (by omega))
    obtain ⟨vs, hO, v10, v11, v12, v13, v14, v15⟩ := hs_mod hi
    obtain ⟨K, KK, KF, S, Z, E, m1, m2, m3, m4, m5, m6, ho⟩ := id hC
    have d8 : d.toInt < ((8 : Nat) : Int) := by show d.toInt < 8; omega
    have dn : d.toNatClampNeg < 8 := by show d.toInt.toNat < 8; omega
    obtain ⟨fz, mz, bz⟩ := hm_ints hi (k := 57) (n := 8) (q := (0, 100)) rfl
    refine ha_RT_sN [32] (pc' := 32) (L' := [some (.ref 47), some (.int d), some (.int t), some (.int n), none]) (st' := [.ref 47]) rfl rfl ?_
    refine ha_RT_mem rfl rfl (hm_rd hO v10 _ _) ?_
    show ha_RT ext 161 35 _ _ _ _ _
    refine ha_RT_sN [36, 37] (pc' := 37) (L' := [some (.ref 47), some (.int d), some (.int t), some (.int n), none]) (st' := [.int 2, .int d, .ref 53]) rfl rfl ?_
    refine ha_RT_mem rfl rfl (hm_ias m1 h1.1 d8 2 _ _ _) ?_
    show ha_RT ext 161 38 _ _ _ _ _
    refine ha_RT_sN [39] (pc' := 39) (L' := [some (.ref 47), some (.int d), some (.int t), some (.int n), none]) (st' := [.ref 47]) rfl rfl ?_
    refine ha_RT_mem rfl rfl (hm_rd (hs_sg (by decide) hO) v13 _ _) ?_
    show ha_RT ext 161 42 _ _ _ _ _
    refine ha_RT_sN [43, 44] (pc' := 44) (L' := [some (.ref 47), some (.int d), some (.int t), some (.int n), none]) (st' := [.int t, .int d, .ref 56]) rfl rfl ?_
    refine ha_RT_mem rfl rfl (hm_ias (hs_sg (by decide) m4) h1.1 d8 t _ _ _) ?_
    show ha_RT ext 161 45 _ _ _ _ _
    refine ha_RT_sN [46] (pc' := 46) (L' := [some (.ref 47), some (.int d), some (.int t), some (.int n), none]) (st' := [.ref 47]) rfl rfl ?_
    refine ha_RT_mem rfl rfl (hm_rd (hs_sg (by decide) (hs_sg (by decide) hO)) v14 _ _) ?_
    show ha_RT ext 161 49 _ _ _ _ _
    refine ha_RT_sN [50, 51] (pc' := 51) (L' := [some (.ref 47), some (.int d), some (.int t), some (.int n), none]) (st' := [.int n, .int d, .ref 57]) rfl rfl ?_
    refine ha_RT_mem rfl rfl (hm_ias (hs_sg (by decide) (hs_sg (by decide) m5)) h1.1 d8 n _ _ _) ?_
    show ha_RT ext 161 52 _ _ _ _ _
    refine ha_RT_sN [53, 55] (pc' := 55) (L' := [some (.ref 47), some (.int d), some (.int t), some (.int n), some (.int (Int32.ofInt 0))]) (st' := []) rfl rfl ?_
    have w1 := ha_wok_set (Wr := hm_Wd) (⟨hi, rfl, fun _ _ => rfl⟩ : ha_wok hw_W hm_Wd M M) m1 (e := .inl (0, 8, .inl (upd K d.toNatClampNeg 2))) (by decide) (fun sh hsh => by cases hsh; exact ⟨rfl, rfl, fun _ _ => ha_rng _⟩)
    have w2 := ha_wok_set w1 (hs_sg (by decide) m4) (e := .inl (0, 8, .inl (upd S d.toNatClampNeg t))) (by decide) (fun sh hsh => by cases hsh; exact ⟨rfl, rfl, fun _ _ => ha_rng _⟩)
    have w3 := ha_wok_set w2 (hs_sg (by decide) (hs_sg (by decide) m5)) (e := .inl (0, 8, .inl (upd Z d.toNatClampNeg n))) (by decide) (fun sh hsh => by
      cases hsh
      cases mz.symm.trans m5
      refine ⟨rfl, rfl, fun j hj => ?_⟩
      show 0 ≤ (upd Z d.toNatClampNeg n j).toInt ∧ (upd Z d.toNatClampNeg n j).toInt ≤ 100
      unfold upd
      split
      · exact ⟨by omega, by omega⟩
      · exact bz j hj)
    obtain ⟨nn, rv, M4, hr, rfl, E2, z1, z2, rfl⟩ := hs_rl (ext := ext) (t := t) (n := n) h1 v15 101 (Int32.ofInt 0) (((M.set 53 (.inl (0, 8, .inl (upd K d.toNatClampNeg 2)))).set 56 (.inl (0, 8, .inl (upd S d.toNatClampNeg t)))).set 57 (.inl (0, 8, .inl (upd Z d.toNatClampNeg n)))) E (by show (100 : Int) - 0 < _; decide) (by decide) (by decide) (hs_sg (by decide) (hs_sg (by decide) (hs_sg (by decide) hO))) (hs_sg (by decide) (hs_sg (by decide) (hs_sg (by decide) m6))) (fun j hj => by
      have : (j : Int) < 0 := hj
      omega)
    have w4 := ha_wok_set w3 (hs_sg (by decide) (hs_sg (by decide) (hs_sg (by decide) m6))) (e := .inl (0, 800, .inl E2)) (by decide) (fun sh hsh => by cases hsh; exact ⟨rfl, rfl, fun _ _ => ha_rng _⟩)
    refine ⟨nn, _, _, hr, ?_⟩
    rw [e]
    exact ⟨rfl, w4, hs_M_set ho (hs_sg (by decide) (hs_sg (by decide) (hs_sg (by decide) (hs_gs m1)))) (hs_sg (by decide) (hs_sg (by decide) (hs_sg (by decide) (hs_sg (by decide) m2)))) (hs_sg (by decide) (hs_sg (by decide) (hs_sg (by decide) (hs_sg (by decide) m3)))) (hs_sg (by decide) (hs_sg (by decide) (hs_gs (hs_sg (by decide) m4)))) (hs_sg (by decide) (hs_gs (hs_sg (by decide) (hs_sg (by decide) m5)))) (hs_gs (hs_sg (by decide) (hs_sg (by decide) (hs_sg (by decide) m6)))) (fun e he q => ⟨hs_un q, rfl, rfl, hs_un q, hs_un q, fun j hj => z2 e j q hj⟩) ⟨hs_us, fun q => absurd (show (2 : Int32) = 1 from q) (by decide), fun _ => ⟨hs_us, hs_us, z1⟩⟩⟩
  obtain ⟨n, rv, M', h1, rfl, h2⟩ := key
  exact ⟨n, M', hm_toC hn (q := hzq_161) rfl (by decide) h1, h2⟩
end HS
