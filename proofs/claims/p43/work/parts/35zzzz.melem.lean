/-! THE REFERENCE's ELEMENT, exactly -/
def sp_elt (σ : Nat → hs_S) (d i : Int32) : Int32 := if ¬ (0 ≤ d.toInt ∧ d.toInt ≤ 7) then Int32.ofInt 1 else if (σ d.toNatClampNeg).1 ≠ 2 ∨ ¬ (0 ≤ i.toInt ∧ i.toInt < (σ d.toNatClampNeg).2.2.1.toInt) then Int32.ofInt 2 else Int32.ofInt 0
def sp_elz (σ : Nat → hs_S) (d i : Int32) : Int64 := if sp_elt σ d i = 0 then ((σ d.toNatClampNeg).2.2.2 i.toNatClampNeg).toInt64 else Int64.ofInt 0
theorem hs_pf16 {M : hzMem} {vs : List Value} (h : M[47]? = some (.inr (3, vs))) (hl : vs.length = 17) (q : Int32) (i : Nat) (r : List Value) : hz_mem (.putfield i) 3 16 (.int q :: .ref 47 :: r) M = some (r, M.set 47 (.inr (3, vs.set 16 (.int q)))) := by
  have hf : hz_fit 3 16 (.int q) = true := rfl
  simp [hz_mem, h, hf, hl]
set_option maxHeartbeats 4000000 in
set_option maxRecDepth 10000 in
theorem hs_m163 {σ : Nat → hs_S} {M : hzMem} (hi : ha_inv hw_W M) (hC : hs_M σ M) (d i : Int32) : ∃ m vs, M[47]? = some (.inr (3, vs)) ∧ vs.length = 17 ∧ ha_C hx_ext m 163 [.ref 47, .int d, .int i] M 3 0 = some (some (.long (sp_elz σ d i)), M.set 47 (.inr (3, vs.set 16 (.int (sp_elt σ d i))))) := by
  have key : ha_RT hx_ext 163 0 [some (.ref 47), some (.int d), some (.int i)] [] M 0 (fun rv M' => rv = some (.long (sp_elz σ d i)) ∧ ∃ vs, M[47]? = some (.inr (3, vs)) ∧ vs.length = 17 ∧ M' = M.set 47 (.inr (3, vs.set 16 (.int (sp_elt σ d i))))) := by
    obtain ⟨vs, hO, hs⟩ : ∃ vs, M[47]? = some (.inr (3, vs)) ∧ ha_shp (.inl (3, hm_f47)) (.inr (3, vs)) := by
      obtain ⟨e, hM, hs⟩ := hi 47 _ hm_W47
      match e, hM, hs with
      | .inr (c, vs), hM, hs =>
        obtain ⟨rfl, h2⟩ := hs
        exact ⟨vs, hM, rfl, h2⟩
      | .inl _, _, hs => exact hs.elim
    have hl : vs.length = 17 := hs.2.1
    have v10 := hm_sf hs (y := 10) (r := 53) rfl
    have v14 := hm_sf hs (y := 14) (r := 57) rfl
    have v15 := hm_sf hs (y := 15) (r := 58) rfl
    obtain ⟨K, KK, KF, S, Z, E, m1, m2, m3, m4, m5, m6, ho⟩ := id hC
    have sg : ∀ (y r : Nat), y ≠ 16 → vs[y]? = some (.ref r) → ∀ q : Int32, (vs.set 16 (.int q))[y]? = some (.ref r) := fun y r h1 h2 q => by rw [List.getElem?_set_ne (fun z => h1 z.symm)]; exact h2
    have end43 : ∀ q : Int32, sp_elt σ d i = q → (q = 0 → (0 ≤ d.toInt ∧ d.toInt ≤ 7) ∧ (0 ≤ i.toInt ∧ i.toInt < 100) ∧ E (100 * d.toNatClampNeg + i.toNatClampNeg) = (σ d.toNatClampNeg).2.2.2 i.toNatClampNeg) → ha_RT hx_ext 163 43 [some (.ref 47), some (.int d), some (.int i)] [.int q, .ref 47] M 0 (fun rv M' => rv = some (.long (sp_elz σ d i)) ∧ ∃ vs, M[47]? = some (.inr (3, vs)) ∧ vs.length = 17 ∧ M' = M.set 47 (.inr (3, vs.set 16 (.int (sp_elt σ d i))))) := by
      intro q eq hq
      refine ha_RT_mem rfl rfl (hs_pf16 hO hl q _ _) ?_
      show ha_RT hx_ext 163 46 _ _ _ _ _
      have hO2 := hs_gs hO (e := .inr (3, vs.set 16 (.int q)))
      refine ha_RT_sN [47] (pc' := 47) (L' := [some (.ref 47), some (.int d), some (.int i)]) (st' := [.ref 47]) rfl rfl ?_
      refine ha_RT_mem rfl rfl (hm_rd hO2 (List.getElem?_set_self (by omega)) _ _) ?_
      show ha_RT hx_ext 163 50 _ _ _ _ _
      refine ha_RT_if rfl (fun h => ?_) (fun h => ?_)
      · show ha_RT hx_ext 163 68 _ _ _ _ _
        simp only [hz_cmp, Bool.not_eq_true', decide_eq_false_iff_not] at h
        refine ha_RT_sN [69] (pc' := 69) (L' := [some (.ref 47), some (.int d), some (.int i)]) (st' := [.long (Int64.ofInt 0)]) rfl rfl ?_
        refine ha_RT_ret (rv := some (.long (Int64.ofInt 0))) rfl rfl rfl rfl ⟨?_, vs, hO, hl, by rw [eq]⟩
        rw [show sp_elz σ d i = Int64.ofInt 0 from if_neg (by rw [eq]; exact h)]
      · show ha_RT hx_ext 163 53 _ _ _ _ _
        simp only [hz_cmp, Bool.not_eq_false', decide_eq_true_eq] at h
        obtain ⟨hd, hi1, hE⟩ := hq h
        have ei : (Int32.ofInt 100 * d + i).toInt = 100 * d.toInt + i.toInt := by
          have e1 : (Int32.ofInt 100 * d).toInt = 100 * d.toInt := by
            rw [Int32.toInt_mul, show (Int32.ofInt 100).toInt = 100 from rfl]
            exact ha_bm (by unfold ha_lo; omega) (by unfold ha_hi; omega)
          rw [Int32.toInt_add, e1]
          exact ha_bm (by unfold ha_lo; omega) (by unfold ha_hi; omega)
        have en : (Int32.ofInt 100 * d + i).toNatClampNeg = 100 * d.toNatClampNeg + i.toNatClampNeg := by
          show (Int32.ofInt 100 * d + i).toInt.toNat = 100 * d.toInt.toNat + i.toInt.toNat
          rw [ei]
          omega
        refine ha_RT_sN [54] (pc' := 54) (L' := [some (.ref 47), some (.int d), some (.int i)]) (st' := [.ref 47]) rfl rfl ?_
        refine ha_RT_mem rfl rfl (hm_rd hO2 (sg 15 58 (by decide) v15 q) _ _) ?_
        show ha_RT hx_ext 163 57 _ _ _ _ _
        refine ha_RT_sN [59, 60, 61, 62, 63] (pc' := 63) (L' := [some (.ref 47), some (.int d), some (.int i)]) (st' := [.int (Int32.ofInt 100 * d + i), .ref 58]) rfl rfl ?_
        refine ha_RT_mem rfl rfl (hm_ial (hs_sg (by decide) m6) (by omega) (by show _ < ((800 : Nat) : Int); omega) _ _ _) ?_
        show ha_RT hx_ext 163 64 _ _ _ _ _
        rw [en, hE]
        refine ha_RT_sN [65, 69] (pc' := 69) (L' := [some (.ref 47), some (.int d), some (.int i)]) (st' := [.long ((σ d.toNatClampNeg).2.2.2 i.toNatClampNeg).toInt64]) rfl rfl ?_
        refine ha_RT_ret (rv := some (.long ((σ d.toNatClampNeg).2.2.2 i.toNatClampNeg).toInt64)) rfl rfl rfl rfl ⟨?_, vs, hO, hl, by rw [eq]⟩
        rw [show sp_elz σ d i = ((σ d.toNatClampNeg).2.2.2 i.toNatClampNeg).toInt64 from if_pos (eq.trans h)]
    refine ha_RT_sN [1, 2] (pc' := 2) (L' := [some (.ref 47), some (.int d), some (.int i)]) (st' := [.int d, .ref 47]) rfl rfl ?_
    obtain ⟨n1, hc1⟩ := hm_ex157 hx_no d M
    refine ha_RT_call (virt := false) (a := 0) (x := 157) (y := 1) rfl rfl (by decide) (q := _) rfl ⟨rfl, Nat.le_of_ble_eq_true rfl, Nat.le_of_ble_eq_true rfl, Nat.le_of_ble_eq_true rfl, Nat.le_of_ble_eq_true rfl⟩ hc1 ?_
    show ha_RT hx_ext 163 5 _ [.int (hm_bi (decide (0 ≤ d.toInt ∧ d.toInt ≤ 7))), .ref 47] _ _ _
    refine ha_RT_if rfl (fun h1 => ?_) (fun h1 => ?_)
    case' refine_2 =>
      show ha_RT hx_ext 163 8 _ _ _ _ _
      rw [hm_bin, decide_eq_false_iff_not] at h1
      refine ha_RT_sN [9, 43] (pc' := 43) (L' := [some (.ref 47), some (.int d), some (.int i)]) (st' := [.int (Int32.ofInt 1), .ref 47]) rfl rfl ?_
      exact end43 _ (if_pos h1) (fun q => absurd q (by decide))
    show ha_RT hx_ext 163 12 _ _ _ _ _
    rw [hm_bin, decide_eq_true_eq] at h1
    have d8 : d.toInt < ((8 : Nat) : Int) := by show d.toInt < 8; omega
    have dn : d.toNatClampNeg < 8 := by show d.toInt.toNat < 8; omega
    obtain ⟨hK, hK1, hK2⟩ := ho d.toNatClampNeg dn
    have end38 : ((σ d.toNatClampNeg).1 ≠ 2 ∨ ¬ (0 ≤ i.toInt ∧ i.toInt < (σ d.toNatClampNeg).2.2.1.toInt)) → ha_RT hx_ext 163 38 [some (.ref 47), some (.int d), some (.int i)] [.ref 47] M 0 (fun rv M' => rv = some (.long (sp_elz σ d i)) ∧ ∃ vs, M[47]? = some (.inr (3, vs)) ∧ vs.length = 17 ∧ M' = M.set 47 (.inr (3, vs.set 16 (.int (sp_elt σ d i))))) := by
      intro h
      refine ha_RT_sN [39, 43] (pc' := 43) (L' := [some (.ref 47), some (.int d), some (.int i)]) (st' := [.int (Int32.ofInt 2), .ref 47]) rfl rfl ?_
      exact end43 _ ((if_neg (fun q => q h1)).trans (if_pos h)) (fun q => absurd q (by decide))
    refine ha_RT_sN [13] (pc' := 13) (L' := [some (.ref 47), some (.int d), some (.int i)]) (st' := [.ref 47, .ref 47]) rfl rfl ?_
    refine ha_RT_mem rfl rfl (hm_rd hO v10 _ _) ?_
    show ha_RT hx_ext 163 16 _ _ _ _ _
    refine ha_RT_sN [17] (pc' := 17) (L' := [some (.ref 47), some (.int d), some (.int i)]) (st' := [.int d, .ref 53, .ref 47]) rfl rfl ?_
    refine ha_RT_mem rfl rfl (hm_ial m1 h1.1 d8 _ _ _) ?_
    show ha_RT hx_ext 163 18 _ _ _ _ _
    refine ha_RT_sN [19] (pc' := 19) (L' := [some (.ref 47), some (.int d), some (.int i)]) (st' := [.int (Int32.ofInt 2), .int (K d.toNatClampNeg), .ref 47]) rfl rfl ?_
    refine ha_RT_ic rfl (fun h2 => end38 (Or.inl (by simp only [hz_cmp, Bool.not_eq_true', decide_eq_false_iff_not] at h2; exact fun q => h2 (hK.trans q)))) (fun h2 => ?_)
    show ha_RT hx_ext 163 22 _ _ _ _ _
    simp only [hz_cmp, Bool.not_eq_false', decide_eq_true_eq] at h2
    have hw : (σ d.toNatClampNeg).1 = 2 := hK.symm.trans h2
    obtain ⟨hS, hZ, hE⟩ := hK2 hw
    obtain ⟨fz, mz, bz⟩ := hm_ints hi (k := 57) (n := 8) (q := (0, 100)) rfl
    have bzd : 0 ≤ (Z d.toNatClampNeg).toInt ∧ (Z d.toNatClampNeg).toInt ≤ 100 := by
      cases mz.symm.trans m5
      exact bz d.toNatClampNeg dn
    refine ha_RT_sN [23, 24, 25] (pc' := 25) (L' := [some (.ref 47), some (.int d), some (.int i)]) (st' := [.ref 47, .int (Int32.ofInt 0), .int i, .ref 47]) rfl rfl ?_
    refine ha_RT_mem rfl rfl (hm_rd hO v14 _ _) ?_
    show ha_RT hx_ext 163 28 _ _ _ _ _
    refine ha_RT_sN [29] (pc' := 29) (L' := [some (.ref 47), some (.int d), some (.int i)]) (st' := [.int d, .ref 57, .int (Int32.ofInt 0), .int i, .ref 47]) rfl rfl ?_
    refine ha_RT_mem rfl rfl (hm_ial m5 h1.1 d8 _ _ _) ?_
    show ha_RT hx_ext 163 30 _ _ _ _ _
    refine ha_RT_sN [31, 32] (pc' := 32) (L' := [some (.ref 47), some (.int d), some (.int i)]) (st' := [.int (Z d.toNatClampNeg - Int32.ofInt 1), .int (Int32.ofInt 0), .int i, .ref 47]) rfl rfl ?_
    obtain ⟨n2, hc2⟩ := hm_ex70 hx_no i (Int32.ofInt 0) (Z d.toNatClampNeg - Int32.ofInt 1) M
    refine ha_RT_call (virt := false) (a := 0) (x := 70) (y := 3) rfl rfl (by decide) (q := _) rfl ⟨rfl, Nat.le_of_ble_eq_true rfl, Nat.le_of_ble_eq_true rfl, Nat.le_of_ble_eq_true rfl, Nat.le_of_ble_eq_true rfl⟩ hc2 ?_
    show ha_RT hx_ext 163 35 _ [.int (hm_bi (decide (0 ≤ i.toInt ∧ i.toInt ≤ (Z d.toNatClampNeg - Int32.ofInt 1).toInt))), .ref 47] _ _ _
    have ez : (Z d.toNatClampNeg - Int32.ofInt 1).toInt = (Z d.toNatClampNeg).toInt - 1 := by
      rw [Int32.toInt_sub, show (Int32.ofInt 1).toInt = 1 from rfl]
      exact ha_bm (by unfold ha_lo; omega) (by unfold ha_hi; omega)
    refine ha_RT_if rfl (fun h5 => ?_) (fun h5 => end38 (Or.inr (by rw [hm_bin, decide_eq_false_iff_not, ez, hZ] at h5; omega)))
    show ha_RT hx_ext 163 42 _ _ _ _ _
    rw [hm_bin, decide_eq_true_eq, ez] at h5
    have h6 : 0 ≤ i.toInt ∧ i.toInt < (σ d.toNatClampNeg).2.2.1.toInt := by rw [← hZ]; omega
    refine ha_RT_sN [43] (pc' := 43) (L' := [some (.ref 47), some (.int d), some (.int i)]) (st' := [.int (Int32.ofInt 0), .ref 47]) rfl rfl ?_
    exact end43 _ ((if_neg (fun q => q h1)).trans (if_neg (fun q => q.elim (fun q => q hw) (fun q => q h6)))) (fun _ => ⟨h1, ⟨h6.1, by omega⟩, hE _ (by show i.toInt.toNat < 100; omega)⟩)
  obtain ⟨n, rv, M', h1, rfl, vs, h2, h3, rfl⟩ := key
  exact ⟨n, vs, h2, h3, hm_toC hx_no (q := (hzM[163]?).get rfl) rfl (by decide) h1⟩
