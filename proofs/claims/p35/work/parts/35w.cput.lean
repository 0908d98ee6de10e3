/-! THE CLASS's SHELVES, exactly: refusals, put -/
section HS
variable {ext : Nat → List Value → hzMem → Option (Option (Option Value × hzMem))}
/-- why a shelf does not hold what is wanted, or 0 -/
def sp_ref (σ : Nat → hs_S) (d w : Int32) : Int32 := if ¬ (0 ≤ d.toInt ∧ d.toInt ≤ 7) then Int32.ofInt (-1) else if (σ d.toNatClampNeg).1 = 0 then Int32.ofInt (-11) else if (σ d.toNatClampNeg).1 = w then Int32.ofInt 0 else Int32.ofInt (-12)
set_option maxRecDepth 10000 in
theorem hs_r54 (hn : hm_no ext) {σ : Nat → hs_S} {M : hzMem} (hi : ha_inv hw_W M) (hC : hs_C σ M) (d w : Int32) : ∃ n, ha_C ext n 54 [.ref 0, .int d, .int w] M 3 0 = some (some (.int (sp_ref σ d w)), M) := by
  have key : ha_RT ext 54 0 [some (.ref 0), some (.int d), some (.int w)] [] M 0 (fun rv M' => M' = M ∧ rv = some (.int (sp_ref σ d w))) := by
    refine ha_RT_sN [1] (pc' := 1) (L' := [some (.ref 0), some (.int d), some (.int w)]) (st' := [.int d]) rfl rfl ?_
    obtain ⟨n1, hc1⟩ := hm_ex51 hn d M
    refine ha_RT_call (virt := false) (a := 0) (x := 51) (y := 1) rfl rfl (by decide) (q := _) rfl ⟨rfl, Nat.le_of_ble_eq_true rfl, Nat.le_of_ble_eq_true rfl, Nat.le_refl 0, Nat.le_of_ble_eq_true rfl⟩ hc1 ?_
    show ha_RT ext 54 4 _ [.int (hm_bi (decide (0 ≤ d.toInt ∧ d.toInt ≤ 7)))] _ _ _
    refine ha_RT_if rfl (fun h1 => ?_) (fun h1 => ?_)
    case' refine_2 =>
      show ha_RT ext 54 7 _ _ _ _ _
      rw [hm_bin, decide_eq_false_iff_not] at h1
      have e : sp_ref σ d w = Int32.ofInt (-1) := if_pos h1
      refine ha_RT_sN [8] (pc' := 8) (L' := [some (.ref 0), some (.int d), some (.int w)]) (st' := [.int (Int32.ofInt (-1))]) rfl rfl ?_
      refine ha_RT_ret (rv := some (.int (Int32.ofInt (-1)))) rfl rfl rfl rfl ⟨rfl, ?_⟩
      rw [e]
    show ha_RT ext 54 9 _ _ _ _ _
    rw [hm_bin, decide_eq_true_eq] at h1
    have hd8 : d.toNatClampNeg < 8 := by show d.toInt.toNat < 8; omega
    obtain ⟨vs0, hO, h4⟩ := hm_fld4 hi
    obtain ⟨fr, hR, hf⟩ := hm_row hi
    obtain ⟨vs, fe, s1, s2, s3, s4, s5, s6⟩ := hC d.toNatClampNeg hd8
    refine ha_RT_sN [10] (pc' := 10) (L' := [some (.ref 0), some (.int d), some (.int w)]) (st' := [.ref 0]) rfl rfl ?_
    refine ha_RT_mem rfl rfl (hm_rd hO h4 _ _) ?_
    show ha_RT ext 54 13 _ _ _ _ _
    refine ha_RT_sN [14] (pc' := 14) (L' := [some (.ref 0), some (.int d), some (.int w)]) (st' := [.int d, .ref 28]) rfl rfl ?_
    refine ha_RT_mem rfl rfl (hm_aal hR hf h1.1 h1.2 _ _ _) ?_
    show ha_RT ext 54 15 _ _ _ _ _
    refine ha_RT_mem rfl rfl (hm_rd s1 s3 _ _) ?_
    show ha_RT ext 54 18 _ _ _ _ _
    refine ha_RT_if rfl (fun h3 => ?_) (fun h3 => ?_)
    case' refine_2 =>
      show ha_RT ext 54 21 _ _ _ _ _
      simp only [hz_cmp, Bool.not_eq_false', decide_eq_true_eq] at h3
      have e : sp_ref σ d w = Int32.ofInt (-11) := (if_neg (fun q => q h1)).trans (if_pos h3)
      refine ha_RT_sN [23] (pc' := 23) (L' := [some (.ref 0), some (.int d), some (.int w)]) (st' := [.int (Int32.ofInt (-11))]) rfl rfl ?_
      refine ha_RT_ret (rv := some (.int (Int32.ofInt (-11)))) rfl rfl rfl rfl ⟨rfl, ?_⟩
      rw [e]
    show ha_RT ext 54 24 _ _ _ _ _
    simp only [hz_cmp, Bool.not_eq_true', decide_eq_false_iff_not] at h3
    refine ha_RT_sN [25] (pc' := 25) (L' := [some (.ref 0), some (.int d), some (.int w)]) (st' := [.ref 0]) rfl rfl ?_
    refine ha_RT_mem rfl rfl (hm_rd hO h4 _ _) ?_
    show ha_RT ext 54 28 _ _ _ _ _
    refine ha_RT_sN [29] (pc' := 29) (L' := [some (.ref 0), some (.int d), some (.int w)]) (st' := [.int d, .ref 28]) rfl rfl ?_
    refine ha_RT_mem rfl rfl (hm_aal hR hf h1.1 h1.2 _ _ _) ?_
    show ha_RT ext 54 30 _ _ _ _ _
    refine ha_RT_mem rfl rfl (hm_rd s1 s3 _ _) ?_
    show ha_RT ext 54 33 _ _ _ _ _
    refine ha_RT_sN [34] (pc' := 34) (L' := [some (.ref 0), some (.int d), some (.int w)]) (st' := [.int w, .int (σ d.toNatClampNeg).1]) rfl rfl ?_
    refine ha_RT_ic rfl (fun h5 => ?_) (fun h5 => ?_)
    · show ha_RT ext 54 41 _ _ _ _ _
      simp only [hz_cmp, Bool.not_eq_true', decide_eq_false_iff_not] at h5
      have e : sp_ref σ d w = Int32.ofInt (-12) := (if_neg (fun q => q h1)).trans ((if_neg h3).trans (if_neg h5))
      refine ha_RT_sN [43] (pc' := 43) (L' := [some (.ref 0), some (.int d), some (.int w)]) (st' := [.int (Int32.ofInt (-12))]) rfl rfl ?_
      refine ha_RT_ret (rv := some (.int (Int32.ofInt (-12)))) rfl rfl rfl rfl ⟨rfl, ?_⟩
      rw [e]
    · show ha_RT ext 54 37 _ _ _ _ _
      simp only [hz_cmp, Bool.not_eq_false', decide_eq_true_eq] at h5
      have e : sp_ref σ d w = Int32.ofInt 0 := (if_neg (fun q => q h1)).trans ((if_neg h3).trans (if_pos h5))
      refine ha_RT_sN [38, 43] (pc' := 43) (L' := [some (.ref 0), some (.int d), some (.int w)]) (st' := [.int (Int32.ofInt 0)]) rfl rfl ?_
      refine ha_RT_ret (rv := some (.int (Int32.ofInt 0))) rfl rfl rfl rfl ⟨rfl, ?_⟩
      rw [e]
  obtain ⟨n, rv, M', h1, rfl, rfl⟩ := key
  exact ⟨n, hm_toC hn (q := hzq_54) rfl (by decide) h1⟩
theorem hs_r0 {M : hzMem} (hi : ha_inv hw_W M) (l : List Value) : hz_rcv 2 (.ref 0 :: l) M = true := by
  obtain ⟨vs, hO, _⟩ := hm_fld4 hi
  simp [hz_rcv, hO]
set_option maxRecDepth 10000 in
theorem hs_r52 (hn : hm_no ext) {σ : Nat → hs_S} {M : hzMem} (hi : ha_inv hw_W M) (hC : hs_C σ M) (d : Int32) : ∃ n, ha_C ext n 52 [.ref 0, .int d] M 2 0 = some (some (.int (sp_ref σ d 2)), M) := by
  have key : ha_RT ext 52 0 [some (.ref 0), some (.int d)] [] M 0 (fun rv M' => M' = M ∧ rv = some (.int (sp_ref σ d 2))) := by
    refine ha_RT_sN [1, 2, 3] (pc' := 3) (L' := [some (.ref 0), some (.int d)]) (st' := [.int 2, .int d, .ref 0]) rfl rfl ?_
    obtain ⟨n1, hc1⟩ := hs_r54 hn hi hC d 2
    refine ha_RT_call (virt := true) (a := 0) (x := 54) (y := 3) rfl rfl (by decide) (q := _) rfl ⟨hs_r0 hi [.int d, .int 2], Nat.le_of_ble_eq_true rfl, Nat.le_of_ble_eq_true rfl, Nat.le_refl 0, Nat.le_of_ble_eq_true rfl⟩ hc1 ?_
    show ha_RT ext 52 6 _ [.int (sp_ref σ d 2)] _ _ _
    exact ha_RT_ret (rv := some (.int (sp_ref σ d 2))) rfl rfl rfl rfl ⟨rfl, rfl⟩
  obtain ⟨n, rv, M', h1, rfl, rfl⟩ := key
  exact ⟨n, hm_toC hn (q := hzq_52) rfl (by decide) h1⟩
set_option maxRecDepth 10000 in
theorem hs_r53 (hn : hm_no ext) {σ : Nat → hs_S} {M : hzMem} (hi : ha_inv hw_W M) (hC : hs_C σ M) (d : Int32) : ∃ n, ha_C ext n 53 [.ref 0, .int d] M 2 0 = some (some (.int (sp_ref σ d 1)), M) := by
  have key : ha_RT ext 53 0 [some (.ref 0), some (.int d)] [] M 0 (fun rv M' => M' = M ∧ rv = some (.int (sp_ref σ d 1))) := by
    refine ha_RT_sN [1, 2, 3] (pc' := 3) (L' := [some (.ref 0), some (.int d)]) (st' := [.int 1, .int d, .ref 0]) rfl rfl ?_
    obtain ⟨n1, hc1⟩ := hs_r54 hn hi hC d 1
    refine ha_RT_call (virt := true) (a := 0) (x := 54) (y := 3) rfl rfl (by decide) (q := _) rfl ⟨hs_r0 hi [.int d, .int 1], Nat.le_of_ble_eq_true rfl, Nat.le_of_ble_eq_true rfl, Nat.le_refl 0, Nat.le_of_ble_eq_true rfl⟩ hc1 ?_
    show ha_RT ext 53 6 _ [.int (sp_ref σ d 1)] _ _ _
    exact ha_RT_ret (rv := some (.int (sp_ref σ d 1))) rfl rfl rfl rfl ⟨rfl, rfl⟩
  obtain ⟨n, rv, M', h1, rfl, rfl⟩ := key
  exact ⟨n, hm_toC hn (q := hzq_53) rfl (by decide) h1⟩
set_option maxRecDepth 10000 in
theorem hm_ex173 (hn : hm_no ext) {A : Nat} {vs : List Value} {z : Int32} {M : hzMem} (hM : M[A]? = some (.inr (0, vs))) (h4 : vs[4]? = some (.int z)) (i : Int32) : ∃ n, ha_C ext n 173 [.ref A, .int i] M 2 0 = some (some (.int (hm_bi (decide (0 ≤ i.toInt ∧ i.toInt < z.toInt)))), M) := by
  have key : ha_RT ext 173 0 [some (.ref A), some (.int i)] [] M 0 (fun rv M' => M' = M ∧ rv = some (.int (hm_bi (decide (0 ≤ i.toInt ∧ i.toInt < z.toInt))))) := by
    have no : ¬ (0 ≤ i.toInt ∧ i.toInt < z.toInt) → ha_RT ext 173 16 [some (.ref A), some (.int i)] [] M 0 (fun rv M' => M' = M ∧ rv = some (.int (hm_bi (decide (0 ≤ i.toInt ∧ i.toInt < z.toInt))))) := by
      intro h
      refine ha_RT_sN [17] (pc' := 17) (L' := [some (.ref A), some (.int i)]) (st' := [.int (Int32.ofInt 0)]) rfl rfl ?_
      refine ha_RT_ret (rv := some (.int (Int32.ofInt 0))) rfl rfl rfl rfl ⟨rfl, ?_⟩
      rw [decide_eq_false h]
      rfl
    refine ha_RT_sN [1] (pc' := 1) (L' := [some (.ref A), some (.int i)]) (st' := [.int i]) rfl rfl ?_
    refine ha_RT_if rfl (fun h1 => no ?_) (fun h1 => ?_)
    · simp only [hz_cmp, decide_eq_true_eq, Int32.lt_iff_toInt_lt, show (0 : Int32).toInt = 0 from rfl] at h1
      omega
    show ha_RT ext 173 4 _ _ _ _ _
    refine ha_RT_sN [5, 6] (pc' := 6) (L' := [some (.ref A), some (.int i)]) (st' := [.ref A, .int i]) rfl rfl ?_
    refine ha_RT_mem rfl rfl (hm_rd hM h4 _ _) ?_
    show ha_RT ext 173 9 _ _ _ _ _
    refine ha_RT_ic rfl (fun h3 => no ?_) (fun h3 => ?_)
    · simp only [hz_cmp, decide_eq_true_eq, Int32.le_iff_toInt_le] at h3
      omega
    show ha_RT ext 173 12 _ _ _ _ _
    refine ha_RT_sN [13, 17] (pc' := 17) (L' := [some (.ref A), some (.int i)]) (st' := [.int (Int32.ofInt 1)]) rfl rfl ?_
    simp only [hz_cmp, decide_eq_false_iff_not, Int32.lt_iff_toInt_lt, Int32.le_iff_toInt_le, show (0 : Int32).toInt = 0 from rfl] at h1 h3
    refine ha_RT_ret (rv := some (.int (Int32.ofInt 1))) rfl rfl rfl rfl ⟨rfl, ?_⟩
    rw [decide_eq_true (show 0 ≤ i.toInt ∧ i.toInt < z.toInt from ⟨by omega, by omega⟩)]
    rfl
  obtain ⟨n, rv, M', h1, rfl, rfl⟩ := key
  exact ⟨n, hm_toC hn (q := hzq_173) rfl (by decide) h1⟩
def sp_low (s v : Int32) : Int32 := if s = 0 then v.toInt8.toInt32 else if s = 1 then v.toInt16.toInt32 else v
set_option maxRecDepth 10000 in
theorem hs_l175 (hn : hm_no ext) {A : Nat} {vs : List Value} {s : Int32} {M : hzMem} (hM : M[A]? = some (.inr (0, vs))) (h3 : vs[3]? = some (.int s)) (v : Int32) : ∃ n, ha_C ext n 175 [.ref A, .int v] M 2 0 = some (some (.int (sp_low s v)), M) := by
  have key : ha_RT ext 175 0 [some (.ref A), some (.int v)] [] M 0 (fun rv M' => M' = M ∧ rv = some (.int (sp_low s v))) := by
    refine ha_RT_sN [1] (pc' := 1) (L' := [some (.ref A), some (.int v)]) (st' := [.ref A]) rfl rfl ?_
    refine ha_RT_mem rfl rfl (hm_rd hM h3 _ _) ?_
    show ha_RT ext 175 4 _ _ _ _ _
    refine ha_RT_if rfl (fun h1 => ?_) (fun h1 => ?_)
    case' refine_2 =>
      show ha_RT ext 175 7 _ _ _ _ _
      simp only [hz_cmp, Bool.not_eq_false', decide_eq_true_eq] at h1
      refine ha_RT_sN [8, 9] (pc' := 9) (L' := [some (.ref A), some (.int v)]) (st' := [.int v.toInt8.toInt32]) rfl rfl ?_
      refine ha_RT_ret (rv := some (.int v.toInt8.toInt32)) rfl rfl rfl rfl ⟨rfl, ?_⟩
      rw [show sp_low s v = v.toInt8.toInt32 from if_pos h1]
    show ha_RT ext 175 10 _ _ _ _ _
    simp only [hz_cmp, Bool.not_eq_true', decide_eq_false_iff_not] at h1
    refine ha_RT_sN [11] (pc' := 11) (L' := [some (.ref A), some (.int v)]) (st' := [.ref A]) rfl rfl ?_
    refine ha_RT_mem rfl rfl (hm_rd hM h3 _ _) ?_
    show ha_RT ext 175 14 _ _ _ _ _
    refine ha_RT_sN [15] (pc' := 15) (L' := [some (.ref A), some (.int v)]) (st' := [.int (Int32.ofInt 1), .int s]) rfl rfl ?_
    refine ha_RT_ic rfl (fun h2 => ?_) (fun h2 => ?_)
    · show ha_RT ext 175 23 _ _ _ _ _
      simp only [hz_cmp, Bool.not_eq_true', decide_eq_false_iff_not] at h2
      refine ha_RT_sN [24] (pc' := 24) (L' := [some (.ref A), some (.int v)]) (st' := [.int v]) rfl rfl ?_
      refine ha_RT_ret (rv := some (.int v)) rfl rfl rfl rfl ⟨rfl, ?_⟩
      rw [show sp_low s v = v from (if_neg h1).trans (if_neg h2)]
    · show ha_RT ext 175 18 _ _ _ _ _
      simp only [hz_cmp, Bool.not_eq_false', decide_eq_true_eq] at h2
      refine ha_RT_sN [19, 20, 24] (pc' := 24) (L' := [some (.ref A), some (.int v)]) (st' := [.int v.toInt16.toInt32]) rfl rfl ?_
      refine ha_RT_ret (rv := some (.int v.toInt16.toInt32)) rfl rfl rfl rfl ⟨rfl, ?_⟩
      rw [show sp_low s v = v.toInt16.toInt32 from (if_neg h1).trans (if_pos h2)]
  obtain ⟨n, rv, M', h1, rfl, rfl⟩ := key
  exact ⟨n, hm_toC hn (q := hzq_175) rfl (by decide) h1⟩
def sp_put (σ : Nat → hs_S) (d i v : Int32) : Int32 × (Nat → hs_S) := if sp_ref σ d 2 ≠ 0 then (sp_ref σ d 2, σ) else if ¬ (0 ≤ i.toInt ∧ i.toInt < (σ d.toNatClampNeg).2.2.1.toInt) then (Int32.ofInt (-13), σ) else (Int32.ofInt 0, hs_u σ d.toNatClampNeg (2, (σ d.toNatClampNeg).2.1, (σ d.toNatClampNeg).2.2.1, upd (σ d.toNatClampNeg).2.2.2 i.toNatClampNeg (sp_low (σ d.toNatClampNeg).2.1 v)))
/-- no refusal: a row is there -/
theorem sp_ref2 {σ : Nat → hs_S} {d w : Int32} (h : sp_ref σ d w = 0) : (0 ≤ d.toInt ∧ d.toInt ≤ 7) ∧ (σ d.toNatClampNeg).1 = w ∧ (σ d.toNatClampNeg).1 ≠ 0 := by
  unfold sp_ref at h
  split at h
  · exact absurd h (by decide)
  · rename_i h1
    split at h
    · exact absurd h (by decide)
    · rename_i h2
      split at h
      · rename_i h3
        exact ⟨Decidable.not_not.mp h1, h3, h2⟩
      · exact absurd h (by decide)
set_option maxHeartbeats 4000000 in
set_option maxRecDepth 10000 in
theorem hs_c40 (hn : hm_no ext) {σ : Nat → hs_S} {M : hzMem} (hi : ha_inv hw_W M) (hC : hs_C σ M) (d i v : Int32) : ∃ m M', ha_C ext m 40 [.ref 0, .int d, .int i, .int v] M 6 0 = some (some (.int (sp_put σ d i v).1), M') ∧ ha_wok hw_W hm_Wc M M' ∧ hs_C (sp_put σ d i v).2 M' := by
  have key : ha_RT ext 40 0 [some (.ref 0), some (.int d), some (.int i), some (.int v), none, none] [] M 0 (fun rv M' => rv = some (.int (sp_put σ d i v).1) ∧ ha_wok hw_W hm_Wc M M' ∧ hs_C (sp_put σ d i v).2 M') := by
    refine ha_RT_sN [1, 2] (pc' := 2) (L' := [some (.ref 0), some (.int d), some (.int i), some (.int v), none, none]) (st' := [.int d, .ref 0]) rfl rfl ?_
    obtain ⟨n1, hc1⟩ := hs_r52 hn hi hC d
    refine ha_RT_call (virt := true) (a := 0) (x := 52) (y := 2) rfl rfl (by decide) (q := _) rfl ⟨hs_r0 hi [.int d], Nat.le_of_ble_eq_true rfl, Nat.le_of_ble_eq_true rfl, Nat.le_refl 0, Nat.le_of_ble_eq_true rfl⟩ hc1 ?_
    show ha_RT ext 40 5 _ [.int (sp_ref σ d 2)] _ _ _
    refine ha_RT_sN [7, 9] (pc' := 9) (L' := [some (.ref 0), some (.int d), some (.int i), some (.int v), (some (.int (sp_ref σ d 2))), none]) (st' := [.int (sp_ref σ d 2)]) rfl rfl ?_
    refine ha_RT_if rfl (fun h1 => ?_) (fun h1 => ?_)
    case' refine_2 =>
      show ha_RT ext 40 12 _ _ _ _ _
      simp only [hz_cmp, decide_eq_false_iff_not] at h1
      have e : sp_put σ d i v = (sp_ref σ d 2, σ) := if_pos h1
      refine ha_RT_sN [14] (pc' := 14) (L' := [some (.ref 0), some (.int d), some (.int i), some (.int v), (some (.int (sp_ref σ d 2))), none]) (st' := [.int (sp_ref σ d 2)]) rfl rfl ?_
      refine ha_RT_ret (rv := some (.int (sp_ref σ d 2))) rfl rfl rfl rfl ?_
      rw [e]
      exact ⟨rfl, ⟨hi, rfl, fun _ _ => rfl⟩, hC⟩
    show ha_RT ext 40 15 _ _ _ _ _
    simp only [hz_cmp, decide_eq_true_eq] at h1
    obtain ⟨hd, hw, _⟩ := sp_ref2 h1
    have hd8 : d.toNatClampNeg < 8 := by show d.toInt.toNat < 8; omega
    obtain ⟨vs0, hO, h4⟩ := hm_fld4 hi
    obtain ⟨fr, hR, hf⟩ := hm_row hi
    obtain ⟨vs, fe, s1, s2, s3, s4, s5, s6, s7⟩ := hC d.toNatClampNeg hd8
    obtain ⟨s8, s9, s10⟩ := s7 hw
    have hsp := hs_shp hi hd8 s1
    have bz := hm_sib hsp (y := 4) (lo := 0) (hi := 100) rfl s9
    refine ha_RT_sN [16] (pc' := 16) (L' := [some (.ref 0), some (.int d), some (.int i), some (.int v), (some (.int (sp_ref σ d 2))), none]) (st' := [.ref 0]) rfl rfl ?_
    refine ha_RT_mem rfl rfl (hm_rd hO h4 _ _) ?_
    show ha_RT ext 40 19 _ _ _ _ _
    refine ha_RT_sN [20] (pc' := 20) (L' := [some (.ref 0), some (.int d), some (.int i), some (.int v), (some (.int (sp_ref σ d 2))), none]) (st' := [.int d, .ref 28]) rfl rfl ?_
    refine ha_RT_mem rfl rfl (hm_aal hR hf hd.1 hd.2 _ _ _) ?_
    show ha_RT ext 40 21 _ _ _ _ _
    refine ha_RT_sN [23, 25, 26] (pc' := 26) (L' := [some (.ref 0), some (.int d), some (.int i), some (.int v), (some (.int (sp_ref σ d 2))), some (.ref (29 + 2 * d.toNatClampNeg))]) (st' := [.int i, .ref (29 + 2 * d.toNatClampNeg)]) rfl rfl ?_
    obtain ⟨n2, hc2⟩ := hm_ex173 hn s1 s9 i
    refine ha_RT_call (virt := true) (a := 0) (x := 173) (y := 2) rfl rfl (by decide) (q := _) rfl ⟨by
      show hz_rcv 0 [.ref (29 + 2 * d.toNatClampNeg), .int i] M = true
      simp [hz_rcv, s1], Nat.le_of_ble_eq_true rfl, Nat.le_of_ble_eq_true rfl, Nat.le_refl 0, Nat.le_of_ble_eq_true rfl⟩ hc2 ?_
    show ha_RT ext 40 29 _ [.int (hm_bi (decide (0 ≤ i.toInt ∧ i.toInt < (σ d.toNatClampNeg).2.2.1.toInt)))] _ _ _
    refine ha_RT_if rfl (fun h5 => ?_) (fun h5 => ?_)
    case' refine_2 =>
      show ha_RT ext 40 32 _ _ _ _ _
      rw [hm_bin, decide_eq_false_iff_not] at h5
      have e : sp_put σ d i v = (Int32.ofInt (-13), σ) := (if_neg (fun q => q h1)).trans (if_pos h5)
      refine ha_RT_sN [34] (pc' := 34) (L' := [some (.ref 0), some (.int d), some (.int i), some (.int v), (some (.int (sp_ref σ d 2))), some (.ref (29 + 2 * d.toNatClampNeg))]) (st' := [.int (Int32.ofInt (-13))]) rfl rfl ?_
      refine ha_RT_ret (rv := some (.int (Int32.ofInt (-13)))) rfl rfl rfl rfl ?_
      rw [e]
      exact ⟨rfl, ⟨hi, rfl, fun _ _ => rfl⟩, hC⟩
    show ha_RT ext 40 35 _ _ _ _ _
    rw [hm_bin, decide_eq_true_eq] at h5
    have e : sp_put σ d i v = _ := (if_neg (fun q => q h1)).trans (if_neg (fun q => q h5))
    refine ha_RT_sN [37] (pc' := 37) (L' := [some (.ref 0), some (.int d), some (.int i), some (.int v), (some (.int (sp_ref σ d 2))), some (.ref (29 + 2 * d.toNatClampNeg))]) (st' := [.ref (29 + 2 * d.toNatClampNeg)]) rfl rfl ?_
    refine ha_RT_mem rfl rfl (hm_rd s1 s4 _ _) ?_
    show ha_RT ext 40 40 _ _ _ _ _
    refine ha_RT_sN [41, 43, 44] (pc' := 44) (L' := [some (.ref 0), some (.int d), some (.int i), some (.int v), (some (.int (sp_ref σ d 2))), some (.ref (29 + 2 * d.toNatClampNeg))]) (st' := [.int v, .ref (29 + 2 * d.toNatClampNeg), .int i, .ref (30 + 2 * d.toNatClampNeg)]) rfl rfl ?_
    obtain ⟨n3, hc3⟩ := hs_l175 hn s1 s8 v
    refine ha_RT_call (virt := true) (a := 0) (x := 175) (y := 2) rfl rfl (by decide) (q := _) rfl ⟨by
      show hz_rcv 0 [.ref (29 + 2 * d.toNatClampNeg), .int v] M = true
      simp [hz_rcv, s1], Nat.le_of_ble_eq_true rfl, Nat.le_of_ble_eq_true rfl, Nat.le_refl 0, Nat.le_of_ble_eq_true rfl⟩ hc3 ?_
    show ha_RT ext 40 47 _ [.int (sp_low (σ d.toNatClampNeg).2.1 v), .int i, .ref (30 + 2 * d.toNatClampNeg)] _ _ _
    refine ha_RT_mem rfl rfl (hm_ias s5 h5.1 (by show i.toInt < 100; omega) (sp_low (σ d.toNatClampNeg).2.1 v) _ _ _) ?_
    show ha_RT ext 40 48 _ _ _ _ _
    refine ha_RT_sN [49] (pc' := 49) (L' := [some (.ref 0), some (.int d), some (.int i), some (.int v), (some (.int (sp_ref σ d 2))), some (.ref (29 + 2 * d.toNatClampNeg))]) (st' := [.int (Int32.ofInt 0)]) rfl rfl ?_
    refine ha_RT_ret (rv := some (.int (Int32.ofInt 0))) rfl rfl rfl rfl ?_
    rw [e]
    have w2 := ha_wok_set (Wr := hm_Wc) (⟨hi, rfl, fun _ _ => rfl⟩ : ha_wok hw_W hm_Wc M M) s5 (e := .inl (0, 100, .inl (upd fe i.toNatClampNeg (sp_low (σ d.toNatClampNeg).2.1 v)))) (hm_Wcm _ hd8) (fun sh hsh => by
      cases (hm_Wsh _ hd8).2.symm.trans hsh
      exact ⟨rfl, rfl, fun _ _ => ha_rng _⟩)
    refine ⟨rfl, w2, hs_C_set hC ⟨vs, _, by rw [List.getElem?_set_ne (by omega)]; exact s1, s2, by rw [s3, hw], s4, hs_gs s5, fun q => absurd (show (2 : Int32) = 1 from q) (by decide), fun _ => ⟨s8, s9, fun j hj => ?_⟩⟩ (fun j j1 j2 => List.getElem?_set_ne (fun z => j2 z.symm))⟩
    by_cases q : j = i.toNatClampNeg
    · subst q; exact hs_us.trans hs_us.symm
    · rw [hs_un q]; exact (s10 j hj).trans (hs_un q).symm
  obtain ⟨n, rv, M', h1, rfl, h2⟩ := key
  exact ⟨n, M', hm_toC hn (q := hzq_40) rfl (by decide) h1, h2⟩
end HS
