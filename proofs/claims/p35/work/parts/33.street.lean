/-! BY HAND: the reference's street -/
section HF
variable {ext : Nat → List Value → hzMem → Option (Option (Option Value × hzMem))}
theorem hm_z (hn : hm_no ext) (i : Nat) {Y : ha_Y} (h : hw_Z[i]? = some Y) : ha_val ext hw_W Y := hw_zval hn Y (List.mem_of_getElem? h)
/-- from this place on all statements are read -/
def hm_G (f : Nat → Int32) (ra en : Int32) : Nat → Int32 → Prop
  | 0, p => ¬ p.toInt < en.toInt
  | k + 1, p => ¬ p.toInt < en.toInt ∨ ((hm_rS f ra en p).1 = true ∧ hm_G f ra en k (hm_rS f ra en p).2)
abbrev hm_Ly (d w n F : Int32) (a b c : Option Value) : List (Option Value) := [some (.ref 47), some (.int d), some (.int w), some (.int n), some (.int F), a, b, c]
abbrev hm_P6 (M0 : hzMem) : Option Value → hzMem → Prop := fun rv M' => (∃ w : Int32, rv = some (.int w)) ∧ ha_wok hw_W hm_Ws M0 M'
set_option maxRecDepth 10000 in
theorem hm_f161 {d w n F : Int32} {a b c : Option Value} {M0 M : hzMem} (hw : ha_wok hw_W hm_Ws M0 M) : ha_RT ext 106 161 (hm_Ly d w n F a b c) [] M 0 (hm_P6 M0) := by
  refine ha_RT_sN [163] (pc' := 163) (L' := (hm_Ly d w n F a b c)) (st' := [.int F]) rfl rfl ?_
  refine ha_RT_if rfl (fun _ => ?_) (fun _ => ?_)
  · show ha_RT ext 106 170 _ _ _ _ _
    refine ha_RT_sN [172] (pc' := 172) (L' := (hm_Ly d w n F a b c)) (st' := [.int F]) rfl rfl ?_
    exact ha_RT_ret (rv := some (.int F)) rfl rfl rfl rfl ⟨⟨F, rfl⟩, hw⟩
  · show ha_RT ext 106 166 _ _ _ _ _
    refine ha_RT_sN [167, 172] (pc' := 172) (L' := (hm_Ly d w n F a b c)) (st' := [.int n]) rfl rfl ?_
    exact ha_RT_ret (rv := some (.int n)) rfl rfl rfl rfl ⟨⟨n, rfl⟩, hw⟩
set_option maxRecDepth 10000 in
theorem hm_f93 {d w n F : Int32} {a b c : Option Value} {M0 M : hzMem} (hw : ha_wok hw_W hm_Ws M0 M) (hF : F ≠ 0) : ha_RT ext 106 93 (hm_Ly d w n F a b c) [] M 0 (hm_P6 M0) := by
  refine ha_RT_sN [95] (pc' := 95) (L' := (hm_Ly d w n F a b c)) (st' := [.int F]) rfl rfl ?_
  refine ha_RT_if rfl (fun _ => ?_) (fun h => ?_)
  · show ha_RT ext 106 161 _ _ _ _ _
    exact hm_f161 hw
  · simp only [hz_cmp, Bool.not_eq_false', decide_eq_true_eq] at h
    exact absurd h hF
set_option maxHeartbeats 4000000 in
set_option maxRecDepth 10000 in
theorem hm_l2 (hn : hm_no ext) {M0 : hzMem} {f : Nat → Int32} {ra en d w : Int32} : ∀ (k : Nat) {p : Int32}, hm_G f ra en k p → ∀ (M : hzMem) (n : Int32) (a b c : Option Value), hm_T M0 f ra en p M → ha_RT ext 106 93 (hm_Ly d w n (Int32.ofInt 0) a b c) [] M 0 (hm_P6 M0) := by
  intro k
  induction k with
  | zero =>
    intro p h M n a b c hT
    have h : ¬ p.toInt < en.toInt := h
    refine ha_RT_sN [95] (pc' := 95) (L' := (hm_Ly d w n (Int32.ofInt 0) a b c)) (st' := [.int (Int32.ofInt 0)]) rfl rfl ?_
    refine ha_RT_if rfl (fun h => absurd h (by decide)) (fun _ => ?_)
    show ha_RT ext 106 98 _ _ _ _ _
    obtain ⟨⟨p0, p1⟩, ⟨r0, r1⟩, e0, e1⟩ := hm_Tb hT
    obtain ⟨vs, hO, hs, h5, h6, h7⟩ := hT.2.1
    refine ha_RT_sN [99] (pc' := 99) (L' := (hm_Ly d w n (Int32.ofInt 0) a b c)) (st' := [.ref 47]) rfl rfl ?_
    refine ha_RT_mem rfl rfl (hm_rd hO h5 _ _) ?_
    show ha_RT ext 106 102 _ _ _ _ _
    refine ha_RT_sN [103] (pc' := 103) (L' := (hm_Ly d w n (Int32.ofInt 0) a b c)) (st' := [.ref 47, .int p]) rfl rfl ?_
    refine ha_RT_mem rfl rfl (hm_rd hO h7 _ _) ?_
    show ha_RT ext 106 106 _ _ _ _ _
    refine ha_RT_ic rfl (fun _ => ?_) (fun h1 => ?_)
    case' refine_1 => exact hm_f161 hT.1
    simp only [hz_cmp, decide_eq_false_iff_not, Int32.le_iff_toInt_le] at h1
    omega
  | succ k ih =>
    intro p h M n a b c hT
    have hh : p.toInt < en.toInt → (hm_rS f ra en p).1 = true ∧ hm_G f ra en k (hm_rS f ra en p).2 := fun q => Or.resolve_left (show _ ∨ _ from h) (fun z => z q)
    refine ha_RT_sN [95] (pc' := 95) (L' := (hm_Ly d w n (Int32.ofInt 0) a b c)) (st' := [.int (Int32.ofInt 0)]) rfl rfl ?_
    refine ha_RT_if rfl (fun h => absurd h (by decide)) (fun _ => ?_)
    show ha_RT ext 106 98 _ _ _ _ _
    obtain ⟨⟨p0, p1⟩, ⟨r0, r1⟩, e0, e1⟩ := hm_Tb hT
    obtain ⟨vs, hO, hs, h5, h6, h7⟩ := hT.2.1
    refine ha_RT_sN [99] (pc' := 99) (L' := (hm_Ly d w n (Int32.ofInt 0) a b c)) (st' := [.ref 47]) rfl rfl ?_
    refine ha_RT_mem rfl rfl (hm_rd hO h5 _ _) ?_
    show ha_RT ext 106 102 _ _ _ _ _
    refine ha_RT_sN [103] (pc' := 103) (L' := (hm_Ly d w n (Int32.ofInt 0) a b c)) (st' := [.ref 47, .int p]) rfl rfl ?_
    refine ha_RT_mem rfl rfl (hm_rd hO h7 _ _) ?_
    show ha_RT ext 106 106 _ _ _ _ _
    refine ha_RT_ic rfl (fun _ => ?_) (fun h1 => ?_)
    case' refine_1 => exact hm_f161 hT.1
    simp only [hz_cmp, decide_eq_false_iff_not, Int32.le_iff_toInt_le] at h1
    obtain ⟨hS, hG⟩ := hh (by omega)
    show ha_RT ext 106 109 _ _ _ _ _
    refine ha_RT_sN [110] (pc' := 110) (L' := (hm_Ly d w n (Int32.ofInt 0) a b c)) (st' := [.ref 47]) rfl rfl ?_
    refine ha_RT_mem rfl rfl (hm_rd hO h5 _ _) ?_
    show ha_RT ext 106 113 _ _ _ _ _
    refine ha_RT_sN [115, 116] (pc' := 116) (L' := (hm_Ly d w n (Int32.ofInt 0) (some (.int p)) b c)) (st' := [.ref 47]) rfl rfl ?_
    obtain ⟨n1, hc1⟩ := hm_c100 hn hT
    refine ha_RT_call (virt := true) (a := 0) (x := 100) (y := 1) rfl rfl (by decide) (q := _) rfl ⟨hm_Tr hT [], Nat.le_of_ble_eq_true rfl, Nat.le_of_ble_eq_true rfl, Nat.le_refl 0, Nat.le_of_ble_eq_true rfl⟩ hc1 ?_
    show ha_RT ext 106 119 _ [.int (hm_h f ra en p)] _ _ _
    refine ha_RT_sN [121, 122] (pc' := 122) (L' := (hm_Ly d w n (Int32.ofInt 0) (some (.int p)) (some (.int (hm_h f ra en p))) c)) (st' := [.ref 47]) rfl rfl ?_
    obtain ⟨n2, M2, hc2, hT2⟩ := hm_c102 hn hT (by omega)
    refine ha_RT_call (virt := true) (a := 0) (x := 102) (y := 1) rfl rfl (by decide) (q := _) rfl ⟨hm_Tr hT [], Nat.le_of_ble_eq_true rfl, Nat.le_of_ble_eq_true rfl, Nat.le_refl 0, Nat.le_of_ble_eq_true rfl⟩ hc2 ?_
    show ha_RT ext 106 125 _ [.int (hm_bi (hm_rS f ra en p).1)] _ _ _
    refine ha_RT_sN [127, 128, 130] (pc' := 130) (L' := (hm_Ly d w n (Int32.ofInt 0) (some (.int p)) (some (.int (hm_h f ra en p))) (some (.int (hm_bi (hm_rS f ra en p).1))))) (st' := [.int (hm_h f ra en p), .ref 47]) rfl rfl ?_
    obtain ⟨n3, rv3, M3, hc3, hr3, hw3⟩ := hm_z hn 10 rfl [.ref 47, .int (hm_h f ra en p)] M2 ⟨rfl, ⟨_, rfl, ha_rng _⟩, trivial⟩ hT2.1.1 _ rfl
    obtain ⟨z, rfl, z0, z1⟩ : ∃ z : Int32, rv3 = some (.int z) ∧ 0 ≤ z.toInt ∧ z.toInt ≤ 1 := by
      match rv3, hr3 with
      | some v, ⟨z, hz, z0, z1⟩ => exact ⟨z, by rw [hz], z0, z1⟩
    have hT3 := hm_Tw hT2 hw3 (by decide) (by decide) (by decide)
    refine ha_RT_call (virt := true) (a := 0) (x := 105) (y := 2) rfl rfl (by decide) (q := _) rfl ⟨hm_Tr hT2 [.int (hm_h f ra en p)], Nat.le_of_ble_eq_true rfl, Nat.le_of_ble_eq_true rfl, Nat.le_refl 0, Nat.le_of_ble_eq_true rfl⟩ hc3 ?_
    show ha_RT ext 106 133 _ [.int z] _ _ _
    refine ha_RT_if rfl (fun _ => ?_) (fun _ => ?_)
    · show ha_RT ext 106 139 _ _ _ _ _
      refine ha_RT_sN [142, 144, 145, 147] (pc' := 147) (L' := (hm_Ly d w n (Int32.ofInt (-2000) - p) (some (.int p)) (some (.int (hm_h f ra en p))) (some (.int (hm_bi (hm_rS f ra en p).1))))) (st' := []) rfl rfl ?_
      obtain ⟨vs3, hO3, hs3, h53, h63, h73⟩ := hT3.2.1
      have q0 := hm_sf hs3 (y := 0) (r := 48) rfl
      have q3 := hm_sf hs3 (y := 3) (r := 51) rfl
      refine ha_RT_sN [148] (pc' := 148) (L' := (hm_Ly d w n (Int32.ofInt (-2000) - p) (some (.int p)) (some (.int (hm_h f ra en p))) (some (.int (hm_bi (hm_rS f ra en p).1))))) (st' := [.ref 47]) rfl rfl ?_
      refine ha_RT_mem rfl rfl (hm_rd hO3 q3 _ _) ?_
      show ha_RT ext 106 151 _ _ _ _ _
      refine ha_RT_sN [152] (pc' := 152) (L' := (hm_Ly d w n (Int32.ofInt (-2000) - p) (some (.int p)) (some (.int (hm_h f ra en p))) (some (.int (hm_bi (hm_rS f ra en p).1))))) (st' := [.ref 47, .ref 51]) rfl rfl ?_
      refine ha_RT_mem rfl rfl (hm_rd hO3 q0 _ _) ?_
      show ha_RT ext 106 155 _ _ _ _ _
      obtain ⟨n4, rv4, M4, hc4, hr4, hw4⟩ := hm_z hn 6 rfl [.ref 51, .ref 48] M3 ⟨rfl, rfl, trivial⟩ hT3.1.1 _ rfl
      obtain rfl : rv4 = none := by
        match rv4, hr4 with
        | none, _ => rfl
      refine ha_RT_call (virt := false) (a := 0) (x := 73) (y := 2) rfl rfl (by decide) (q := _) rfl ⟨rfl, Nat.le_of_ble_eq_true rfl, Nat.le_of_ble_eq_true rfl, Nat.le_refl 0, Nat.le_of_ble_eq_true rfl⟩ hc4 ?_
      show ha_RT ext 106 158 _ [] _ _ _
      refine ha_RT_br (pc' := 93) (st' := []) rfl rfl rfl ?_
      refine hm_f93 (hm_wtr hT3.1 hw4 (by decide)) (fun e => ?_)
      have e1 : (Int32.ofInt (-2000) - p).toInt = -2000 - p.toInt := by
        rw [Int32.toInt_sub, show (Int32.ofInt (-2000)).toInt = -2000 from rfl]
        exact ha_bm (by unfold ha_lo; omega) (by unfold ha_hi; omega)
      rw [e] at e1
      have e2 : (0 : Int32).toInt = 0 := rfl
      omega
    · show ha_RT ext 106 136 _ _ _ _ _
      refine ha_RT_br (pc' := 93) (st' := []) rfl rfl rfl ?_
      exact ih hG M3 n _ _ _ hT3
set_option maxHeartbeats 4000000 in
set_option maxRecDepth 10000 in
theorem hm_l1 (hn : hm_no ext) {M0 : hzMem} {f : Nat → Int32} {ra en d w : Int32} {Post : Option Value → hzMem → Prop} : ∀ (m : Nat) (p n : Int32) (M : hzMem), (100 - p.toInt).toNat < m → p.toInt ≤ 99 → hm_T M0 f ra en p M → (∀ (M' : hzMem) (p' n' F : Int32), hm_T M0 f ra en p' M' → ((F = Int32.ofInt 0 ∧ ∃ k, hm_G f ra en k p) ∨ F ≠ 0) → ha_RT ext 106 77 (hm_Ly d w n' F none none none) [] M' 0 Post) → ha_RT ext 106 41 (hm_Ly d w n (Int32.ofInt 0) none none none) [] M 0 Post := by
  intro m
  induction m with
  | zero => intro p n M h; exact absurd h (Nat.not_lt_zero _)
  | succ m ih =>
    intro p n M h p99 hT kk
    refine ha_RT_sN [42] (pc' := 42) (L' := (hm_Ly d w n (Int32.ofInt 0) none none none)) (st' := [.ref 47]) rfl rfl ?_
    obtain ⟨n2, M2, hc2, hT2⟩ := hm_c102 hn hT p99
    have b0 := (hm_Tb hT).1.1
    have be := (hm_Tb hT).2.2
    have b2 := (hm_Tb hT2).1
    refine ha_RT_call (virt := true) (a := 0) (x := 102) (y := 1) rfl rfl (by decide) (q := _) rfl ⟨hm_Tr hT [], Nat.le_of_ble_eq_true rfl, Nat.le_of_ble_eq_true rfl, Nat.le_refl 0, Nat.le_of_ble_eq_true rfl⟩ hc2 ?_
    show ha_RT ext 106 45 _ [.int (hm_bi (hm_rS f ra en p).1)] _ _ _
    obtain ⟨vs, hO, hs, h5, h6, h7⟩ := hT2.2.1
    have end58 : ∀ F : Int32, (F = Int32.ofInt 0 ∧ (hm_rS f ra en p).1 = true) ∨ F ≠ 0 → ha_RT ext 106 58 (hm_Ly d w n F none none none) [] M2 0 Post := by
      intro F hF
      refine ha_RT_sN [61, 63] (pc' := 63) (L' := (hm_Ly d w (n + Int32.ofInt 1) F none none none)) (st' := [.int F]) rfl rfl ?_
      refine ha_RT_if rfl (fun h3 => ?_) (fun h3 => ?_)
      · show ha_RT ext 106 77 _ _ _ _ _
        refine kk M2 _ (n + Int32.ofInt 1) F hT2 (Or.inr (fun e => ?_))
        rw [e] at h3
        exact absurd h3 (by decide)
      show ha_RT ext 106 66 _ _ _ _ _
      simp only [hz_cmp, Bool.not_eq_false', decide_eq_true_eq] at h3
      subst h3
      have hS : (hm_rS f ra en p).1 = true := by
        rcases hF with h | h
        · exact h.2
        · exact absurd rfl h
      have hlt := hm_rSb be.2 b0 p99 hS
      refine ha_RT_sN [67] (pc' := 67) (L' := (hm_Ly d w (n + Int32.ofInt 1) 0 none none none)) (st' := [.ref 47]) rfl rfl ?_
      refine ha_RT_mem rfl rfl (hm_rd hO h5 _ _) ?_
      show ha_RT ext 106 70 _ _ _ _ _
      refine ha_RT_sN [71] (pc' := 71) (L' := (hm_Ly d w (n + Int32.ofInt 1) 0 none none none)) (st' := [.ref 47, .int (hm_rS f ra en p).2]) rfl rfl ?_
      refine ha_RT_mem rfl rfl (hm_rd hO h7 _ _) ?_
      show ha_RT ext 106 74 _ _ _ _ _
      refine ha_RT_ic rfl (fun h4 => ?_) (fun h4 => ?_)
      · show ha_RT ext 106 41 _ _ _ _ _
        simp only [hz_cmp, decide_eq_true_eq, Int32.lt_iff_toInt_lt] at h4
        refine ih (hm_rS f ra en p).2 (n + Int32.ofInt 1) M2 (by omega) (by omega) hT2 (fun M' p' n' F hT' h => kk M' p' n' F hT' ?_)
        rcases h with ⟨h, k, g⟩ | h
        · exact Or.inl ⟨h, k + 1, Or.inr ⟨hS, g⟩⟩
        · exact Or.inr h
      · show ha_RT ext 106 77 _ _ _ _ _
        simp only [hz_cmp, decide_eq_false_iff_not, Int32.lt_iff_toInt_lt] at h4
        exact kk M2 _ (n + Int32.ofInt 1) 0 hT2 (Or.inl ⟨rfl, 1, Or.inr ⟨hS, h4⟩⟩)
    refine ha_RT_if rfl (fun h1 => ?_) (fun h1 => ?_)
    · show ha_RT ext 106 58 _ _ _ _ _
      rw [hm_bin] at h1
      exact end58 _ (Or.inl ⟨rfl, h1⟩)
    show ha_RT ext 106 48 _ _ _ _ _
    refine ha_RT_sN [51, 52] (pc' := 52) (L' := (hm_Ly d w n (Int32.ofInt 0) none none none)) (st' := [.ref 47, .int (Int32.ofInt (-1000))]) rfl rfl ?_
    refine ha_RT_mem rfl rfl (hm_rd hO h5 _ _) ?_
    show ha_RT ext 106 55 _ _ _ _ _
    refine ha_RT_sN [56, 58] (pc' := 58) (L' := (hm_Ly d w n (Int32.ofInt (-1000) - (hm_rS f ra en p).2) none none none)) (st' := []) rfl rfl ?_
    refine end58 _ (Or.inr (fun e => ?_))
    have e1 : (Int32.ofInt (-1000) - (hm_rS f ra en p).2).toInt = -1000 - (hm_rS f ra en p).2.toInt := by
      rw [Int32.toInt_sub, show (Int32.ofInt (-1000)).toInt = -1000 from rfl]
      exact ha_bm (by unfold ha_lo; omega) (by unfold ha_hi; omega)
    rw [e] at e1
    have e2 : (0 : Int32).toInt = 0 := rfl
    omega
abbrev hm_Y6 : ha_Y := (106, [.inr (.inl 47), .inl ((-2147483648), 2147483647)], some (.inl ((-2147483648), 2147483647)), hm_Ws)
theorem hm_wr (hn : hm_no ext) {M0 : hzMem} (hi : ha_inv hw_W M0) (d : Int32) : ∃ n w M1, ha_C ext n 158 [.ref 47, .int d, .int (Int32.ofInt 0)] M0 hzq_158.2.2.1 hzq_158.2.2.2.2.2.2.2.1 = some (some (.int w), M1) ∧ ha_wok hw_W [] M0 M1 ∧ (w = 0 → 0 ≤ d.toInt ∧ d.toInt ≤ 7) := by
  have r := ha_rng d
  unfold ha_lo ha_hi at r
  by_cases h : d.toInt < 0
  · obtain ⟨n, rv, M1, hc, hr, hw⟩ := hm_z hn 8 rfl [.ref 47, .int d, .int (Int32.ofInt 0)] M0 ⟨rfl, ⟨d, rfl, r.1, by show d.toInt ≤ -1; omega⟩, ⟨_, rfl, ha_rng _⟩, trivial⟩ hi _ rfl
    match rv, hr with
    | some v, ⟨z, hz, z0, z1⟩ =>
      subst hz
      refine ⟨n, z, M1, hc, hw, fun e => ?_⟩
      subst e
      exact absurd z1 (by decide)
  by_cases h' : 7 < d.toInt
  · obtain ⟨n, rv, M1, hc, hr, hw⟩ := hm_z hn 9 rfl [.ref 47, .int d, .int (Int32.ofInt 0)] M0 ⟨rfl, ⟨d, rfl, by show 8 ≤ d.toInt; omega, r.2⟩, ⟨_, rfl, ha_rng _⟩, trivial⟩ hi _ rfl
    match rv, hr with
    | some v, ⟨z, hz, z0, z1⟩ =>
      subst hz
      refine ⟨n, z, M1, hc, hw, fun e => ?_⟩
      subst e
      exact absurd z1 (by decide)
  · obtain ⟨n, rv, M1, hc, hr, hw⟩ := hm_z hn 7 rfl [.ref 47, .int d, .int (Int32.ofInt 0)] M0 ⟨rfl, ⟨d, rfl, by show 0 ≤ d.toInt; omega, by show d.toInt ≤ 7; omega⟩, ⟨_, rfl, ha_rng _⟩, trivial⟩ hi _ rfl
    match rv, hr with
    | some v, ⟨z, hz, _⟩ =>
      subst hz
      exact ⟨n, z, M1, hc, hw, fun _ => ⟨by omega, by omega⟩⟩
set_option maxHeartbeats 4000000 in
set_option maxRecDepth 10000 in
/-- the reference's street -/
theorem hm_v6 (hn : hm_no ext) : ha_val ext hw_W hm_Y6 := by
  intro As M0 hA hi q hq
  obtain ⟨d, rfl⟩ : ∃ d : Int32, As = [.ref 47, .int d] := by
    match As, hA with
    | [v1, v2], ⟨h1, ⟨d, h2, _⟩, _⟩ =>
      subst h2
      cases (show v1 = .ref 47 from h1)
      exact ⟨d, rfl⟩
  cases hq
  have hwr := hm_wr hn hi d
  have key : ha_RT ext 106 0 [some (.ref 47), some (.int d), none, none, none, none, none, none] [] M0 0 (hm_P6 M0) := by
    refine ha_RT_sN [1, 2, 3] (pc' := 3) (L' := [some (.ref 47), some (.int d), none, none, none, none, none, none]) (st' := [.int (Int32.ofInt 0), .int d, .ref 47]) rfl rfl ?_
    obtain ⟨n1, w, M1, hc1, hw1, hd1⟩ := hwr
    have hwk := hm_wtr (⟨hi, rfl, fun _ _ => rfl⟩ : ha_wok hw_W hm_Ws M0 M0) hw1 (fun _ hj => absurd hj List.not_mem_nil)
    obtain ⟨f, ra0, en0, p0, hT0⟩ := hm_Ti hwk
    obtain ⟨f9, ra9, en9, p9, hT9⟩ := hm_Ti (⟨hi, rfl, fun _ _ => rfl⟩ : ha_wok hw_W hm_Ws M0 M0)
    refine ha_RT_call (virt := true) (a := 0) (x := 158) (y := 3) rfl rfl (by decide) (q := _) rfl ⟨hm_Tr hT9 [.int d, .int (Int32.ofInt 0)], Nat.le_of_ble_eq_true rfl, Nat.le_of_ble_eq_true rfl, Nat.le_refl 0, Nat.le_of_ble_eq_true rfl⟩ hc1 ?_
    show ha_RT ext 106 6 _ [.int w] _ _ _
    refine ha_RT_sN [7, 8] (pc' := 8) (L' := [some (.ref 47), some (.int d), (some (.int w)), none, none, none, none, none]) (st' := [.int w]) rfl rfl ?_
    refine ha_RT_if rfl (fun h1 => ?_) (fun h1 => ?_)
    case' refine_2 =>
      show ha_RT ext 106 11 _ _ _ _ _
      refine ha_RT_sN [12] (pc' := 12) (L' := [some (.ref 47), some (.int d), (some (.int w)), none, none, none, none, none]) (st' := [.int w]) rfl rfl ?_
      exact ha_RT_ret (rv := some (.int w)) rfl rfl rfl rfl ⟨⟨w, rfl⟩, hwk⟩
    show ha_RT ext 106 13 _ _ _ _ _
    simp only [hz_cmp, decide_eq_true_eq] at h1
    obtain ⟨d0, d7⟩ := hd1 h1
    have x1 : (Int32.ofInt 100 * d).toInt = 100 * d.toInt := by
      rw [Int32.toInt_mul, show (Int32.ofInt 100).toInt = 100 from rfl]
      exact ha_bm (by unfold ha_lo; omega) (by unfold ha_hi; omega)
    refine ha_RT_sN [14, 16, 17, 18] (pc' := 18) (L' := [some (.ref 47), some (.int d), (some (.int w)), none, none, none, none, none]) (st' := [.int (Int32.ofInt 100 * d), .ref 47]) rfl rfl ?_
    obtain ⟨M2, hp2, hT2, _⟩ := hm_T6 hT0 (q := Int32.ofInt 100 * d) (by omega) (by omega) 118 []
    refine ha_RT_mem rfl rfl hp2 ?_
    show ha_RT ext 106 21 _ _ _ _ _
    obtain ⟨vs, hO, hs, h5, h6, h7⟩ := hT2.2.1
    have h14 := hm_sf hs (y := 14) (r := 57) rfl
    obtain ⟨fz, hZ, bz⟩ := hm_ints hT2.1.1 (k := 57) (n := 8) (q := (0, 100)) rfl
    refine ha_RT_sN [22, 23] (pc' := 23) (L' := [some (.ref 47), some (.int d), (some (.int w)), none, none, none, none, none]) (st' := [.ref 47, .ref 47]) rfl rfl ?_
    refine ha_RT_mem rfl rfl (hm_rd hO h14 _ _) ?_
    show ha_RT ext 106 26 _ _ _ _ _
    refine ha_RT_sN [27] (pc' := 27) (L' := [some (.ref 47), some (.int d), (some (.int w)), none, none, none, none, none]) (st' := [.int d, .ref 57, .ref 47]) rfl rfl ?_
    refine ha_RT_mem rfl rfl (hm_ial hZ d0 (by show d.toInt < 8; omega) _ _ _) ?_
    show ha_RT ext 106 28 _ _ _ _ _
    have bd := bz d.toNatClampNeg (hm_nic d0 (by show d.toInt < 8; omega))
    obtain ⟨M3, hp3, hT3, _⟩ := hm_T7 hT2 (q := fz d.toNatClampNeg) bd.1 bd.2 115 []
    refine ha_RT_mem rfl rfl hp3 ?_
    show ha_RT ext 106 31 _ _ _ _ _
    refine ha_RT_sN [32, 33] (pc' := 33) (L' := [some (.ref 47), some (.int d), (some (.int w)), none, none, none, none, none]) (st' := [.int (Int32.ofInt 0), .ref 47]) rfl rfl ?_
    obtain ⟨M4, hp4, hT4, _⟩ := hm_T5 hT3 (q := Int32.ofInt 0) (by decide) (by decide) 111 []
    refine ha_RT_mem rfl rfl hp4 ?_
    show ha_RT ext 106 36 _ _ _ _ _
    refine ha_RT_sN [37, 38, 39, 41] (pc' := 41) (L' := (hm_Ly d w (Int32.ofInt 0) (Int32.ofInt 0) none none none)) (st' := []) rfl rfl ?_
    refine hm_l1 hn 101 (Int32.ofInt 0) (Int32.ofInt 0) M4 (by decide) (by decide) hT4 (fun M5 p5 n5 F hT5 h => ?_)
    obtain ⟨vs5, hO5, hs5, h55, h65, h75⟩ := hT5.2.1
    have q0 := hm_sf hs5 (y := 0) (r := 48) rfl
    have q3 := hm_sf hs5 (y := 3) (r := 51) rfl
    refine ha_RT_sN [78] (pc' := 78) (L' := (hm_Ly d w n5 F none none none)) (st' := [.ref 47]) rfl rfl ?_
    refine ha_RT_mem rfl rfl (hm_rd hO5 q0 _ _) ?_
    show ha_RT ext 106 81 _ _ _ _ _
    refine ha_RT_sN [82] (pc' := 82) (L' := (hm_Ly d w n5 F none none none)) (st' := [.ref 47, .ref 48]) rfl rfl ?_
    refine ha_RT_mem rfl rfl (hm_rd hO5 q3 _ _) ?_
    show ha_RT ext 106 85 _ _ _ _ _
    obtain ⟨n6, rv6, M6, hc6, hr6, hw6⟩ := hm_z hn 5 rfl [.ref 48, .ref 51] M5 ⟨rfl, rfl, trivial⟩ hT5.1.1 _ rfl
    obtain rfl : rv6 = none := by
      match rv6, hr6 with
      | none, _ => rfl
    refine ha_RT_call (virt := false) (a := 0) (x := 73) (y := 2) rfl rfl (by decide) (q := _) rfl ⟨rfl, Nat.le_of_ble_eq_true rfl, Nat.le_of_ble_eq_true rfl, Nat.le_refl 0, Nat.le_of_ble_eq_true rfl⟩ hc6 ?_
    show ha_RT ext 106 88 _ [] _ _ _
    have hT6 := hm_Tw hT5 hw6 (by decide) (by decide) (by decide)
    refine ha_RT_sN [89, 90] (pc' := 90) (L' := (hm_Ly d w n5 F none none none)) (st' := [.int (Int32.ofInt 0), .ref 47]) rfl rfl ?_
    obtain ⟨M7, hp7, hT7, _⟩ := hm_T5 hT6 (q := Int32.ofInt 0) (by decide) (by decide) 111 []
    refine ha_RT_mem rfl rfl hp7 ?_
    show ha_RT ext 106 93 _ _ _ _ _
    rcases h with ⟨rfl, k, g⟩ | h
    · exact hm_l2 hn k g M7 n5 none none none hT7
    · exact hm_f93 hT7.1 h
  obtain ⟨m, rv, M', h1, ⟨w, rfl⟩, hw⟩ := key
  exact ⟨m, some (.int w), M', hm_toC hn (q := hzq_106) rfl (by decide) h1, ⟨w, rfl, (ha_rng w).1, (ha_rng w).2⟩, hw⟩
end HF
