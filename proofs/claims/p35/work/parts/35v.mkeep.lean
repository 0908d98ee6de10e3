/-! THE REFERENCE's SHELVES, exactly -/
section HS
variable {ext : Nat → List Value → hzMem → Option (Option (Option Value × hzMem))}
theorem hs_mod {M : hzMem} (hi : ha_inv hw_W M) : ∃ vs, M[47]? = some (.inr (3, vs)) ∧ vs[10]? = some (.ref 53) ∧ vs[11]? = some (.ref 54) ∧ vs[12]? = some (.ref 55) ∧ vs[13]? = some (.ref 56) ∧ vs[14]? = some (.ref 57) ∧ vs[15]? = some (.ref 58) := by
  obtain ⟨e, hM, hs⟩ := hi 47 _ hm_W47
  match e, hM, hs with
  | .inr (c, vs), hM, hs =>
    obtain ⟨rfl, h2⟩ := hs
    have hs : ha_shp (.inl (3, hm_f47)) (.inr (3, vs)) := ⟨rfl, h2⟩
    exact ⟨vs, hM, hm_sf hs rfl, hm_sf hs rfl, hm_sf hs rfl, hm_sf hs rfl, hm_sf hs rfl, hm_sf hs rfl⟩
  | .inl _, _, hs => exact hs.elim
theorem hs_sg {M : hzMem} {A B : Nat} {e : (Nat × vp_A) ⊕ (Nat × List Value)} {x : Option ((Nat × vp_A) ⊕ (Nat × List Value))} (hne : A ≠ B) (h : M[B]? = x) : (M.set A e)[B]? = x := by rw [List.getElem?_set_ne hne]; exact h
/-- one shelf changed -/
theorem hs_M_set {σ : Nat → hs_S} {M' : hzMem} {d : Nat} {x : hs_S} {K KK KF S Z E K' KK' KF' S' Z' E' : Nat → Int32}
    (ho : ∀ d : Nat, d < 8 → K d = (σ d).1 ∧ ((σ d).1 = 1 → KK d = (σ d).2.1 ∧ KF d = (σ d).2.2.1) ∧ ((σ d).1 = 2 → S d = (σ d).2.1 ∧ Z d = (σ d).2.2.1 ∧ ∀ j : Nat, j < 100 → E (100 * d + j) = (σ d).2.2.2 j))
    (m1 : M'[53]? = some (.inl (0, 8, .inl K'))) (m2 : M'[54]? = some (.inl (0, 8, .inl KK'))) (m3 : M'[55]? = some (.inl (0, 8, .inl KF'))) (m4 : M'[56]? = some (.inl (0, 8, .inl S'))) (m5 : M'[57]? = some (.inl (0, 8, .inl Z'))) (m6 : M'[58]? = some (.inl (0, 800, .inl E')))
    (hn : ∀ e : Nat, e < 8 → e ≠ d → K' e = K e ∧ KK' e = KK e ∧ KF' e = KF e ∧ S' e = S e ∧ Z' e = Z e ∧ ∀ j : Nat, j < 100 → E' (100 * e + j) = E (100 * e + j))
    (hd : K' d = x.1 ∧ (x.1 = 1 → KK' d = x.2.1 ∧ KF' d = x.2.2.1) ∧ (x.1 = 2 → S' d = x.2.1 ∧ Z' d = x.2.2.1 ∧ ∀ j : Nat, j < 100 → E' (100 * d + j) = x.2.2.2 j)) : hs_M (hs_u σ d x) M' := by
  refine ⟨K', KK', KF', S', Z', E', m1, m2, m3, m4, m5, m6, fun e he => ?_⟩
  unfold hs_u
  by_cases q : e = d
  · subst q
    rw [if_pos rfl]
    exact hd
  · rw [if_neg q]
    obtain ⟨a, b, c⟩ := ho e he
    obtain ⟨n1, n2, n3, n4, n5, n6⟩ := hn e he q
    rw [n1, n2, n3, n4, n5]
    exact ⟨a, b, fun h => ⟨(c h).1, (c h).2.1, fun j hj => (n6 j hj).trans ((c h).2.2 j hj)⟩⟩
set_option maxHeartbeats 4000000 in
set_option maxRecDepth 10000 in
theorem hs_m160 (hn : hm_no ext) {σ : Nat → hs_S} {M : hzMem} (hi : ha_inv hw_W M) (hC : hs_M σ M) (d w k f : Int32) : ∃ n M', ha_C ext n 160 [.ref 47, .int d, .int w, .int k, .int f] M 5 0 = some (some (.int (sp_keep σ d w k f).1), M') ∧ ha_wok hw_W hm_Wd M M' ∧ hs_M (sp_keep σ d w k f).2 M' := by
  have key : ha_RT ext 160 0 [some (.ref 47), some (.int d), some (.int w), some (.int k), some (.int f)] [] M 0 (fun rv M' => rv = some (.int (sp_keep σ d w k f).1) ∧ ha_wok hw_W hm_Wd M M' ∧ hs_M (sp_keep σ d w k f).2 M') := by
    have no : sp_keep σ d w k f = (Int32.ofInt (-1), σ) → ha_RT ext 160 42 [some (.ref 47), some (.int d), some (.int w), some (.int k), some (.int f)] [] M 0 (fun rv M' => rv = some (.int (sp_keep σ d w k f).1) ∧ ha_wok hw_W hm_Wd M M' ∧ hs_M (sp_keep σ d w k f).2 M') := by
      intro e
      refine ha_RT_sN [43] (pc' := 43) (L' := [some (.ref 47), some (.int d), some (.int w), some (.int k), some (.int f)]) (st' := [.int (Int32.ofInt (-1))]) rfl rfl ?_
      refine ha_RT_ret (rv := some (.int (Int32.ofInt (-1)))) rfl rfl rfl rfl ?_
      rw [e]
      exact ⟨rfl, ⟨hi, rfl, fun _ _ => rfl⟩, hC⟩
    obtain ⟨vs, hO, v10, v11, v12, v13, v14, v15⟩ := hs_mod hi
    obtain ⟨K, KK, KF, S, Z, E, m1, m2, m3, m4, m5, m6, ho⟩ := id hC
    have yes : ∀ (x : hs_S), (0 ≤ d.toInt ∧ d.toInt ≤ 7) → sp_keep σ d w k f = (Int32.ofInt 0, hs_u σ d.toNatClampNeg x) → w = x.1 → (x.1 = 1 → k = x.2.1 ∧ f = x.2.2.1) → x.1 ≠ 2 → ha_RT ext 160 44 [some (.ref 47), some (.int d), some (.int w), some (.int k), some (.int f)] [] M 0 (fun rv M' => rv = some (.int (sp_keep σ d w k f).1) ∧ ha_wok hw_W hm_Wd M M' ∧ hs_M (sp_keep σ d w k f).2 M') := by
      intro x h1 e ew ex e2
      have d8 : d.toInt < ((8 : Nat) : Int) := by show d.toInt < 8; omega
      have dn : d.toNatClampNeg < 8 := by show d.toInt.toNat < 8; omega
      refine ha_RT_sN [45] (pc' := 45) (L' := [some (.ref 47), some (.int d), some (.int w), some (.int k), some (.int f)]) (st' := [.ref 47]) rfl rfl ?_
      refine ha_RT_mem rfl rfl (hm_rd hO v10 _ _) ?_
      show ha_RT ext 160 48 _ _ _ _ _
      refine ha_RT_sN [49, 50] (pc' := 50) (L' := [some (.ref 47), some (.int d), some (.int w), some (.int k), some (.int f)]) (st' := [.int w, .int d, .ref 53]) rfl rfl ?_
      refine ha_RT_mem rfl rfl (hm_ias m1 h1.1 d8 w _ _ _) ?_
      show ha_RT ext 160 51 _ _ _ _ _
      refine ha_RT_sN [52] (pc' := 52) (L' := [some (.ref 47), some (.int d), some (.int w), some (.int k), some (.int f)]) (st' := [.ref 47]) rfl rfl ?_
      refine ha_RT_mem rfl rfl (hm_rd (hs_sg (by decide) hO) v11 _ _) ?_
      show ha_RT ext 160 55 _ _ _ _ _
      refine ha_RT_sN [56, 57] (pc' := 57) (L' := [some (.ref 47), some (.int d), some (.int w), some (.int k), some (.int f)]) (st' := [.int k, .int d, .ref 54]) rfl rfl ?_
      refine ha_RT_mem rfl rfl (hm_ias (hs_sg (by decide) m2) h1.1 d8 k _ _ _) ?_
      show ha_RT ext 160 58 _ _ _ _ _
      refine ha_RT_sN [59] (pc' := 59) (L' := [some (.ref 47), some (.int d), some (.int w), some (.int k), some (.int f)]) (st' := [.ref 47]) rfl rfl ?_
      refine ha_RT_mem rfl rfl (hm_rd (hs_sg (by decide) (hs_sg (by decide) hO)) v12 _ _) ?_
      show ha_RT ext 160 62 _ _ _ _ _
      refine ha_RT_sN [63, 65] (pc' := 65) (L' := [some (.ref 47), some (.int d), some (.int w), some (.int k), some (.int f)]) (st' := [.int f, .int d, .ref 55]) rfl rfl ?_
      refine ha_RT_mem rfl rfl (hm_ias (hs_sg (by decide) (hs_sg (by decide) m3)) h1.1 d8 f _ _ _) ?_
      show ha_RT ext 160 66 _ _ _ _ _
      refine ha_RT_sN [67] (pc' := 67) (L' := [some (.ref 47), some (.int d), some (.int w), some (.int k), some (.int f)]) (st' := [.int (Int32.ofInt 0)]) rfl rfl ?_
      refine ha_RT_ret (rv := some (.int (Int32.ofInt 0))) rfl rfl rfl rfl ?_
      rw [e]
      have w1 := ha_wok_set (Wr := hm_Wd) (⟨hi, rfl, fun _ _ => rfl⟩ : ha_wok hw_W hm_Wd M M) m1 (e := .inl (0, 8, .inl (upd K d.toNatClampNeg w))) (by decide) (fun sh hsh => by cases hsh; exact ⟨rfl, rfl, fun _ _ => ha_rng _⟩)
      have w2 := ha_wok_set w1 (hs_sg (by decide) m2) (e := .inl (0, 8, .inl (upd KK d.toNatClampNeg k))) (by decide) (fun sh hsh => by cases hsh; exact ⟨rfl, rfl, fun _ _ => ha_rng _⟩)
      have w3 := ha_wok_set w2 (hs_sg (by decide) (hs_sg (by decide) m3)) (e := .inl (0, 8, .inl (upd KF d.toNatClampNeg f))) (by decide) (fun sh hsh => by cases hsh; exact ⟨rfl, rfl, fun _ _ => ha_rng _⟩)
      refine ⟨rfl, w3, hs_M_set ho (hs_sg (by decide) (hs_sg (by decide) (hs_gs m1))) (hs_sg (by decide) (hs_gs (hs_sg (by decide) m2))) (hs_gs (hs_sg (by decide) (hs_sg (by decide) m3))) (hs_sg (by decide) (hs_sg (by decide) (hs_sg (by decide) m4))) (hs_sg (by decide) (hs_sg (by decide) (hs_sg (by decide) m5))) (hs_sg (by decide) (hs_sg (by decide) (hs_sg (by decide) m6))) (fun e he q => ⟨hs_un q, hs_un q, hs_un q, rfl, rfl, fun _ _ => rfl⟩) ⟨hs_us.trans ew, fun q => ⟨hs_us.trans (ex q).1, hs_us.trans (ex q).2⟩, fun q => absurd q e2⟩⟩
    refine ha_RT_sN [1] (pc' := 1) (L' := [some (.ref 47), some (.int d), some (.int w), some (.int k), some (.int f)]) (st' := [.int d]) rfl rfl ?_
    obtain ⟨n1, hc1⟩ := hm_ex157 hn d M
    refine ha_RT_call (virt := false) (a := 0) (x := 157) (y := 1) rfl rfl (by decide) (q := _) rfl ⟨rfl, Nat.le_of_ble_eq_true rfl, Nat.le_of_ble_eq_true rfl, Nat.le_refl 0, Nat.le_of_ble_eq_true rfl⟩ hc1 ?_
    show ha_RT ext 160 4 _ [.int (hm_bi (decide (0 ≤ d.toInt ∧ d.toInt ≤ 7)))] _ _ _
    refine ha_RT_if rfl (fun h1 => no (if_pos (Or.inl (by rw [hm_bie, Bool.not_eq_true', decide_eq_false_iff_not] at h1; exact h1)))) (fun h1 => ?_)
    show ha_RT ext 160 7 _ _ _ _ _
    rw [hm_bie, Bool.not_eq_false', decide_eq_true_eq] at h1
    refine ha_RT_sN [8, 9, 10] (pc' := 10) (L' := [some (.ref 47), some (.int d), some (.int w), some (.int k), some (.int f)]) (st' := [.int (Int32.ofInt 1), .int (Int32.ofInt 0), .int w]) rfl rfl ?_
    obtain ⟨n2, hc2⟩ := hm_ex70 hn w (Int32.ofInt 0) (Int32.ofInt 1) M
    refine ha_RT_call (virt := false) (a := 0) (x := 70) (y := 3) rfl rfl (by decide) (q := _) rfl ⟨rfl, Nat.le_of_ble_eq_true rfl, Nat.le_of_ble_eq_true rfl, Nat.le_refl 0, Nat.le_of_ble_eq_true rfl⟩ hc2 ?_
    show ha_RT ext 160 13 _ [.int (hm_bi (decide (0 ≤ w.toInt ∧ w.toInt ≤ 1)))] _ _ _
    have hw01 : (0 ≤ w.toInt ∧ w.toInt ≤ 1) ↔ (w = 0 ∨ w = 1) := by
      rw [← Int32.toInt_inj, ← Int32.toInt_inj, show (0 : Int32).toInt = 0 from rfl, show (1 : Int32).toInt = 1 from rfl]
      omega
    refine ha_RT_if rfl (fun h2 => no (if_pos (Or.inr (by rw [hm_bie, Bool.not_eq_true', decide_eq_false_iff_not, hw01] at h2; exact h2)))) (fun h2 => ?_)
    show ha_RT ext 160 16 _ _ _ _ _
    rw [hm_bie, Bool.not_eq_false', decide_eq_true_eq, hw01] at h2
    have hg : ¬ (¬ (0 ≤ d.toInt ∧ d.toInt ≤ 7) ∨ ¬ (w = 0 ∨ w = 1)) := fun q => q.elim (fun q => q h1) (fun q => q h2)
    refine ha_RT_sN [17, 18] (pc' := 18) (L' := [some (.ref 47), some (.int d), some (.int w), some (.int k), some (.int f)]) (st' := [.int (Int32.ofInt 1), .int w]) rfl rfl ?_
    refine ha_RT_ic rfl (fun h3 => ?_) (fun h3 => ?_)
    · show ha_RT ext 160 44 _ _ _ _ _
      simp only [hz_cmp, Bool.not_eq_true', decide_eq_false_iff_not] at h3
      have w0 : w = 0 := h2.resolve_right h3
      exact yes (0, 0, 0, fun _ => 0) h1 ((if_neg hg).trans (if_pos w0)) w0 (fun q => absurd (show (0 : Int32) = 1 from q) (by decide)) (by decide)
    show ha_RT ext 160 21 _ _ _ _ _
    simp only [hz_cmp, Bool.not_eq_false', decide_eq_true_eq] at h3
    have w1 : w = 1 := h3
    have w0 : ¬ w = 0 := by rw [w1]; decide
    refine ha_RT_sN [22, 23, 25] (pc' := 25) (L' := [some (.ref 47), some (.int d), some (.int w), some (.int k), some (.int f)]) (st' := [.int (Int32.ofInt 7), .int (Int32.ofInt 0), .int k]) rfl rfl ?_
    obtain ⟨n3, hc3⟩ := hm_ex70 hn k (Int32.ofInt 0) (Int32.ofInt 7) M
    refine ha_RT_call (virt := false) (a := 0) (x := 70) (y := 3) rfl rfl (by decide) (q := _) rfl ⟨rfl, Nat.le_of_ble_eq_true rfl, Nat.le_of_ble_eq_true rfl, Nat.le_refl 0, Nat.le_of_ble_eq_true rfl⟩ hc3 ?_
    show ha_RT ext 160 28 _ [.int (hm_bi (decide (0 ≤ k.toInt ∧ k.toInt ≤ 7)))] _ _ _
    refine ha_RT_if rfl (fun h5 => no ((if_neg hg).trans ((if_neg w0).trans (if_pos (Or.inl (by rw [hm_bie, Bool.not_eq_true', decide_eq_false_iff_not] at h5; exact h5)))))) (fun h5 => ?_)
    show ha_RT ext 160 31 _ _ _ _ _
    rw [hm_bie, Bool.not_eq_false', decide_eq_true_eq] at h5
    refine ha_RT_sN [33, 34, 36] (pc' := 36) (L' := [some (.ref 47), some (.int d), some (.int w), some (.int k), some (.int f)]) (st' := [.int (Int32.ofInt 9), .int (Int32.ofInt 0), .int f]) rfl rfl ?_
    obtain ⟨n4, hc4⟩ := hm_ex70 hn f (Int32.ofInt 0) (Int32.ofInt 9) M
    refine ha_RT_call (virt := false) (a := 0) (x := 70) (y := 3) rfl rfl (by decide) (q := _) rfl ⟨rfl, Nat.le_of_ble_eq_true rfl, Nat.le_of_ble_eq_true rfl, Nat.le_refl 0, Nat.le_of_ble_eq_true rfl⟩ hc4 ?_
    show ha_RT ext 160 39 _ [.int (hm_bi (decide (0 ≤ f.toInt ∧ f.toInt ≤ 9)))] _ _ _
    refine ha_RT_if rfl (fun h6 => ?_) (fun h6 => no ((if_neg hg).trans ((if_neg w0).trans (if_pos (Or.inr (by rw [hm_bin, decide_eq_false_iff_not] at h6; exact h6))))))
    show ha_RT ext 160 44 _ _ _ _ _
    rw [hm_bin, decide_eq_true_eq] at h6
    exact yes (1, k, f, fun _ => 0) h1 ((if_neg hg).trans ((if_neg w0).trans (if_neg (fun q => q.elim (fun q => q h5) (fun q => q h6))))) w1 (fun _ => ⟨rfl, rfl⟩) (show ¬ (1 : Int32) = 2 by decide)
  obtain ⟨n, rv, M', h1, rfl, h2⟩ := key
  exact ⟨n, M', hm_toC hn (q := hzq_160) rfl (by decide) h1, h2⟩
end HS
