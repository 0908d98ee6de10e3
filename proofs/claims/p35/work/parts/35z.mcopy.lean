/-! THE REFERENCE's COPY, exactly -/
section HS
variable {ext : Nat → List Value → hzMem → Option (Option (Option Value × hzMem))}
/-- what is written after c steps -/
def hs_wr (i j n : Int32) (c k : Nat) : Prop := (j.toInt < i.toInt ∧ k < c) ∨ (i.toInt ≤ j.toInt ∧ n.toNatClampNeg ≤ k + c)
theorem hs_ix {d i k : Int32} (hd : 0 ≤ d.toInt ∧ d.toInt ≤ 7) (hi : 0 ≤ i.toInt) (hk : 0 ≤ k.toInt) (h : i.toInt + k.toInt < 100) : 0 ≤ (Int32.ofInt 100 * d + i + k).toInt ∧ (Int32.ofInt 100 * d + i + k).toInt < 800 ∧ (Int32.ofInt 100 * d + i + k).toNatClampNeg = 100 * d.toNatClampNeg + i.toNatClampNeg + k.toNatClampNeg := by
  have e := hm_ix hd.1 hd.2 hi hk h
  refine ⟨by omega, by omega, ?_⟩
  show (Int32.ofInt 100 * d + i + k).toInt.toNat = 100 * d.toInt.toNat + i.toInt.toNat + k.toInt.toNat
  rw [e]
  omega
set_option maxHeartbeats 4000000 in
set_option maxRecDepth 10000 in
theorem hs_cl {d i e j n : Int32} (hd : 0 ≤ d.toInt ∧ d.toInt ≤ 7) (he : 0 ≤ e.toInt ∧ e.toInt ≤ 7) (hi : 0 ≤ i.toInt) (hj : 0 ≤ j.toInt) (hin : i.toInt + n.toInt ≤ 100) (hjn : j.toInt + n.toInt ≤ 100) (hn0 : 0 ≤ n.toInt) {vs : List Value} (v15 : vs[15]? = some (.ref 58)) {E : Nat → Int32} {M : hzMem} : ∀ (m : Nat) (c : Int32) (x : Option Value) (Mc : hzMem) (Ec : Nat → Int32), n.toInt - c.toInt < m → 0 ≤ c.toInt → c.toInt ≤ n.toInt → Mc[47]? = some (.inr (3, vs)) → Mc[58]? = some (.inl (0, 800, .inl Ec)) → (∀ E' : Nat → Int32, Mc.set 58 (.inl (0, 800, .inl E')) = M.set 58 (.inl (0, 800, .inl E'))) → (∀ k : Nat, k < n.toNatClampNeg → hs_wr i j n c.toNatClampNeg k → Ec (100 * e.toNatClampNeg + j.toNatClampNeg + k) = E (100 * d.toNatClampNeg + i.toNatClampNeg + k)) → (∀ p : Nat, (∀ k : Nat, k < n.toNatClampNeg → hs_wr i j n c.toNatClampNeg k → p ≠ 100 * e.toNatClampNeg + j.toNatClampNeg + k) → Ec p = E p) → ha_RT ext 164 122 (hm_Lm d i e j n (some (.int c)) x) [] Mc 0 (fun rv M' => rv = some (.int n) ∧ ∃ E' : Nat → Int32, (∀ k : Nat, k < n.toNatClampNeg → E' (100 * e.toNatClampNeg + j.toNatClampNeg + k) = E (100 * d.toNatClampNeg + i.toNatClampNeg + k)) ∧ (∀ p : Nat, (∀ k : Nat, k < n.toNatClampNeg → p ≠ 100 * e.toNatClampNeg + j.toNatClampNeg + k) → E' p = E p) ∧ M' = M.set 58 (.inl (0, 800, .inl E'))) := by
  have tn : ∀ z : Int32, z.toNatClampNeg = z.toInt.toNat := fun _ => rfl
  intro m
  induction m with
  | zero => intro c x Mc Ec h h0 h1; omega
  | succ m ih =>
    intro c x Mc Ec h c0 c1 hO mE hset z1 z2
    refine ha_RT_sN [124, 126] (pc' := 126) (L' := (hm_Lm d i e j n (some (.int c)) x)) (st' := [.int n, .int c]) rfl rfl ?_
    refine ha_RT_ic rfl (fun h2 => ?_) (fun h2 => ?_)
    · show ha_RT ext 164 184 _ _ _ _ _
      simp only [hz_cmp, decide_eq_true_eq, Int32.le_iff_toInt_le] at h2
      have wr : ∀ k : Nat, k < n.toNatClampNeg → hs_wr i j n c.toNatClampNeg k := by
        intro k hk
        unfold hs_wr
        rw [tn] at hk ⊢
        rw [tn]
        omega
      refine ha_RT_sN [186] (pc' := 186) (L' := (hm_Lm d i e j n (some (.int c)) x)) (st' := [.int n]) rfl rfl ?_
      exact ha_RT_ret (rv := some (.int n)) rfl rfl rfl rfl ⟨rfl, Ec, fun k hk => z1 k hk (wr k hk), fun p hp => z2 p (fun k hk _ => hp k hk), by rw [← hset, hx_set0 mE]⟩
    show ha_RT ext 164 129 _ _ _ _ _
    simp only [hz_cmp, decide_eq_false_iff_not, Int32.le_iff_toInt_le] at h2
    have go : ∀ k : Int32, 0 ≤ k.toInt → k.toInt < n.toInt → ((j.toInt < i.toInt ∧ k.toInt = c.toInt) ∨ (i.toInt ≤ j.toInt ∧ k.toInt = n.toInt - 1 - c.toInt)) → ha_RT ext 164 147 (hm_Lm d i e j n (some (.int c)) x) [.int k] Mc 0 (fun rv M' => rv = some (.int n) ∧ ∃ E' : Nat → Int32, (∀ k : Nat, k < n.toNatClampNeg → E' (100 * e.toNatClampNeg + j.toNatClampNeg + k) = E (100 * d.toNatClampNeg + i.toNatClampNeg + k)) ∧ (∀ p : Nat, (∀ k : Nat, k < n.toNatClampNeg → p ≠ 100 * e.toNatClampNeg + j.toNatClampNeg + k) → E' p = E p) ∧ M' = M.set 58 (.inl (0, 800, .inl E'))) := by
      intro k k0 k1 hk
      refine ha_RT_sN [149, 150] (pc' := 150) (L' := (hm_Lm d i e j n (some (.int c)) (some (.int k)))) (st' := [.ref 47]) rfl rfl ?_
      refine ha_RT_mem rfl rfl (hm_rd hO v15 _ _) ?_
      show ha_RT ext 164 153 _ _ _ _ _
      refine ha_RT_sN [155, 156, 157, 159, 160, 162, 163, 164] (pc' := 164) (L' := (hm_Lm d i e j n (some (.int c)) (some (.int k)))) (st' := [.ref 47, .int (Int32.ofInt 100 * e + j + k), .ref 58]) rfl rfl ?_
      refine ha_RT_mem rfl rfl (hm_rd hO v15 _ _) ?_
      show ha_RT ext 164 167 _ _ _ _ _
      refine ha_RT_sN [169, 170, 171, 172, 173, 175, 176] (pc' := 176) (L' := (hm_Lm d i e j n (some (.int c)) (some (.int k)))) (st' := [.int (Int32.ofInt 100 * d + i + k), .ref 58, .int (Int32.ofInt 100 * e + j + k), .ref 58]) rfl rfl ?_
      obtain ⟨p1, p2, p3⟩ := hs_ix hd hi k0 (by omega)
      obtain ⟨q1, q2, q3⟩ := hs_ix he hj k0 (by omega)
      refine ha_RT_mem rfl rfl (hm_ial mE p1 p2 _ _ _) ?_
      show ha_RT ext 164 177 _ _ _ _ _
      refine ha_RT_mem rfl rfl (hm_ias mE q1 q2 _ _ _ _) ?_
      show ha_RT ext 164 178 _ _ _ _ _
      have hi1 : (c + Int32.ofInt 1).toInt = c.toInt + 1 := hm_p1 c0 (by omega)
      refine ha_RT_sN [181, 122] (pc' := 122) (L' := (hm_Lm d i e j n (some (.int (c + Int32.ofInt 1))) (some (.int k)))) (st' := []) rfl rfl ?_
      rw [p3, q3]
      have rdE : Ec (100 * d.toNatClampNeg + i.toNatClampNeg + k.toNatClampNeg) = E (100 * d.toNatClampNeg + i.toNatClampNeg + k.toNatClampNeg) := by
        refine z2 _ (fun k' hk' hw => ?_)
        unfold hs_wr at hw
        simp only [tn] at hk' hw ⊢
        omega
      refine ih (c + Int32.ofInt 1) _ _ (upd Ec (100 * e.toNatClampNeg + j.toNatClampNeg + k.toNatClampNeg) (Ec (100 * d.toNatClampNeg + i.toNatClampNeg + k.toNatClampNeg))) (by omega) (by omega) (by omega) (hs_sg (by decide) hO) (hs_gs mE) (fun E' => by rw [List.set_set]; exact hset E') (fun k' hk' hw => ?_) (fun p hp => ?_)
      · by_cases q : k' = k.toNatClampNeg
        · subst q
          exact hs_us.trans rdE
        · rw [hs_un (by omega)]
          refine z1 k' hk' ?_
          unfold hs_wr at hw ⊢
          simp only [tn] at hk' hw q ⊢
          omega
      · rw [hs_un (hp k.toNatClampNeg (by simp only [tn]; omega) (by unfold hs_wr; simp only [tn]; omega))]
        refine z2 p (fun k' hk' hw => hp k' hk' ?_)
        unfold hs_wr at hw ⊢
        simp only [tn] at hk' hw ⊢
        omega
    refine ha_RT_sN [130, 132] (pc' := 132) (L' := (hm_Lm d i e j n (some (.int c)) x)) (st' := [.int j, .int i]) rfl rfl ?_
    refine ha_RT_ic rfl (fun h3 => ?_) (fun h3 => ?_)
    · show ha_RT ext 164 140 _ _ _ _ _
      simp only [hz_cmp, decide_eq_true_eq, Int32.le_iff_toInt_le] at h3
      refine ha_RT_sN [142, 143, 144, 146, 147] (pc' := 147) (L' := (hm_Lm d i e j n (some (.int c)) x)) (st' := [.int (n - Int32.ofInt 1 - c)]) rfl rfl ?_
      have e1 : (n - Int32.ofInt 1).toInt = n.toInt - 1 := by
        rw [Int32.toInt_sub, show (Int32.ofInt 1).toInt = 1 from rfl]
        exact ha_bm (by unfold ha_lo; omega) (by unfold ha_hi; omega)
      have e2 : (n - Int32.ofInt 1 - c).toInt = n.toInt - 1 - c.toInt := by
        rw [Int32.toInt_sub, e1]
        exact ha_bm (by unfold ha_lo; omega) (by unfold ha_hi; omega)
      exact go _ (by omega) (by omega) (Or.inr ⟨h3, e2⟩)
    · show ha_RT ext 164 135 _ _ _ _ _
      simp only [hz_cmp, decide_eq_false_iff_not, Int32.le_iff_toInt_le] at h3
      refine ha_RT_sN [137, 147] (pc' := 147) (L' := (hm_Lm d i e j n (some (.int c)) x)) (st' := [.int c]) rfl rfl ?_
      exact go c c0 (by omega) (Or.inl ⟨by omega, rfl⟩)
set_option maxHeartbeats 4000000 in
set_option maxRecDepth 10000 in
theorem hs_m164 (hn : hm_no ext) {σ : Nat → hs_S} {M : hzMem} (hi : ha_inv hw_W M) (hC : hs_M σ M) (d i e j n : Int32) : ∃ m M', ha_C ext m 164 [.ref 47, .int d, .int i, .int e, .int j, .int n] M 8 0 = some (some (.int (sp_copy σ d i e j n).1), M') ∧ ha_wok hw_W hm_Wd M M' ∧ hs_M (sp_copy σ d i e j n).2 M' := by
  have key : ha_RT ext 164 0 (hm_Lm d i e j n none none) [] M 0 (fun rv M' => rv = some (.int (sp_copy σ d i e j n).1) ∧ ha_wok hw_W hm_Wd M M' ∧ hs_M (sp_copy σ d i e j n).2 M') := by
    obtain ⟨vs, hO, v10, v11, v12, v13, v14, v15⟩ := hs_mod hi
    obtain ⟨K, KK, KF, S, Z, E, m1, m2, m3, m4, m5, m6, ho⟩ := id hC
    have n14 : sp_copy σ d i e j n = (Int32.ofInt (-1), σ) → ha_RT ext 164 14 (hm_Lm d i e j n none none) [] M 0 (fun rv M' => rv = some (.int (sp_copy σ d i e j n).1) ∧ ha_wok hw_W hm_Wd M M' ∧ hs_M (sp_copy σ d i e j n).2 M') := by
      intro q
      refine ha_RT_sN [15] (pc' := 15) (L' := (hm_Lm d i e j n none none)) (st' := [.int (Int32.ofInt (-1))]) rfl rfl ?_
      refine ha_RT_ret (rv := some (.int (Int32.ofInt (-1)))) rfl rfl rfl rfl ?_
      rw [q]
      exact ⟨rfl, ⟨hi, rfl, fun _ _ => rfl⟩, hC⟩
    have n34 : sp_copy σ d i e j n = (Int32.ofInt (-11), σ) → ha_RT ext 164 34 (hm_Lm d i e j n none none) [] M 0 (fun rv M' => rv = some (.int (sp_copy σ d i e j n).1) ∧ ha_wok hw_W hm_Wd M M' ∧ hs_M (sp_copy σ d i e j n).2 M') := by
      intro q
      refine ha_RT_sN [36] (pc' := 36) (L' := (hm_Lm d i e j n none none)) (st' := [.int (Int32.ofInt (-11))]) rfl rfl ?_
      refine ha_RT_ret (rv := some (.int (Int32.ofInt (-11)))) rfl rfl rfl rfl ?_
      rw [q]
      exact ⟨rfl, ⟨hi, rfl, fun _ _ => rfl⟩, hC⟩
    have n72 : sp_copy σ d i e j n = (Int32.ofInt (-12), σ) → ha_RT ext 164 72 (hm_Lm d i e j n none none) [] M 0 (fun rv M' => rv = some (.int (sp_copy σ d i e j n).1) ∧ ha_wok hw_W hm_Wd M M' ∧ hs_M (sp_copy σ d i e j n).2 M') := by
      intro q
      refine ha_RT_sN [74] (pc' := 74) (L' := (hm_Lm d i e j n none none)) (st' := [.int (Int32.ofInt (-12))]) rfl rfl ?_
      refine ha_RT_ret (rv := some (.int (Int32.ofInt (-12)))) rfl rfl rfl rfl ?_
      rw [q]
      exact ⟨rfl, ⟨hi, rfl, fun _ _ => rfl⟩, hC⟩
    have n116 : sp_copy σ d i e j n = (Int32.ofInt (-13), σ) → ha_RT ext 164 116 (hm_Lm d i e j n none none) [] M 0 (fun rv M' => rv = some (.int (sp_copy σ d i e j n).1) ∧ ha_wok hw_W hm_Wd M M' ∧ hs_M (sp_copy σ d i e j n).2 M') := by
      intro q
      refine ha_RT_sN [118] (pc' := 118) (L' := (hm_Lm d i e j n none none)) (st' := [.int (Int32.ofInt (-13))]) rfl rfl ?_
      refine ha_RT_ret (rv := some (.int (Int32.ofInt (-13)))) rfl rfl rfl rfl ?_
      rw [q]
      exact ⟨rfl, ⟨hi, rfl, fun _ _ => rfl⟩, hC⟩
    refine ha_RT_sN [1] (pc' := 1) (L' := (hm_Lm d i e j n none none)) (st' := [.int d]) rfl rfl ?_
    obtain ⟨c1, hc1⟩ := hm_ex157 hn d M
    refine ha_RT_call (virt := false) (a := 0) (x := 157) (y := 1) rfl rfl (by decide) (q := _) rfl ⟨rfl, Nat.le_of_ble_eq_true rfl, Nat.le_of_ble_eq_true rfl, Nat.le_refl 0, Nat.le_of_ble_eq_true rfl⟩ hc1 ?_
    show ha_RT ext 164 4 _ [.int (hm_bi (decide (0 ≤ d.toInt ∧ d.toInt ≤ 7)))] _ _ _
    refine ha_RT_if rfl (fun h1 => n14 (if_pos (Or.inl (by rw [hm_bie, Bool.not_eq_true', decide_eq_false_iff_not] at h1; exact h1)))) (fun h1 => ?_)
    show ha_RT ext 164 7 _ _ _ _ _
    rw [hm_bie, Bool.not_eq_false', decide_eq_true_eq] at h1
    refine ha_RT_sN [8] (pc' := 8) (L' := (hm_Lm d i e j n none none)) (st' := [.int e]) rfl rfl ?_
    obtain ⟨c2, hc2⟩ := hm_ex157 hn e M
    refine ha_RT_call (virt := false) (a := 0) (x := 157) (y := 1) rfl rfl (by decide) (q := _) rfl ⟨rfl, Nat.le_of_ble_eq_true rfl, Nat.le_of_ble_eq_true rfl, Nat.le_refl 0, Nat.le_of_ble_eq_true rfl⟩ hc2 ?_
    show ha_RT ext 164 11 _ [.int (hm_bi (decide (0 ≤ e.toInt ∧ e.toInt ≤ 7)))] _ _ _
    refine ha_RT_if rfl (fun h2 => ?_) (fun h2 => n14 (if_pos (Or.inr (by rw [hm_bin, decide_eq_false_iff_not] at h2; exact h2))))
    show ha_RT ext 164 16 _ _ _ _ _
    rw [hm_bin, decide_eq_true_eq] at h2
    have g1 : ¬ (¬ (0 ≤ d.toInt ∧ d.toInt ≤ 7) ∨ ¬ (0 ≤ e.toInt ∧ e.toInt ≤ 7)) := fun q => q.elim (fun q => q h1) (fun q => q h2)
    have kd : d.toNatClampNeg < 8 := by show d.toInt.toNat < 8; omega
    have ke : e.toNatClampNeg < 8 := by show e.toInt.toNat < 8; omega
    have xd : d.toInt < ((8 : Nat) : Int) := by show d.toInt < 8; omega
    have xe : e.toInt < ((8 : Nat) : Int) := by show e.toInt < 8; omega
    obtain ⟨s1, s2, s3⟩ := ho d.toNatClampNeg kd
    obtain ⟨t1, t2, t3⟩ := ho e.toNatClampNeg ke
    refine ha_RT_sN [17] (pc' := 17) (L' := (hm_Lm d i e j n none none)) (st' := [.ref 47]) rfl rfl ?_
    refine ha_RT_mem rfl rfl (hm_rd hO v10 _ _) ?_
    show ha_RT ext 164 20 _ _ _ _ _
    refine ha_RT_sN [21] (pc' := 21) (L' := (hm_Lm d i e j n none none)) (st' := [.int d, .ref 53]) rfl rfl ?_
    refine ha_RT_mem rfl rfl (hm_ial m1 h1.1 xd _ _ _) ?_
    show ha_RT ext 164 22 _ _ _ _ _
    refine ha_RT_if rfl (fun h3 => n34 ((if_neg g1).trans (if_pos (Or.inl (s1.symm.trans (of_decide_eq_true h3)))))) (fun h3 => ?_)
    show ha_RT ext 164 25 _ _ _ _ _
    simp only [hz_cmp, decide_eq_false_iff_not, s1] at h3
    refine ha_RT_sN [26] (pc' := 26) (L' := (hm_Lm d i e j n none none)) (st' := [.ref 47]) rfl rfl ?_
    refine ha_RT_mem rfl rfl (hm_rd hO v10 _ _) ?_
    show ha_RT ext 164 29 _ _ _ _ _
    refine ha_RT_sN [30] (pc' := 30) (L' := (hm_Lm d i e j n none none)) (st' := [.int e, .ref 53]) rfl rfl ?_
    refine ha_RT_mem rfl rfl (hm_ial m1 h2.1 xe _ _ _) ?_
    show ha_RT ext 164 31 _ _ _ _ _
    refine ha_RT_if rfl (fun h5 => ?_) (fun h5 => n34 ((if_neg g1).trans (if_pos (Or.inr (by simp only [hz_cmp, Bool.not_eq_false', decide_eq_true_eq] at h5; exact t1.symm.trans h5)))))
    show ha_RT ext 164 37 _ _ _ _ _
    simp only [hz_cmp, Bool.not_eq_true', decide_eq_false_iff_not, t1] at h5
    have g2 : ¬ ((σ d.toNatClampNeg).1 = 0 ∨ (σ e.toNatClampNeg).1 = 0) := fun q => q.elim h3 h5
    refine ha_RT_sN [38] (pc' := 38) (L' := (hm_Lm d i e j n none none)) (st' := [.ref 47]) rfl rfl ?_
    refine ha_RT_mem rfl rfl (hm_rd hO v10 _ _) ?_
    show ha_RT ext 164 41 _ _ _ _ _
    refine ha_RT_sN [42] (pc' := 42) (L' := (hm_Lm d i e j n none none)) (st' := [.int d, .ref 53]) rfl rfl ?_
    refine ha_RT_mem rfl rfl (hm_ial m1 h1.1 xd _ _ _) ?_
    show ha_RT ext 164 43 _ _ _ _ _
    refine ha_RT_sN [44] (pc' := 44) (L' := (hm_Lm d i e j n none none)) (st' := [.int (Int32.ofInt 2), .int (K d.toNatClampNeg)]) rfl rfl ?_
    refine ha_RT_ic rfl (fun h6 => n72 ((if_neg g1).trans ((if_neg g2).trans (if_pos (Or.inl (by simp only [hz_cmp, Bool.not_eq_true', decide_eq_false_iff_not] at h6; exact fun q => h6 (s1.trans q))))))) (fun h6 => ?_)
    show ha_RT ext 164 47 _ _ _ _ _
    simp only [hz_cmp, Bool.not_eq_false', decide_eq_true_eq] at h6
    refine ha_RT_sN [48] (pc' := 48) (L' := (hm_Lm d i e j n none none)) (st' := [.ref 47]) rfl rfl ?_
    refine ha_RT_mem rfl rfl (hm_rd hO v10 _ _) ?_
    show ha_RT ext 164 51 _ _ _ _ _
    refine ha_RT_sN [52] (pc' := 52) (L' := (hm_Lm d i e j n none none)) (st' := [.int e, .ref 53]) rfl rfl ?_
    refine ha_RT_mem rfl rfl (hm_ial m1 h2.1 xe _ _ _) ?_
    show ha_RT ext 164 53 _ _ _ _ _
    refine ha_RT_sN [54] (pc' := 54) (L' := (hm_Lm d i e j n none none)) (st' := [.int (Int32.ofInt 2), .int (K e.toNatClampNeg)]) rfl rfl ?_
    refine ha_RT_ic rfl (fun h7 => n72 ((if_neg g1).trans ((if_neg g2).trans (if_pos (Or.inr (Or.inl (by simp only [hz_cmp, Bool.not_eq_true', decide_eq_false_iff_not] at h7; exact fun q => h7 (t1.trans q)))))))) (fun h7 => ?_)
    show ha_RT ext 164 57 _ _ _ _ _
    simp only [hz_cmp, Bool.not_eq_false', decide_eq_true_eq] at h7
    have w1 : (σ d.toNatClampNeg).1 = 2 := s1.symm.trans h6
    have w2 : (σ e.toNatClampNeg).1 = 2 := t1.symm.trans h7
    obtain ⟨sS, sZ, sE⟩ := s3 w1
    obtain ⟨tS, tZ, tE⟩ := t3 w2
    obtain ⟨fz, mz, bz⟩ := hm_ints hi (k := 57) (n := 8) (q := (0, 100)) rfl
    have bzd : 0 ≤ (Z d.toNatClampNeg).toInt ∧ (Z d.toNatClampNeg).toInt ≤ 100 := by
      cases mz.symm.trans m5
      exact bz d.toNatClampNeg kd
    have bze : 0 ≤ (Z e.toNatClampNeg).toInt ∧ (Z e.toNatClampNeg).toInt ≤ 100 := by
      cases mz.symm.trans m5
      exact bz e.toNatClampNeg ke
    refine ha_RT_sN [58] (pc' := 58) (L' := (hm_Lm d i e j n none none)) (st' := [.ref 47]) rfl rfl ?_
    refine ha_RT_mem rfl rfl (hm_rd hO v13 _ _) ?_
    show ha_RT ext 164 61 _ _ _ _ _
    refine ha_RT_sN [62] (pc' := 62) (L' := (hm_Lm d i e j n none none)) (st' := [.int d, .ref 56]) rfl rfl ?_
    refine ha_RT_mem rfl rfl (hm_ial m4 h1.1 xd _ _ _) ?_
    show ha_RT ext 164 63 _ _ _ _ _
    refine ha_RT_sN [64] (pc' := 64) (L' := (hm_Lm d i e j n none none)) (st' := [.ref 47, .int (S d.toNatClampNeg)]) rfl rfl ?_
    refine ha_RT_mem rfl rfl (hm_rd hO v13 _ _) ?_
    show ha_RT ext 164 67 _ _ _ _ _
    refine ha_RT_sN [68] (pc' := 68) (L' := (hm_Lm d i e j n none none)) (st' := [.int e, .ref 56, .int (S d.toNatClampNeg)]) rfl rfl ?_
    refine ha_RT_mem rfl rfl (hm_ial m4 h2.1 xe _ _ _) ?_
    show ha_RT ext 164 69 _ _ _ _ _
    refine ha_RT_ic rfl (fun h8 => ?_) (fun h8 => n72 ((if_neg g1).trans ((if_neg g2).trans (if_pos (Or.inr (Or.inr (by simp only [hz_cmp, decide_eq_false_iff_not] at h8; exact fun q => h8 (sS.trans (q.trans tS.symm)))))))))
    show ha_RT ext 164 75 _ _ _ _ _
    simp only [hz_cmp, decide_eq_true_eq] at h8
    have g3 : ¬ ((σ d.toNatClampNeg).1 ≠ 2 ∨ (σ e.toNatClampNeg).1 ≠ 2 ∨ (σ d.toNatClampNeg).2.1 ≠ (σ e.toNatClampNeg).2.1) := fun q => q.elim (fun q => q w1) (fun q => q.elim (fun q => q w2) (fun q => q (sS.symm.trans (h8.trans tS))))
    have bad : ¬ (0 ≤ n.toInt ∧ 0 ≤ i.toInt ∧ i.toInt + n.toInt ≤ (Z d.toNatClampNeg).toInt ∧ 0 ≤ j.toInt ∧ j.toInt + n.toInt ≤ (Z e.toNatClampNeg).toInt) → ha_RT ext 164 116 (hm_Lm d i e j n none none) [] M 0 (fun rv M' => rv = some (.int (sp_copy σ d i e j n).1) ∧ ha_wok hw_W hm_Wd M M' ∧ hs_M (sp_copy σ d i e j n).2 M') := fun q => n116 ((if_neg g1).trans ((if_neg g2).trans ((if_neg g3).trans (if_pos (by rw [← sZ, ← tZ]; omega)))))
    refine ha_RT_sN [77] (pc' := 77) (L' := (hm_Lm d i e j n none none)) (st' := [.int n]) rfl rfl ?_
    refine ha_RT_if rfl (fun q => bad (by simp only [hz_cmp, decide_eq_true_eq, Int32.lt_iff_toInt_lt, show (0 : Int32).toInt = 0 from rfl] at q; omega)) (fun a1 => ?_)
    show ha_RT ext 164 80 _ _ _ _ _
    refine ha_RT_sN [81] (pc' := 81) (L' := (hm_Lm d i e j n none none)) (st' := [.int i]) rfl rfl ?_
    refine ha_RT_if rfl (fun q => bad (by simp only [hz_cmp, decide_eq_true_eq, Int32.lt_iff_toInt_lt, show (0 : Int32).toInt = 0 from rfl] at q; omega)) (fun a2 => ?_)
    show ha_RT ext 164 84 _ _ _ _ _
    refine ha_RT_sN [86] (pc' := 86) (L' := (hm_Lm d i e j n none none)) (st' := [.int j]) rfl rfl ?_
    refine ha_RT_if rfl (fun q => bad (by simp only [hz_cmp, decide_eq_true_eq, Int32.lt_iff_toInt_lt, show (0 : Int32).toInt = 0 from rfl] at q; omega)) (fun a3 => ?_)
    show ha_RT ext 164 89 _ _ _ _ _
    simp only [hz_cmp, decide_eq_false_iff_not, Int32.lt_iff_toInt_lt, show (0 : Int32).toInt = 0 from rfl] at a1 a2 a3
    have ri := ha_rng i
    have rj := ha_rng j
    unfold ha_lo ha_hi at ri rj
    have q1 : (Z d.toNatClampNeg - i).toInt = (Z d.toNatClampNeg).toInt - i.toInt := by
      rw [Int32.toInt_sub]
      exact ha_bm (by unfold ha_lo; omega) (by unfold ha_hi; omega)
    have q2 : (Z e.toNatClampNeg - j).toInt = (Z e.toNatClampNeg).toInt - j.toInt := by
      rw [Int32.toInt_sub]
      exact ha_bm (by unfold ha_lo; omega) (by unfold ha_hi; omega)
    refine ha_RT_sN [91, 92] (pc' := 92) (L' := (hm_Lm d i e j n none none)) (st' := [.ref 47, .int n]) rfl rfl ?_
    refine ha_RT_mem rfl rfl (hm_rd hO v14 _ _) ?_
    show ha_RT ext 164 95 _ _ _ _ _
    refine ha_RT_sN [96] (pc' := 96) (L' := (hm_Lm d i e j n none none)) (st' := [.int d, .ref 57, .int n]) rfl rfl ?_
    refine ha_RT_mem rfl rfl (hm_ial m5 h1.1 xd _ _ _) ?_
    show ha_RT ext 164 97 _ _ _ _ _
    refine ha_RT_sN [98, 99] (pc' := 99) (L' := (hm_Lm d i e j n none none)) (st' := [.int (Z d.toNatClampNeg - i), .int n]) rfl rfl ?_
    refine ha_RT_ic rfl (fun q => bad (by simp only [hz_cmp, decide_eq_true_eq, Int32.lt_iff_toInt_lt, q1] at q; omega)) (fun a4 => ?_)
    show ha_RT ext 164 102 _ _ _ _ _
    simp only [hz_cmp, decide_eq_false_iff_not, Int32.lt_iff_toInt_lt, q1] at a4
    refine ha_RT_sN [104, 105] (pc' := 105) (L' := (hm_Lm d i e j n none none)) (st' := [.ref 47, .int n]) rfl rfl ?_
    refine ha_RT_mem rfl rfl (hm_rd hO v14 _ _) ?_
    show ha_RT ext 164 108 _ _ _ _ _
    refine ha_RT_sN [109] (pc' := 109) (L' := (hm_Lm d i e j n none none)) (st' := [.int e, .ref 57, .int n]) rfl rfl ?_
    refine ha_RT_mem rfl rfl (hm_ial m5 h2.1 xe _ _ _) ?_
    show ha_RT ext 164 110 _ _ _ _ _
    refine ha_RT_sN [112, 113] (pc' := 113) (L' := (hm_Lm d i e j n none none)) (st' := [.int (Z e.toNatClampNeg - j), .int n]) rfl rfl ?_
    refine ha_RT_ic rfl (fun a5 => ?_) (fun q => bad (by simp only [hz_cmp, decide_eq_false_iff_not, Int32.le_iff_toInt_le, q2] at q; omega))
    show ha_RT ext 164 119 _ _ _ _ _
    simp only [hz_cmp, decide_eq_true_eq, Int32.le_iff_toInt_le, q2] at a5
    have q : sp_copy σ d i e j n = _ := (if_neg g1).trans ((if_neg g2).trans ((if_neg g3).trans (if_neg (by rw [← sZ, ← tZ]; omega))))
    refine ha_RT_sN [120, 122] (pc' := 122) (L' := (hm_Lm d i e j n (some (.int (Int32.ofInt 0))) none)) (st' := []) rfl rfl ?_
    obtain ⟨nn, rv, M4, hr, rfl, E2, z1, z2, rfl⟩ := hs_cl (ext := ext) (d := d) (i := i) (e := e) (j := j) (n := n) (E := E) (M := M) h1 h2 (by omega) (by omega) (by omega) (by omega) (by omega) v15 (n.toInt.toNat + 1) (Int32.ofInt 0) none M E (by show n.toInt - 0 < _; omega) (by decide) (by show (0 : Int) ≤ n.toInt; omega) hO m6 (fun _ => rfl) (fun k hk hw => by
      exfalso
      have tn : ∀ z : Int32, z.toNatClampNeg = z.toInt.toNat := fun _ => rfl
      unfold hs_wr at hw
      simp only [tn, show (Int32.ofInt 0).toInt = 0 from rfl] at hk hw
      omega) (fun p _ => rfl)
    have w4 := ha_wok_set (Wr := hm_Wd) (⟨hi, rfl, fun _ _ => rfl⟩ : ha_wok hw_W hm_Wd M M) m6 (e := .inl (0, 800, .inl E2)) (by decide) (fun sh hsh => by cases hsh; exact ⟨rfl, rfl, fun _ _ => ha_rng _⟩)
    refine ⟨nn, _, _, hr, ?_⟩
    rw [q]
    have tn : ∀ z : Int32, z.toNatClampNeg = z.toInt.toNat := fun _ => rfl
    refine ⟨rfl, w4, hs_M_set ho (hs_sg (by decide) m1) (hs_sg (by decide) m2) (hs_sg (by decide) m3) (hs_sg (by decide) m4) (hs_sg (by decide) m5) (hs_gs m6) (fun x hx hq => ⟨rfl, rfl, rfl, rfl, rfl, fun y hy => z2 _ (fun k hk => by simp only [tn] at hk hq ⊢; omega)⟩) ⟨h7, fun q => absurd (show (2 : Int32) = 1 from q) (by decide), fun _ => ⟨tS, tZ, fun y hy => ?_⟩⟩⟩
    show E2 (100 * e.toNatClampNeg + y) = va_cpy (σ d.toNatClampNeg).2.2.2 (σ e.toNatClampNeg).2.2.2 i.toNatClampNeg j.toNatClampNeg n.toNatClampNeg y
    unfold va_cpy
    split
    · rename_i hx
      have e1 := z1 (y - j.toNatClampNeg) (by omega)
      rw [show 100 * e.toNatClampNeg + j.toNatClampNeg + (y - j.toNatClampNeg) = 100 * e.toNatClampNeg + y by omega] at e1
      rw [e1, show 100 * d.toNatClampNeg + i.toNatClampNeg + (y - j.toNatClampNeg) = 100 * d.toNatClampNeg + (i.toNatClampNeg + (y - j.toNatClampNeg)) by omega]
      exact sE _ (by simp only [tn] at hx ⊢; omega)
    · rename_i hx
      rw [z2 _ (fun k hk => by omega)]
      exact tE y hy
  obtain ⟨n, rv, M', h1, rfl, h2⟩ := key
  exact ⟨n, M', hm_toC hn (q := hzq_164) rfl (by decide) h1, h2⟩
end HS
