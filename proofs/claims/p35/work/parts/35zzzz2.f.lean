section HR
variable {S T U : hp_S} {b k p n e : Nat}
theorem hy_L2 (c : Int32) : hy_L c = 0 ∨ 2 ≤ hy_L c := by
  unfold hy_L
  repeat' split
  all_goals omega
theorem hy_dgs {T : hp_S} {n : Nat} : ∀ (L q : Nat), hy_sc T n L q = none → ∀ j : Nat, j < L → hy_d T n (q + j) := by
  intro L
  induction L with
  | zero => intro q _ j hj; omega
  | succ L ih =>
    intro q h j hj
    unfold hy_sc at h
    split at h
    · rename_i w
      cases j with
      | zero => exact w
      | succ j =>
        have := ih _ h j (by omega)
        rw [show q + (j + 1) = q + 1 + j by omega]
        exact this
    · cases h
theorem hy_213 {S : hp_S} {e n q : Nat} (h4 : (S (29 + 2 * e) 4).toInt = n) {v : Int32} (hv : v.toInt = q) (hq : q < n) : hq_213 S e v = S (30 + 2 * e) q - Int32.ofInt 48 := by
  unfold hq_213 hq_173
  rw [if_neg (show ¬ (hz_cmp .lt v 0 = true) by rw [hr_lt, hr_0]; omega), if_neg (show ¬ (hz_cmp .ge v (S (29 + 2 * e) 4) = true) by rw [hr_ge]; omega), if_neg (by decide), hr_nat hv]
/-- a digit, on both sides -/
theorem hy_dgv (ht : hy_tx S T e n) {q : Nat} (hd : hy_d T n q) : hy_x T q = S (30 + 2 * e) q ∧ (0 ≤ (S (30 + 2 * e) q - Int32.ofInt 48).toInt ∧ (S (30 + 2 * e) q - Int32.ofInt 48).toInt ≤ 9) := by
  obtain ⟨b1, b2⟩ := ht.2.2 q hd.1
  obtain ⟨_, _, _, _, _, _, _, bd, be⟩ := hy_byte b1
  have w := bd.mp (by rw [← b2]; exact hd.2)
  have e48 : (Int32.ofInt 48).toInt = 48 := by decide
  refine ⟨b2.trans (be w), ?_⟩
  rw [hp_sub (by omega) (by omega)]
  omega
theorem hy_pair (x1 x2 : Int32) : Int32.ofInt 10 * (x1 - Int32.ofInt 48) + x2 - Int32.ofInt 48 = Int32.ofInt 10 * (x1 - Int32.ofInt 48) + (x2 - Int32.ofInt 48) := by
  rw [Int32.sub_eq_add_neg, Int32.sub_eq_add_neg, Int32.sub_eq_add_neg, Int32.add_assoc]
theorem hy_pair0 {x y : Int32} (hx : 0 ≤ x.toInt ∧ x.toInt ≤ 9) (hy : 0 ≤ y.toInt ∧ y.toInt ≤ 9) : 0 ≤ (Int32.ofInt 10 * x + y).toInt := by
  have e10 : (Int32.ofInt 10).toInt = 10 := by decide
  have em : (Int32.ofInt 10 * x).toInt = 10 * x.toInt := by
    rw [Int32.toInt_mul, e10]
    exact Int.bmod_eq_of_le (by omega) (by omega)
  rw [hp_add (by omega) (by omega), em]
  omega
/-- a statement done on both sides; U: the reference behind its reading -/
theorem hy_done (ht : hy_tx S T e n) (hp : p < n) (hL : hy_L (hy_x T p) ≠ 0) (hs : hy_sc T n (hy_L (hy_x T p)) (p + 1) = none) (hN : hy_N T p (U 52)) (hE : hr_E S b (U 48)) (ho : hr_ok (U 48)) (hz : U 48 5 = 0) {v : Int32} (hv : v.toInt = p) : hr_R b U (hq_212 S e b v) (hq_105 U (hy_x T p)) := by
  have h100 := ht.2.1
  have h4 := ht.1
  obtain ⟨b1, b2⟩ := ht.2.2 p hp
  obtain ⟨l1, l2, l3, l4, l5, l6, _⟩ := hy_byte b1
  have hsn := hy_scn _ _ hs
  have ds := hy_dgs _ _ hs
  have v1 : (v + Int32.ofInt 1).toInt = ((p + 1 : Nat) : Int) := hr_up hv (by omega)
  have e2 : (Int32.ofInt 2).toInt = 2 := by decide
  have e3 : (Int32.ofInt 3).toInt = 3 := by decide
  have v2 : (v + Int32.ofInt 2).toInt = ((p + 2 : Nat) : Int) := by rw [hp_add (by omega) (by omega), e2]; omega
  have v3 : (v + Int32.ofInt 3).toInt = ((p + 3 : Nat) : Int) := by rw [hp_add (by omega) (by omega), e3]; omega
  have L2 : 2 ≤ hy_L (hy_x T p) := (hy_L2 _).resolve_left hL
  have g1 := hy_dgv ht (show hy_d T n (p + 1) from ds 0 (by omega))
  have g2 := hy_dgv ht (show hy_d T n (p + 2) from ds 1 (by omega))
  have c1 : hq_213 S e (v + Int32.ofInt 1) = S (30 + 2 * e) (p + 1) - Int32.ofInt 48 := hy_213 h4 v1 (by omega)
  have c2 : hq_213 S e (v + Int32.ofInt 2) = S (30 + 2 * e) (p + 2) - Int32.ofInt 48 := hy_213 h4 v2 (by omega)
  obtain ⟨n1, n2, n3, n4⟩ := hN
  unfold hq_212 hq_105
  rw [hr_nat hv, hr_n0', hr_n1', hr_n2', c1, c2]
  rw [b2] at hL hs hsn ds L2 n1 n2 n3 n4 ⊢
  have three : S (30 + 2 * e) p = Int32.ofInt 104 ∨ S (30 + 2 * e) p = Int32.ofInt 112 ∨ S (30 + 2 * e) p = Int32.ofInt 119 → (hy_x T (p + 3) = S (30 + 2 * e) (p + 3) ∧ (0 ≤ (S (30 + 2 * e) (p + 3) - Int32.ofInt 48).toInt ∧ (S (30 + 2 * e) (p + 3) - Int32.ofInt 48).toInt ≤ 9)) ∧ hq_213 S e (v + Int32.ofInt 3) = S (30 + 2 * e) (p + 3) - Int32.ofInt 48 := by
    intro w
    have e3 : hy_L (S (30 + 2 * e) p &&& Int32.ofInt 255) = 3 := by
      rcases w with w | w | w <;> rw [w] <;> decide
    rw [e3] at ds hsn
    exact ⟨hy_dgv ht (show hy_d T n (p + 3) from ds 2 (by omega)), hy_213 h4 v3 (by omega)⟩
  by_cases w1 : S (30 + 2 * e) p = Int32.ofInt 104
  · obtain ⟨g3, c3⟩ := three (Or.inl w1)
    obtain ⟨m0, m1, m2⟩ := n1 (l1.mpr w1)
    rw [if_pos w1, if_pos (l1.mpr w1), m0, m1, m2, g1.1, g2.1, g3.1, c3]
    exact hy_dh hE ho _ _ _ g1.2.1 g2.2
  rw [if_neg w1, if_neg (fun z => w1 (l1.mp z))]
  by_cases w2 : S (30 + 2 * e) p = Int32.ofInt 105
  · obtain ⟨m0, m1⟩ := n2 (l2.mpr w2)
    rw [if_pos w2, if_pos (l2.mpr w2), m0, m1, g1.1, g2.1]
    exact hy_di hE ho _ _ g2.2
  rw [if_neg w2, if_neg (fun z => w2 (l2.mp z))]
  by_cases w3 : S (30 + 2 * e) p = Int32.ofInt 108
  · have m0 := n3 (Or.inl (l3.mpr w3))
    rw [if_pos w3, if_pos (l3.mpr w3), m0, g1.1, g2.1, hy_pair]
    exact hy_dl hE ho _
  rw [if_neg w3, if_neg (fun z => w3 (l3.mp z))]
  by_cases w4 : S (30 + 2 * e) p = Int32.ofInt 112
  · obtain ⟨g3, c3⟩ := three (Or.inr (Or.inl w4))
    obtain ⟨m0, m1⟩ := n4 (Or.inl (l4.mpr w4))
    rw [if_pos w4, if_pos (l4.mpr w4), m0, m1, g1.1, g2.1, g3.1, hy_pair, c3]
    exact hy_dp hE ho hz _ _
  rw [if_neg w4, if_neg (fun z => w4 (l4.mp z))]
  by_cases w6 : S (30 + 2 * e) p = Int32.ofInt 119
  · obtain ⟨g3, c3⟩ := three (Or.inr (Or.inr w6))
    obtain ⟨m0, m1⟩ := n4 (Or.inr (l6.mpr w6))
    rw [if_neg (show ¬ (S (30 + 2 * e) p = Int32.ofInt 116) by rw [w6]; decide), if_pos w6, if_pos (l6.mpr w6), m0, m1, g1.1, g2.1, g3.1, hy_pair, c3]
    exact hy_dw hE ho _ _ (hy_pair0 g1.2 g2.2) g3.2
  rw [if_neg (show ¬ (S (30 + 2 * e) p &&& Int32.ofInt 255 = Int32.ofInt 119) from fun z => w6 (l6.mp z))]
  by_cases w5 : S (30 + 2 * e) p = Int32.ofInt 116
  · have m0 := n3 (Or.inr (l5.mpr w5))
    rw [if_pos w5, m0, g1.1, g2.1, hy_pair]
    exact hy_dt hE ho _
  · exfalso
    apply hL
    unfold hy_L
    rw [if_neg (fun z => w1 (l1.mp z)), if_neg (fun z => w2 (l2.mp z)), if_neg (fun z => w3 (l3.mp z)), if_neg (fun z => w4 (l4.mp z)), if_neg (fun z => w5 (l5.mp z)), if_neg (fun z => w6 (l6.mp z))]
end HR

section HR
variable {S T U : hp_S} {b k p n e : Nat}
theorem hy_txx {S' T' : hp_S} (ht : hy_tx S T e n) (h1 : S' (29 + 2 * e) = S (29 + 2 * e)) (h2 : S' (30 + 2 * e) = S (30 + 2 * e)) (h3 : ∀ j : Nat, hy_x T' j = hy_x T j) : hy_tx S' T' e n := ⟨by rw [h1]; exact ht.1, ht.2.1, fun j hj => by rw [h2, h3]; exact ht.2.2 j hj⟩
theorem hy_ne0 {v : Int32} (h : v ≠ Int32.ofInt 0) : hz_cmp .ne v 0 = true := by
  rw [hr_ne]
  exact fun z => h (z.trans (by decide))
theorem hy_f2k {q : Nat} (hq : q ≤ 100) (c : Int32) (hc : c.toInt = -2000 ∨ c.toInt = -1000) : c - Int32.ofInt (q : Nat) ≠ Int32.ofInt 0 := by
  intro z
  have e := hr_small q (by omega)
  have e2 : (c - Int32.ofInt (q : Nat)).toInt = c.toInt - q := by rw [hp_sub (by omega) (by omega), e]
  rw [z, hr_o0] at e2
  omega
theorem hy_93x (i1 : Int32) (m : Nat) (X : hp_S) (v2 v3 c : Int32) (h : hz_cmp .ne c 0 = true) : hq_106_93 i1 (m + 1) X v2 v3 c = (X, c) := by rw [hq_106_93, if_pos h]
theorem hy_2k : (Int32.ofInt (-2000)).toInt = -2000 := by decide
/-- the statements done -/
theorem hy_ph2 (i1 v2 v3 : Int32) (he : e < 8) : ∀ (m2 : Nat) (S T : hp_S) (p m1 m : Nat), hy_tx S T e n → hy_r T n → (T 47 5).toInt = p → p ≤ n → hy_wf T n m p → hr_E S 10 (T 48) → hr_ok (T 48) → T 48 5 = 0 → n - p < m2 → n - p < m1 →
    ((hq_211_2 e 10 m1 S (Int32.ofInt (p : Nat))).1 = Int32.ofInt (-1) ∧ (hq_106_93 i1 m2 T v2 v3 (Int32.ofInt 0)).2 = Int32.ofInt 0 ∧ hr_E (hq_211_2 e 10 m1 S (Int32.ofInt (p : Nat))).2 10 ((hq_106_93 i1 m2 T v2 v3 (Int32.ofInt 0)).1 48) ∧ hr_ok ((hq_106_93 i1 m2 T v2 v3 (Int32.ofInt 0)).1 48) ∧ (hq_106_93 i1 m2 T v2 v3 (Int32.ofInt 0)).1 48 5 = 0) ∨
    (∃ q : Nat, q ≤ n ∧ (hq_211_2 e 10 m1 S (Int32.ofInt (p : Nat))).1 = Int32.ofInt (q : Nat) ∧ (hq_106_93 i1 m2 T v2 v3 (Int32.ofInt 0)).2 = Int32.ofInt (-2000) - Int32.ofInt (q : Nat) ∧ ∀ j : Nat, j < 80 → (hq_106_93 i1 m2 T v2 v3 (Int32.ofInt 0)).1 48 j = T 51 j) := by
  intro m2
  induction m2 with
  | zero => intros; omega
  | succ m2 ih =>
    intro S T p m1 m ht hr h5 hp hwf hE ho hz hm2 hm1
    have h100 := hr.2.1
    have vp := hr_small p (by omega)
    obtain ⟨m1, rfl⟩ : ∃ x, m1 = x + 1 := ⟨m1 - 1, by omega⟩
    rw [hq_211_2, hq_106_93, if_neg (show ¬ (hz_cmp .ne (Int32.ofInt 0) 0 = true) by decide)]
    have h4 := ht.1
    by_cases q : p = n
    · rw [if_pos (show hz_cmp .ge (Int32.ofInt (p : Nat)) (S (29 + 2 * e) 4) = true by rw [hr_ge]; omega), if_pos (show hz_cmp .ge (T 47 5) (T 47 7) = true by rw [hr_ge, h5, hr.1]; omega)]
      exact Or.inl ⟨rfl, rfl, hE, ho, hz⟩
    · rw [if_neg (show ¬ (hz_cmp .ge (Int32.ofInt (p : Nat)) (S (29 + 2 * e) 4) = true) by rw [hr_ge]; omega), if_neg (show ¬ (hz_cmp .ge (T 47 5) (T 47 7) = true) by rw [hr_ge, h5, hr.1]; omega)]
      cases m with
      | zero => exact absurd hwf q
      | succ m =>
        obtain ⟨w1, w2, w3, w4⟩ := (show _ ∨ _ from hwf).resolve_left q
        obtain ⟨o1, _⟩ := hy_102s hr (hy_self h5) w1 w2
        obtain ⟨_, hv, hN⟩ := o1 w3
        have hsn := hy_scn _ _ w3
        have e100 := hy_100 hr (hy_self h5) (by omega)
        rw [if_neg (by omega)] at e100
        rw [e100]
        have e48 : (hq_102 T).2 48 = T 48 := hv.1 48 (by omega) (by omega)
        have e51 : (hq_102 T).2 51 = T 51 := hv.1 51 (by omega) (by omega)
        have R := hy_done (S := S) (b := 10) ht w1 w2 w3 hN (by rw [e48]; exact hE) (by rw [e48]; exact ho) (by rw [e48]; exact hz) vp
        have f47 := hf_105 (hq_102 T).2 (hy_x T p) 47 (by omega)
        have f58 := hf_105 (hq_102 T).2 (hy_x T p) 58 (by omega)
        have f51 := hf_105 (hq_102 T).2 (hy_x T p) 51 (by omega)
        have g29 : (hq_212 S e 10 (Int32.ofInt (p : Nat))).2 (29 + 2 * e) = S (29 + 2 * e) := by
          rw [hf_212]
          all_goals omega
        have g30 : (hq_212 S e 10 (Int32.ofInt (p : Nat))).2 (30 + 2 * e) = S (30 + 2 * e) := by
          rw [hf_212]
          all_goals omega
        obtain ⟨R1, R2, R3, R4⟩ := R
        rw [R1]
        by_cases d : (hq_105 (hq_102 T).2 (hy_x T p)).1 = Int32.ofInt 0
        · rw [d, if_neg (show ¬ (hz_cmp .ne (Int32.ofInt 0) 0 = true) by decide), if_pos (show hz_cmp .eq (Int32.ofInt 0) 0 = true by decide)]
          obtain ⟨m2, rfl⟩ : ∃ x, m2 = x + 1 := ⟨m2 - 1, by omega⟩
          have h5' : T 47 5 = Int32.ofInt (p : Nat) := hr_of h5
          have hne : hz_cmp .ne (Int32.ofInt (-2000) - Int32.ofInt (p : Nat)) 0 = true := hy_ne0 (hy_f2k (by omega) _ (Or.inl hy_2k))
          have hX : ∀ j : Nat, j < 80 → hq_73 (hq_105 (hq_102 T).2 (hy_x T p)).2 51 48 48 j = T 51 j := fun j hj => by rw [hr_73 (show (51 : Nat) ≠ 48 by omega) _ j hj, f51, e51]
          generalize hq_73 (hq_105 (hq_102 T).2 (hy_x T p)).2 51 48 = X at hX ⊢
          rw [h5', hy_93x _ _ _ _ _ _ hne]
          exact Or.inr ⟨p, hp, rfl, rfl, hX⟩
        · have d1 : hz_cmp .ne (hq_105 (hq_102 T).2 (hy_x T p)).1 0 = true := hy_ne0 d
          have d2 : ¬ (hz_cmp .eq (hq_105 (hq_102 T).2 (hy_x T p)).1 0 = true) := by
            rw [hr_eq]
            exact fun z => d (z.trans (by decide))
          rw [if_pos d1, if_neg d2]
          generalize hS1 : (hq_212 S e 10 (Int32.ofInt (p : Nat))).2 = S1 at *
          generalize hT1 : (hq_105 (hq_102 T).2 (hy_x T p)).2 = T1 at *
          have x47 : T1 47 = (hq_102 T).2 47 := f47
          have x58 : T1 58 = (hq_102 T).2 58 := f58
          have xx : ∀ j : Nat, hy_x T1 j = hy_x T j := fun j => by
            unfold hy_x
            rw [x47, x58, hv.2.1 6 (by omega), hv.1 58 (by omega) (by omega)]
          have ht1 : hy_tx S1 T1 e n := hy_txx ht g29 g30 xx
          have hr1 : hy_r T1 n := by
            unfold hy_r
            rw [x47, hv.2.1 7 (by omega), hv.2.1 6 (by omega)]
            exact hr
          have hL3 := hy_Lb (hy_x T p)
          have ev : Int32.ofInt (p : Nat) + (hq_208 S1 (S1 (30 + 2 * e) (Int32.ofInt (p : Nat)).toNatClampNeg) + Int32.ofInt 2) = Int32.ofInt ((p + 1 + hy_L (hy_x T p) + 1 : Nat) : Int) := by
            rw [hr_nat vp, g30, hy_tL ht w1]
            have eL := hr_small (hy_L (hy_x T p)) (by omega)
            have e2 : (Int32.ofInt 2).toInt = 2 := by decide
            have es : (Int32.ofInt (hy_L (hy_x T p) : Nat) + Int32.ofInt 2).toInt = hy_L (hy_x T p) + 2 := by rw [hp_add (by omega) (by omega), eL, e2]
            apply Int32.toInt_inj.mp
            rw [hp_add (by omega) (by omega), es, vp, hr_small _ (by omega)]
            omega
          have h5' : (T1 47 5).toInt = ((p + 1 + hy_L (hy_x T p) + 1 : Nat) : Int) := by rw [x47]; exact hv.2.2
          have wf1 : hy_wf T1 n m (p + 1 + hy_L (hy_x T p) + 1) := by
            rw [show p + 1 + hy_L (hy_x T p) + 1 = p + hy_L (hy_x T p) + 2 by omega]
            exact hy_wfx xx _ _ w4
          rw [ev]
          have r := ih S1 T1 _ m1 m ht1 hr1 h5' (by omega) wf1 R2 R3 (by rw [R4, e48]; exact hz) (by omega) (by omega)
          have t51 : T1 51 = T 51 := f51.trans e51
          rw [t51] at r
          exact r
end HR

section HR
variable {S T U : hp_S} {b k p n e : Nat}
theorem hy_77x (i1 : Int32) (TA : hp_S) (v2 v3 c : Int32) (h : hz_cmp .ne c 0 = true) : hq_106_77 i1 TA v2 v3 c = (c, hp_w (hq_73 TA 48 51) 47 5 (Int32.ofInt 0)) := by
  unfold hq_106_77
  generalize hp_w (hq_73 TA 48 51) 47 5 (Int32.ofInt 0) = T5
  rw [hy_93x _ _ _ _ _ _ h]
  unfold hq_106_161
  rw [if_pos h]
theorem hy_77y (i1 : Int32) (TA : hp_S) (v2 v3 : Int32) (n : Nat) (h : ((hp_w (hq_73 TA 48 51) 47 5 (Int32.ofInt 0) 47 7).toInt - (hp_w (hq_73 TA 48 51) 47 5 (Int32.ofInt 0) 47 5).toInt).toNat = n) : hq_106_77 i1 TA v2 v3 (Int32.ofInt 0) = (if hz_cmp .ne (hq_106_93 i1 (n + 1) (hp_w (hq_73 TA 48 51) 47 5 (Int32.ofInt 0)) v2 v3 (Int32.ofInt 0)).2 0 = true then ((hq_106_93 i1 (n + 1) (hp_w (hq_73 TA 48 51) 47 5 (Int32.ofInt 0)) v2 v3 (Int32.ofInt 0)).2, (hq_106_93 i1 (n + 1) (hp_w (hq_73 TA 48 51) 47 5 (Int32.ofInt 0)) v2 v3 (Int32.ofInt 0)).1) else (v3, (hq_106_93 i1 (n + 1) (hp_w (hq_73 TA 48 51) 47 5 (Int32.ofInt 0)) v2 v3 (Int32.ofInt 0)).1)) := by
  unfold hq_106_77
  rw [h]
  generalize hp_w (hq_73 TA 48 51) 47 5 (Int32.ofInt 0) = T5
  unfold hq_106_161
  rfl
/-- a row of bytes, as both sides hold it -/
theorem hy_row (hs : hr_sh S T) (hb : ∀ d : Nat, d < 8 → T 53 d = Int32.ofInt 2 → T 56 d = Int32.ofInt 0 → ∀ j : Nat, j < 100 → hy_by (S (30 + 2 * d) j)) {d : Int32} (hd : 0 ≤ d.toInt ∧ d.toInt ≤ 7) (h2 : T 53 d.toNatClampNeg = Int32.ofInt 2) (h0 : T 56 d.toNatClampNeg = Int32.ofInt 0) : ∃ n : Nat, (T 57 d.toNatClampNeg).toInt = n ∧ n ≤ 100 ∧ hy_r (hp_w (hp_w (hp_w T 47 6 ((Int32.ofInt 100) * d)) 47 7 (hp_w T 47 6 ((Int32.ofInt 100) * d) 57 d.toNatClampNeg)) 47 5 (Int32.ofInt 0)) n ∧ (hp_w (hp_w (hp_w T 47 6 ((Int32.ofInt 100) * d)) 47 7 (hp_w T 47 6 ((Int32.ofInt 100) * d) 57 d.toNatClampNeg)) 47 5 (Int32.ofInt 0)) 47 5 = Int32.ofInt 0 ∧ hy_tx S (hp_w (hp_w (hp_w T 47 6 ((Int32.ofInt 100) * d)) 47 7 (hp_w T 47 6 ((Int32.ofInt 100) * d) 57 d.toNatClampNeg)) 47 5 (Int32.ofInt 0)) d.toNatClampNeg n := by
  have hd8 : d.toNatClampNeg < 8 := by show d.toInt.toNat < 8; omega
  obtain ⟨_, _, hr⟩ := hs _ hd8
  obtain ⟨⟨_, g4⟩, _, g57, gx⟩ := hr h2
  have e100 : (Int32.ofInt 100).toInt = 100 := by decide
  have em : (Int32.ofInt 100 * d).toInt = 100 * d.toInt := by
    rw [Int32.toInt_mul, e100]
    exact Int.bmod_eq_of_le (by omega) (by omega)
  have a5 : (hp_w (hp_w (hp_w T 47 6 ((Int32.ofInt 100) * d)) 47 7 (hp_w T 47 6 ((Int32.ofInt 100) * d) 57 d.toNatClampNeg)) 47 5 (Int32.ofInt 0)) 47 5 = Int32.ofInt 0 := hr_w0s _ _ _ _
  have a7 : (hp_w (hp_w (hp_w T 47 6 ((Int32.ofInt 100) * d)) 47 7 (hp_w T 47 6 ((Int32.ofInt 100) * d) 57 d.toNatClampNeg)) 47 5 (Int32.ofInt 0)) 47 7 = T 57 d.toNatClampNeg := by
    rw [hr_w0' _ _ _ _ _ (by omega), hr_w0s, hp_wo _ _ _ _ _ (by omega)]
  have a6 : (hp_w (hp_w (hp_w T 47 6 ((Int32.ofInt 100) * d)) 47 7 (hp_w T 47 6 ((Int32.ofInt 100) * d) 57 d.toNatClampNeg)) 47 5 (Int32.ofInt 0)) 47 6 = Int32.ofInt 100 * d := by
    rw [hr_w0' _ _ _ _ _ (by omega), hr_w0' _ _ _ _ _ (by omega), hr_w0s]
  have a58 : (hp_w (hp_w (hp_w T 47 6 ((Int32.ofInt 100) * d)) 47 7 (hp_w T 47 6 ((Int32.ofInt 100) * d) 57 d.toNatClampNeg)) 47 5 (Int32.ofInt 0)) 58 = T 58 := by
    rw [hp_wo _ _ _ _ _ (by omega), hp_wo _ _ _ _ _ (by omega), hp_wo _ _ _ _ _ (by omega)]
  refine ⟨(T 57 d.toNatClampNeg).toInt.toNat, by omega, by omega, ⟨by rw [a7]; omega, by omega, by rw [a6, em]; omega, by rw [a6, em]; omega⟩, a5, by rw [g4]; omega, by omega, fun j hj => ⟨hb _ hd8 h2 h0 j (by omega), ?_⟩⟩
  unfold hy_x
  rw [a6, a58, em, gx j (by omega)]
  rw [show (100 * d.toInt).toNat = 100 * d.toNatClampNeg from by show (100 * d.toInt).toNat = 100 * d.toInt.toNat; omega]
/-- refusals -/
theorem hy_ref (hs : hr_sh S T) (d : Int32) : (hq_52 S d = Int32.ofInt 0 ∧ (0 ≤ d.toInt ∧ d.toInt ≤ 7) ∧ T 53 d.toNatClampNeg = Int32.ofInt 2 ∧ S (29 + 2 * d.toNatClampNeg) 3 = T 56 d.toNatClampNeg ∧ hq_158 T d (Int32.ofInt 0) = (if T 56 d.toNatClampNeg = Int32.ofInt 0 then Int32.ofInt 0 else Int32.ofInt (-12))) ∨ (hq_52 S d ≠ Int32.ofInt 0 ∧ hq_158 T d (Int32.ofInt 0) = hq_52 S d) := by
  have e7 : (Int32.ofInt 7).toInt = 7 := by decide
  unfold hq_52 hq_54 hq_158 hq_51 hq_157
  rw [hr_44, hr_70]
  by_cases p : (Int32.ofInt 0).toInt ≤ d.toInt ∧ d.toInt ≤ (Int32.ofInt 7).toInt
  · rw [hr_iN p, hr_iN p]
    rw [hr_o0, e7] at p
    have hd8 : d.toNatClampNeg < 8 := by show d.toInt.toNat < 8; omega
    obtain ⟨⟨h1, h2⟩, _, h3⟩ := hs _ hd8
    rw [h1]
    rcases h2 with h | h | h
    · rw [h]
      exact Or.inr ⟨by decide, rfl⟩
    · rw [h]
      exact Or.inr ⟨by decide, rfl⟩
    · have h4 := (h3 h).1.1
      rw [h, h4]
      refine Or.inl ⟨by decide, p, rfl, rfl, ?_⟩
      rw [if_pos (by decide), if_neg (by decide), if_neg (by decide)]
      by_cases q : T 56 d.toNatClampNeg = Int32.ofInt 0
      · rw [if_pos q, if_pos (by rw [hr_eq]; exact q)]
      · rw [if_neg q, if_neg (by rw [hr_eq]; exact q)]
  · rw [hr_iNn p, hr_iNn p]
    exact Or.inr ⟨by decide, rfl⟩
def hy_R (T : hp_S) (A B : Int32 × hp_S) : Prop := A.1 = B.1 ∧ hr_E A.2 1 (B.2 48) ∧ hr_ok (B.2 48) ∧ B.2 48 5 = Int32.ofInt 0
theorem hy_Rs (hE : hr_E S 1 (T 48)) (ho : hr_ok (T 48)) (hz : T 48 5 = Int32.ofInt 0) (v : Int32) : hy_R T (v, S) (v, T) := ⟨rfl, hE, ho, hz⟩
end HR

section HR
variable {S T U : hp_S} {b k p n e : Nat}
theorem hy_neq {v w : Int32} (h : v ≠ w) : ¬ (hz_cmp .eq v w = true) := by
  rw [hr_eq]
  exact h
theorem hy_nn0 : ¬ (hz_cmp .ne (Int32.ofInt 0) 0 = true) := by decide
theorem hy_1k : (Int32.ofInt (-1000)).toInt = -1000 := by decide
theorem hy_q1 (q : Nat) (hq : q ≤ 100) : Int32.ofInt (q : Nat) ≠ Int32.ofInt (-1) := by
  intro z
  have e := hr_small q (by omega)
  rw [z] at e
  have e1 : (Int32.ofInt (-1)).toInt = -1 := by decide
  omega
/-- the class's street, by what its looks find -/
theorem hy_c0 (i1 : Int32) (h52 : hq_52 S i1 = Int32.ofInt 0) (h3 : S (29 + 2 * i1.toNatClampNeg) 3 = Int32.ofInt 0) :
    (hq_209 S i1.toNatClampNeg ≠ Int32.ofInt (-1) → hq_0 S i1 = (Int32.ofInt (-1000) - hq_209 S i1.toNatClampNeg, S)) ∧
    (hq_209 S i1.toNatClampNeg = Int32.ofInt (-1) → (hq_211 (hq_180 S 10 1) i1.toNatClampNeg 10).1 ≠ Int32.ofInt (-1) → hq_0 S i1 = (Int32.ofInt (-2000) - (hq_211 (hq_180 S 10 1) i1.toNatClampNeg 10).1, (hq_211 (hq_180 S 10 1) i1.toNatClampNeg 10).2)) ∧
    (hq_209 S i1.toNatClampNeg = Int32.ofInt (-1) → (hq_211 (hq_180 S 10 1) i1.toNatClampNeg 10).1 = Int32.ofInt (-1) → hq_0 S i1 = (hq_210 (hq_180 ((hq_211 (hq_180 S 10 1) i1.toNatClampNeg 10).2) 1 10) i1.toNatClampNeg, hq_180 ((hq_211 (hq_180 S 10 1) i1.toNatClampNeg 10).2) 1 10)) := by
  have z : hz_cmp .eq (Int32.ofInt 0) 0 = true := by decide
  refine ⟨fun h => ?_, fun h h' => ?_, fun h h' => ?_⟩
  · unfold hq_0
    rw [h52, h3, if_pos z, if_pos z, if_neg (hy_neq h)]
  · unfold hq_0
    rw [h52, h3, if_pos z, if_pos z, if_pos (by rw [hr_eq]; exact h), if_neg (hy_neq h')]
  · unfold hq_0
    rw [h52, h3, if_pos z, if_pos z, if_pos (by rw [hr_eq]; exact h), if_pos (by rw [hr_eq]; exact h')]
theorem hy_210x {S S' : hp_S} {e : Nat} (h1 : S' (29 + 2 * e) = S (29 + 2 * e)) (h2 : S' (30 + 2 * e) = S (30 + 2 * e)) : ∀ (m : Nat) (c v : Int32), hq_210_4 e m S' c v = hq_210_4 e m S c v := by
  intro m
  induction m with
  | zero => intros; rfl
  | succ m ih =>
    intro c v
    rw [hq_210_4, hq_210_4, h1, h2, ih, ih]
/-- THE STREET told by a text -/
theorem hy_street (hE : hr_E S 1 (T 48)) (ho : hr_ok (T 48)) (hz : T 48 5 = Int32.ofInt 0) (hs : hr_sh S T) (hb : ∀ d : Nat, d < 8 → T 53 d = Int32.ofInt 2 → T 56 d = Int32.ofInt 0 → ∀ j : Nat, j < 100 → hy_by (S (30 + 2 * d) j)) (i1 : Int32) : hy_R T (hq_0 S i1) (hq_106 T i1) := by
  have zt : hz_cmp .eq (Int32.ofInt 0) 0 = true := by decide
  rcases hy_ref hs i1 with ⟨h52, hd, h2, h3, h158⟩ | ⟨h52, h158⟩
  case inr =>
    have r1 : hq_0 S i1 = (hq_52 S i1, S) := by
      unfold hq_0
      rw [if_neg (hy_neq (v := hq_52 S i1) (w := 0) (fun z => h52 (z.trans (by decide))))]
    have r2 : hq_106 T i1 = (hq_52 S i1, T) := by
      unfold hq_106
      rw [h158, if_neg (hy_neq (v := hq_52 S i1) (w := 0) (fun z => h52 (z.trans (by decide))))]
    rw [r1, r2]
    exact hy_Rs hE ho hz _
  have hd8 : i1.toNatClampNeg < 8 := by show i1.toInt.toNat < 8; omega
  by_cases h0 : T 56 i1.toNatClampNeg = Int32.ofInt 0
  case neg =>
    rw [if_neg h0] at h158
    have r1 : hq_0 S i1 = (Int32.ofInt (-12), S) := by
      unfold hq_0
      rw [h52, if_pos zt, h3, if_neg (hy_neq (w := 0) (fun z => h0 (z.trans (by decide))))]
    have r2 : hq_106 T i1 = (Int32.ofInt (-12), T) := by
      unfold hq_106
      rw [h158, if_neg (by decide)]
    rw [r1, r2]
    exact hy_Rs hE ho hz _
  rw [if_pos h0] at h158
  rw [h0] at h3
  obtain ⟨n, hn, hn100, hr, h5, ht⟩ := hy_row hs hb hd h2 h0
  obtain ⟨c1, c2, c3⟩ := hy_c0 i1 h52 h3
  have r2 : hq_106 T i1 = hq_106_36 i1 (hp_w (hp_w (hp_w T 47 6 ((Int32.ofInt 100) * i1)) 47 7 (hp_w T 47 6 ((Int32.ofInt 100) * i1) 57 i1.toNatClampNeg)) 47 5 (Int32.ofInt 0)) (Int32.ofInt 0) := by
    unfold hq_106
    rw [h158, if_pos zt]
  have t48 : (hp_w (hp_w (hp_w T 47 6 ((Int32.ofInt 100) * i1)) 47 7 (hp_w T 47 6 ((Int32.ofInt 100) * i1) 57 i1.toNatClampNeg)) 47 5 (Int32.ofInt 0)) 48 = T 48 := by
    rw [hp_wo _ _ _ _ _ (by omega), hp_wo _ _ _ _ _ (by omega), hp_wo _ _ _ _ _ (by omega)]
  rw [r2]
  generalize hp_w (hp_w (hp_w T 47 6 ((Int32.ofInt 100) * i1)) 47 7 (hp_w T 47 6 ((Int32.ofInt 100) * i1) 57 i1.toNatClampNeg)) 47 5 (Int32.ofInt 0) = T3 at hr h5 ht t48 ⊢
  have h50 : (T3 47 5).toInt = ((0 : Nat) : Int) := by rw [h5]; decide
  have fu : ((T3 47 7).toInt - (T3 47 5).toInt).toNat = n := by rw [hr.1, h50]; omega
  have fc : (S (29 + 2 * i1.toNatClampNeg) 4).toInt = n := ht.1
  have fcl : ((S (29 + 2 * i1.toNatClampNeg) 4).toInt - (Int32.ofInt 0).toInt).toNat + 1 = n + 1 := by rw [fc, hr_o0]; omega
  obtain ⟨⟨q0, hv, hq0⟩, hwf⟩ := hy_l41 i1 (Int32.ofInt 0) (n + 1) T3 (Int32.ofInt 0) n 0 hr h50 (by omega) (by omega)
  have r36 : hq_106_36 i1 T3 (Int32.ofInt 0) = hq_106_77 i1 (hq_106_41 i1 (n + 1) T3 (Int32.ofInt 0) (Int32.ofInt 0) (Int32.ofInt 0)).1 (Int32.ofInt 0) (hq_106_41 i1 (n + 1) T3 (Int32.ofInt 0) (Int32.ofInt 0) (Int32.ofInt 0)).2.1 (hq_106_41 i1 (n + 1) T3 (Int32.ofInt 0) (Int32.ofInt 0) (Int32.ofInt 0)).2.2 := by
    unfold hq_106_36
    rw [fu]
  rw [r36]
  have TA48 : (hq_106_41 i1 (n + 1) T3 (Int32.ofInt 0) (Int32.ofInt 0) (Int32.ofInt 0)).1 48 = T 48 := (hv.1 48 (by omega) (by omega)).trans t48
  -- a wrong byte: the same answer, nothing done
  have bad : ∀ q : Nat, q ≤ 100 → hq_209 S i1.toNatClampNeg = Int32.ofInt (q : Nat) → (hq_106_41 i1 (n + 1) T3 (Int32.ofInt 0) (Int32.ofInt 0) (Int32.ofInt 0)).2.2 = Int32.ofInt (-1000) - Int32.ofInt (q : Nat) → hy_R T (hq_0 S i1) (hq_106_77 i1 (hq_106_41 i1 (n + 1) T3 (Int32.ofInt 0) (Int32.ofInt 0) (Int32.ofInt 0)).1 (Int32.ofInt 0) (hq_106_41 i1 (n + 1) T3 (Int32.ofInt 0) (Int32.ofInt 0) (Int32.ofInt 0)).2.1 (hq_106_41 i1 (n + 1) T3 (Int32.ofInt 0) (Int32.ofInt 0) (Int32.ofInt 0)).2.2) := by
    intro q hq e1 e2
    rw [c1 (by rw [e1]; exact hy_q1 q hq), e1, e2, hy_77x _ _ _ _ _ (hy_ne0 (hy_f2k hq _ (Or.inr hy_1k)))]
    have x : hp_w (hq_73 (hq_106_41 i1 (n + 1) T3 (Int32.ofInt 0) (Int32.ofInt 0) (Int32.ofInt 0)).1 48 51) 47 5 (Int32.ofInt 0) 48 = T 48 := by
      rw [hp_wo _ _ _ _ _ (by omega), hf_73 _ _ (by omega), TA48]
    generalize hp_w (hq_73 (hq_106_41 i1 (n + 1) T3 (Int32.ofInt 0) (Int32.ofInt 0) (Int32.ofInt 0)).1 48 51) 47 5 (Int32.ofInt 0) = X at x ⊢
    refine ⟨rfl, ?_, ?_, ?_⟩
    · show hr_E S 1 (X 48); rw [x]; exact hE
    · show hr_ok (X 48); rw [x]; exact ho
    · show X 48 5 = _; rw [x]; exact hz
  have u209 : hq_209 S i1.toNatClampNeg = hq_209_4 i1.toNatClampNeg (n + 1) S (Int32.ofInt (-1)) (Int32.ofInt 0) := by
    unfold hq_209
    rw [fcl]
  by_cases n0 : n = 0
  · subst n0
    refine bad 0 (by omega) ?_ ?_
    · have e4 : S (29 + 2 * i1.toNatClampNeg) 4 = Int32.ofInt 0 := Int32.toInt_inj.mp (by rw [fc]; decide)
      rw [u209, hq_209_4, e4]
      rfl
    · obtain ⟨a, v⟩ := hy_102z hr (hy_self h50) (by omega) (Or.inl rfl)
      have hb' := hy_o41b (S := T3) ⟨0, 0, hr, h50, by omega⟩
      rw [hq_106_41, a, if_neg hy_nn0]
      cases e1 : hz_cmp .ne (Int32.ofInt (-1000) - (hq_102 T3).2 47 5) 0 with
      | false => exact absurd e1 hb'
      | true =>
        rw [if_pos rfl]
        dsimp only
        rw [hr_of v.2.2]
  rcases hy_ph1 i1 (Int32.ofInt 0) (n + 1) T3 (Int32.ofInt 0) 0 (n + 1) (n + 1) ht hr h50 (by omega) (by omega) (by omega) (by omega) with ⟨q, hq, e1, e2⟩ | ⟨e1, e2, e3⟩
  · exact bad q (by omega) (by rw [u209]; exact e1) e2
  have e209 : hq_209 S i1.toNatClampNeg = Int32.ofInt (-1) := by rw [u209]; exact e1
  obtain ⟨mw, wf⟩ := hwf e2
  -- the second look
  have hEm := hr_180 (S := S) (b := 10) (b2 := 1) (Or.inl ⟨rfl, rfl⟩) hE
  have m29 : hq_180 S 10 1 (29 + 2 * i1.toNatClampNeg) = S (29 + 2 * i1.toNatClampNeg) := by
    rw [hf_180]
    all_goals omega
  have m30 : hq_180 S 10 1 (30 + 2 * i1.toNatClampNeg) = S (30 + 2 * i1.toNatClampNeg) := by
    rw [hf_180]
    all_goals omega
  have mnow : ∀ i : Nat, i ≤ 9 → hq_180 S 10 1 i = S i := by
    intro i hi
    rw [hf_180]
    all_goals omega
  generalize hq_180 S 10 1 = SM at *
  generalize hq_106_41 i1 (n + 1) T3 (Int32.ofInt 0) (Int32.ofInt 0) (Int32.ofInt 0) = RA at *
  rw [e2]
  have z47 : hp_w (hq_73 RA.1 48 51) 47 5 (Int32.ofInt 0) 47 5 = Int32.ofInt 0 := hr_w0s _ _ _ _
  have z7 : hp_w (hq_73 RA.1 48 51) 47 5 (Int32.ofInt 0) 47 7 = T3 47 7 := by rw [hr_w0' _ _ _ _ _ (by omega), hf_73 _ _ (by omega), hv.2.1 7 (by omega)]
  have z6 : hp_w (hq_73 RA.1 48 51) 47 5 (Int32.ofInt 0) 47 6 = T3 47 6 := by rw [hr_w0' _ _ _ _ _ (by omega), hf_73 _ _ (by omega), hv.2.1 6 (by omega)]
  have z58 : hp_w (hq_73 RA.1 48 51) 47 5 (Int32.ofInt 0) 58 = T3 58 := by rw [hp_wo _ _ _ _ _ (by omega), hf_73 _ _ (by omega), hv.1 58 (by omega) (by omega)]
  have z48 : hp_w (hq_73 RA.1 48 51) 47 5 (Int32.ofInt 0) 48 = T 48 := by rw [hp_wo _ _ _ _ _ (by omega), hf_73 _ _ (by omega), TA48]
  have z51 : ∀ j : Nat, j < 80 → hp_w (hq_73 RA.1 48 51) 47 5 (Int32.ofInt 0) 51 j = T 48 j := fun j hj => by rw [hp_wo _ _ _ _ _ (by omega), hr_73 (show (48 : Nat) ≠ 51 by omega) _ j hj, TA48]
  have r77 := hy_77y i1 RA.1 (Int32.ofInt 0) RA.2.1 n (by rw [z7, z47, hr.1, hr_o0]; omega)
  rw [r77]
  generalize hp_w (hq_73 RA.1 48 51) 47 5 (Int32.ofInt 0) = T5 at *
  have hr5 : hy_r T5 n := by
    unfold hy_r
    rw [z7, z6]
    exact hr
  have xx : ∀ j : Nat, hy_x T5 j = hy_x T3 j := fun j => by
    unfold hy_x
    rw [z6, z58]
  have ht5 : hy_tx SM T5 i1.toNatClampNeg n := hy_txx ht m29 m30 xx
  have ph2 := hy_ph2 i1 (Int32.ofInt 0) RA.2.1 hd8 (n + 1) SM T5 0 (n + 1) mw ht5 hr5 (by rw [z47]; decide) (by omega) (hy_wfx xx _ _ wf) (by rw [z48]; exact hEm) (by rw [z48]; exact ho) (by rw [z48, hz]; decide) (by omega) (by omega)
  have u211 : hq_211 SM i1.toNatClampNeg 10 = hq_211_2 i1.toNatClampNeg 10 (n + 1) SM (Int32.ofInt 0) := by
    unfold hq_211
    rw [m29, fcl]
  have n211 : ∀ i : Nat, i ≤ 9 → (hq_211 SM i1.toNatClampNeg 10).2 i = SM i := by
    intro i hi
    rw [hf_211]
    all_goals omega
  have k29 : (hq_211 SM i1.toNatClampNeg 10).2 (29 + 2 * i1.toNatClampNeg) = SM (29 + 2 * i1.toNatClampNeg) := by
    rw [hf_211]
    all_goals omega
  have k30 : (hq_211 SM i1.toNatClampNeg 10).2 (30 + 2 * i1.toNatClampNeg) = SM (30 + 2 * i1.toNatClampNeg) := by
    rw [hf_211]
    all_goals omega
  rw [show Int32.ofInt ((0 : Nat) : Int) = Int32.ofInt 0 from rfl, ← u211] at ph2
  generalize hq_106_93 i1 (n + 1) T5 (Int32.ofInt 0) RA.2.1 (Int32.ofInt 0) = RB at *
  rcases ph2 with ⟨p1, p2, p3, p4, p5⟩ | ⟨q, hq, p1, p2, p3⟩
  · rw [c3 e209 p1, p2, if_neg hy_nn0]
    have hE1 := hr_180 (S := (hq_211 SM i1.toNatClampNeg 10).2) (b := 1) (b2 := 10) (Or.inr (Or.inl ⟨rfl, rfl⟩)) p3
    have y29 : hq_180 (hq_211 SM i1.toNatClampNeg 10).2 1 10 (29 + 2 * i1.toNatClampNeg) = S (29 + 2 * i1.toNatClampNeg) := by
      rw [hf_180, k29, m29]
      all_goals omega
    have y30 : hq_180 (hq_211 SM i1.toNatClampNeg 10).2 1 10 (30 + 2 * i1.toNatClampNeg) = S (30 + 2 * i1.toNatClampNeg) := by
      rw [hf_180, k30, m30]
      all_goals omega
    generalize hq_180 (hq_211 SM i1.toNatClampNeg 10).2 1 10 = SF at hE1 y29 y30 ⊢
    refine ⟨?_, hE1, p4, p5⟩
    show hq_210 SF i1.toNatClampNeg = RA.2.1
    unfold hq_210
    rw [y29, fcl, hy_210x y29 y30, e3]
    rfl
  · have c2' := c2 e209 (by rw [p1]; exact hy_q1 q (by omega))
    rw [c2', p1, p2, if_pos (hy_ne0 (hy_f2k (by omega) _ (Or.inl hy_2k)))]
    have w : ∀ j : Nat, j < 80 → RB.1 48 j = T 48 j := fun j hj => (p3 j hj).trans (z51 j hj)
    refine ⟨rfl, ?_, hr_okcg ho w, (w 5 (by omega)).trans hz⟩
    have hS : ∀ i : Nat, i ≤ 8 → (hq_211 SM i1.toNatClampNeg 10).2 (1 + i) = S (1 + i) := fun i hi => (n211 _ (by omega)).trans (mnow _ (by omega))
    have g := hr_Ex (S' := (hq_211 SM i1.toNatClampNeg 10).2) hE hS rfl
    exact hr_Ecg g w ⟨rfl, rfl, rfl, rfl, rfl⟩ (fun _ _ => rfl) (fun _ _ => ⟨rfl, rfl, rfl⟩) (fun _ _ => ⟨rfl, rfl, rfl, rfl⟩)
end HR

