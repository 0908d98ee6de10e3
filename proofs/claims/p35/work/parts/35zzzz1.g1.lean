/-! 211: HatsOfTheWind$Text.firstWrongStatement(LHatsOfTheWind$Shelf;LHatsOfTheWind$Street;)I -/
def hq_211_2 (e : Nat) (b : Nat) : Nat → hp_S → Int32 → Int32 × hp_S
  | 0, S, _ => (0, S)
  | m + 1, S, v2 => (if hz_cmp .ge v2 (S (29 + 2 * e) 4) = true then ((Int32.ofInt (-1)), S) else (if hz_cmp .ne (hq_212 S e b v2).1 0 = true then hq_211_2 e b m ((hq_212 S e b v2).2) (v2 + ((hq_208 ((hq_212 S e b v2).2) ((hq_212 S e b v2).2 (30 + 2 * e) v2.toNatClampNeg)) + (Int32.ofInt 2))) else (v2, (hq_212 S e b v2).2)))
def hq_211 (S : hp_S) (e : Nat) (b : Nat) : Int32 × hp_S := (hq_211_2 e b (((S (29 + 2 * e) 4).toInt - (Int32.ofInt 0).toInt).toNat + 1) S ((Int32.ofInt 0)))
theorem hf_211_2 {e : Nat} {b : Nat} (j : Nat) (z0 : j ≠ (b + 5)) (z1 : j ≠ (b + 6)) (z2 : j ≠ (b + 7)) (z3 : j ≠ (b + 8)) (z4 : j ≠ b) (z5 : j ≠ (b + 4)) (z6 : j ≠ (b + 2)) (z7 : j ≠ (b + 3)) (z8 : j ≠ (b + 1)) : ∀ (m : Nat) (S : hp_S) (v2 : Int32), (hq_211_2 e b m S v2).2 j = S j := by
  intro m
  induction m with
  | zero => intros; rfl
  | succ m ih =>
    intro S v2
    rw [hq_211_2]
    repeat' split
    all_goals simp [ih, hp_wo, hp_wgo, hp_cpo, hf_212, z0, z1, z2, z3, z4, z5, z6, z7, z8]
theorem hf_211 {e : Nat} {b : Nat} (S : hp_S) (j : Nat) (z0 : j ≠ (b + 5)) (z1 : j ≠ (b + 6)) (z2 : j ≠ (b + 7)) (z3 : j ≠ (b + 8)) (z4 : j ≠ b) (z5 : j ≠ (b + 4)) (z6 : j ≠ (b + 2)) (z7 : j ≠ (b + 3)) (z8 : j ≠ (b + 1)) : (hq_211 S e b).2 j = S j := by
  unfold hq_211
  repeat' split
  all_goals simp [hp_wo, hp_wgo, hp_cpo, hf_212, z0, z1, z2, z3, z4, z5, z6, z7, z8, hf_211_2]
theorem hp_208 (S : hp_S) (x : Int32) : 0 ≤ (hq_208 S x).toInt ∧ (hq_208 S x).toInt ≤ 3 := by
  unfold hq_208
  repeat' split
  all_goals decide
theorem hp_211 {e b : Nat} (hb : hp_b b) (he : e < 8) {S : hp_S} {v2 x : Int32} {m : Nat} {S1 : hp_S} (hg : hz_in v2 100 = true) (h1 : hz_cmp .ge v2 (S (29 + 2 * e) 4) = false) (hm : ((S (29 + 2 * e) 4).toInt - v2.toInt).toNat < m + 1) : (((hq_212 S e b v2).2 (29 + 2 * e) 4).toInt - (v2 + ((hq_208 S1 x) + (Int32.ofInt 2))).toInt).toNat < m := by
  have e1 : (hq_212 S e b v2).2 (29 + 2 * e) = S (29 + 2 * e) := by
    rw [hf_212]
    all_goals (rcases hb with rfl | rfl | rfl <;> omega)
  rw [e1]
  have h8 := hp_208 S1 x
  have hv := hp_inb hg
  have h2 : (Int32.ofInt 2).toInt = 2 := by decide
  simp only [hz_cmp, decide_eq_false_iff_not, Int32.le_iff_toInt_le] at h1
  rw [hp_add (by rw [hp_add (by omega) (by omega)]; omega) (by rw [hp_add (by omega) (by omega)]; omega), hp_add (by omega) (by omega)]
  omega
set_option maxRecDepth 10000 in
theorem ht_211_2 {X : hp_X} {e : Nat} {b : Nat} (he : e < 8) (hb : hp_b b) : ∀ (n m : Nat) (S : hp_S) (v2 : Int32), ((S (29 + 2 * e) 4).toInt - v2.toInt).toNat < m → hp_T n 211 2 [some (.ref (29 + 2 * e)), some (.ref b), some (.int v2)] [] (hp_mem X S) (hp_is X) (hq_211_2 e b m S v2) := by
  intro n
  induction n with
  | zero => intros; exact hp_0
  | succ n ih =>
    intro m S v2 hm
    cases m with
    | zero => exact absurd hm (Nat.not_lt_zero _)
    | succ m =>
      rw [hq_211_2]
      refine hp_sN [3, 4] (pc' := 4) (L' := [some (.ref (29 + 2 * e)), some (.ref b), some (.int v2)]) (st' := [.ref (29 + 2 * e), .int v2]) rfl rfl ?_
      refine hp_gf (pc' := 7) rfl (hp_sl0 he) (hp_s0 he X _) rfl rfl ?_
      refine hp_ic (pc' := 10) rfl rfl (fun h1 => ?_) (fun h1 => ?_)
      · refine hp_sN [39] (pc' := 39) (L' := [some (.ref (29 + 2 * e)), some (.ref b), some (.int v2)]) (st' := [.int (Int32.ofInt (-1))]) rfl rfl ?_
        exact hp_Ris rfl
      · refine hp_sN [11, 12, 13] (pc' := 13) (L' := [some (.ref (29 + 2 * e)), some (.ref b), some (.int v2)]) (st' := [.ref b, .int v2, .ref (29 + 2 * e)]) rfl rfl ?_
        refine hp_iv (virt := false) (pc' := 16) (rv := some (.int (hq_212 S e b v2).1)) (M1 := hp_mem X ((hq_212 S e b v2).2)) rfl rfl (by decide) (hk_212 he hb S (v2)) rfl rfl ?_
        show hp_T _ 211 16 _ [.int (hq_212 S e b v2).1] _ _ _
        refine hp_if (pc' := 19) rfl rfl (fun h2 => ?_) (fun h2 => ?_)
        · refine hp_sN [22, 23] (pc' := 23) (L' := [some (.ref (29 + 2 * e)), some (.ref b), some (.int v2)]) (st' := [.ref (29 + 2 * e), .int v2]) rfl rfl ?_
          refine hp_gf (pc' := 26) rfl (hp_sl0 he) (hp_s0 he X _) rfl rfl ?_
          refine hp_sN [27] (pc' := 27) (L' := [some (.ref (29 + 2 * e)), some (.ref b), some (.int v2)]) (st' := [.int v2, .ref (30 + 2 * e), .int v2]) rfl rfl ?_
          refine hp_ag (pc' := 28) rfl (hp_sl1 he) (hp_s1 he X _) rfl (fun h3 => ?_)
          refine hp_iv (virt := false) (pc' := 31) (rv := some (.int (hq_208 ((hq_212 S e b v2).2) ((hq_212 S e b v2).2 (30 + 2 * e) v2.toNatClampNeg)))) (M1 := hp_mem X ((hq_212 S e b v2).2)) rfl rfl (by decide) (hk_208 ((hq_212 S e b v2).2) (((hq_212 S e b v2).2 (30 + 2 * e) v2.toNatClampNeg))) rfl rfl ?_
          show hp_T _ 211 31 _ [.int (hq_208 ((hq_212 S e b v2).2) ((hq_212 S e b v2).2 (30 + 2 * e) v2.toNatClampNeg)), .int v2] _ _ _
          refine hp_sB 32 [33, 34, 35, 2] (pc' := 2) (L' := [some (.ref (29 + 2 * e)), some (.ref b), some (.int (v2 + ((hq_208 ((hq_212 S e b v2).2) ((hq_212 S e b v2).2 (30 + 2 * e) v2.toNatClampNeg)) + (Int32.ofInt 2))))]) (st' := []) rfl rfl ?_
          exact ih m ((hq_212 S e b v2).2) ((v2 + ((hq_208 ((hq_212 S e b v2).2) ((hq_212 S e b v2).2 (30 + 2 * e) v2.toNatClampNeg)) + (Int32.ofInt 2)))) (hp_211 hb he h3 h1 hm)
        · refine hp_sN [20] (pc' := 20) (L' := [some (.ref (29 + 2 * e)), some (.ref b), some (.int v2)]) (st' := [.int v2]) rfl rfl ?_
          exact hp_Ris rfl
set_option maxRecDepth 10000 in
theorem ht_211 {X : hp_X} {e : Nat} {b : Nat} (he : e < 8) (hb : hp_b b) (S : hp_S) (n : Nat) : hp_T n 211 0 [some (.ref (29 + 2 * e)), some (.ref b), none] [] (hp_mem X S) (hp_is X) (hq_211 S e b) := by
  unfold hq_211
  refine hp_sN [1, 2] (pc' := 2) (L' := [some (.ref (29 + 2 * e)), some (.ref b), some (.int (Int32.ofInt 0))]) (st' := []) rfl rfl ?_
  exact ht_211_2 he hb  n (((S (29 + 2 * e) 4).toInt - (Int32.ofInt 0).toInt).toNat + 1) S ((Int32.ofInt 0))  (Nat.lt_succ_self _)
theorem hk_211 {X : hp_X} {e : Nat} {b : Nat} (he : e < 8) (hb : hp_b b) (S : hp_S) : hp_K 211 [.ref (29 + 2 * e), .ref b] (hp_mem X S) (hp_is X) (hq_211 S e b) := by
  refine hp_mk (q := hzq_211) rfl (by decide) (L := [some (.ref (29 + 2 * e)), some (.ref b), none]) rfl (fun n => ?_)
  exact ht_211 he hb S n
/-! 210: HatsOfTheWind$Text.statements(LHatsOfTheWind$Shelf;)I -/
def hq_210_4 (e : Nat) : Nat → hp_S → Int32 → Int32 → Int32
  | 0, S, _, _ => 0
  | m + 1, S, v1, v2 => (if hz_cmp .ge v2 (S (29 + 2 * e) 4) = true then v1 else (if hz_cmp .ne (S (30 + 2 * e) v2.toNatClampNeg) (Int32.ofInt 59) = true then hq_210_4 e m S v1 (v2 + (Int32.ofInt 1)) else hq_210_4 e m S (v1 + (Int32.ofInt 1)) (v2 + (Int32.ofInt 1))))
def hq_210 (S : hp_S) (e : Nat) : Int32 := (hq_210_4 e (((S (29 + 2 * e) 4).toInt - (Int32.ofInt 0).toInt).toNat + 1) S ((Int32.ofInt 0)) ((Int32.ofInt 0)))
set_option maxRecDepth 10000 in
theorem ht_210_4 {α : Type} {φ : α → Option Value × hzMem} {R : α} {X : hp_X} (N : Nat) {e : Nat} (he : e < 8) (S : hp_S) : ∀ (n : Nat), n ≤ N → ∀ (m : Nat) (v1 : Int32) (v2 : Int32) (Z : Int32), ((S (29 + 2 * e) 4).toInt - v2.toInt).toNat < m → hq_210_4 e m S v1 v2 = Z → (∀ (x2 : Option Value), hp_T N 210 32 [some (.ref (29 + 2 * e)), some (.int Z), x2] [] (hp_mem X S) φ R) → hp_T n 210 4 [some (.ref (29 + 2 * e)), some (.int v1), some (.int v2)] [] (hp_mem X S) φ R := by
  intro n
  induction n with
  | zero => intros; exact hp_0
  | succ n ih =>
    intro hN m v1 v2 Z hm hZ kk
    cases m with
    | zero => exact absurd hm (Nat.not_lt_zero _)
    | succ m =>
      rw [hq_210_4] at hZ
      refine hp_sN [5, 6] (pc' := 6) (L' := [some (.ref (29 + 2 * e)), some (.int v1), some (.int v2)]) (st' := [.ref (29 + 2 * e), .int v2]) rfl rfl ?_
      refine hp_gf (pc' := 9) rfl (hp_sl0 he) (hp_s0 he X _) rfl rfl ?_
      refine hp_ic2 (pc' := 12) rfl rfl (fun h1 => ?_) (fun h1 => ?_)
      · rw [if_pos h1] at hZ
        subst hZ
        exact hp_le hN (kk (some (.int v2)))
      · rw [if_neg (hp_nt h1)] at hZ
        refine hp_sN [13] (pc' := 13) (L' := [some (.ref (29 + 2 * e)), some (.int v1), some (.int v2)]) (st' := [.ref (29 + 2 * e)]) rfl rfl ?_
        refine hp_gf (pc' := 16) rfl (hp_sl0 he) (hp_s0 he X _) rfl rfl ?_
        refine hp_sN [17] (pc' := 17) (L' := [some (.ref (29 + 2 * e)), some (.int v1), some (.int v2)]) (st' := [.int v2, .ref (30 + 2 * e)]) rfl rfl ?_
        refine hp_al (pc' := 18) rfl (hp_sl1 he) (hp_s1 he X _) rfl ?_
        refine hp_sN [20] (pc' := 20) (L' := [some (.ref (29 + 2 * e)), some (.int v1), some (.int v2)]) (st' := [.int (Int32.ofInt 59), .int (S (30 + 2 * e) v2.toNatClampNeg)]) rfl rfl ?_
        refine hp_ic2 (pc' := 23) rfl rfl (fun h2 => ?_) (fun h2 => ?_)
        · rw [if_pos h2] at hZ
          refine hp_sB 29 [4] (pc' := 4) (L' := [some (.ref (29 + 2 * e)), some (.int v1), some (.int (v2 + (Int32.ofInt 1)))]) (st' := []) rfl rfl ?_
          exact ih (Nat.le_trans (Nat.le_succ n) hN) m (v1) ((v2 + (Int32.ofInt 1))) Z (hp_up h1 hm) hZ kk
        · rw [if_neg (hp_nt h2)] at hZ
          refine hp_sB 26 [29, 4] (pc' := 4) (L' := [some (.ref (29 + 2 * e)), some (.int (v1 + (Int32.ofInt 1))), some (.int (v2 + (Int32.ofInt 1)))]) (st' := []) rfl rfl ?_
          exact ih (Nat.le_trans (Nat.le_succ n) hN) m ((v1 + (Int32.ofInt 1))) ((v2 + (Int32.ofInt 1))) Z (hp_up h1 hm) hZ kk
set_option maxRecDepth 10000 in
theorem ht_210 {X : hp_X} {e : Nat} (he : e < 8) (S : hp_S) (n : Nat) : hp_T n 210 0 [some (.ref (29 + 2 * e)), none, none] [] (hp_mem X S) (hp_i X S) (hq_210 S e) := by
  unfold hq_210
  refine hp_sN [1, 2, 3, 4] (pc' := 4) (L' := [some (.ref (29 + 2 * e)), some (.int (Int32.ofInt 0)), some (.int (Int32.ofInt 0))]) (st' := []) rfl rfl ?_
  refine ht_210_4 n he S n (Nat.le_refl _) (((S (29 + 2 * e) 4).toInt - (Int32.ofInt 0).toInt).toNat + 1)  ((Int32.ofInt 0)) ((Int32.ofInt 0))  _ (Nat.lt_succ_self _) rfl (fun x2_4 => ?_)
  show hp_T _ 210 32 [some (.ref (29 + 2 * e)), some (.int (hq_210_4 e (((S (29 + 2 * e) 4).toInt - (Int32.ofInt 0).toInt).toNat + 1) S ((Int32.ofInt 0)) ((Int32.ofInt 0)))), x2_4] _ (hp_mem X S) _ _
  refine hp_sN [33] (pc' := 33) (L' := [some (.ref (29 + 2 * e)), some (.int (hq_210_4 e (((S (29 + 2 * e) 4).toInt - (Int32.ofInt 0).toInt).toNat + 1) S ((Int32.ofInt 0)) ((Int32.ofInt 0)))), x2_4]) (st' := [.int (hq_210_4 e (((S (29 + 2 * e) 4).toInt - (Int32.ofInt 0).toInt).toNat + 1) S ((Int32.ofInt 0)) ((Int32.ofInt 0)))]) rfl rfl ?_
  exact hp_Ri rfl
theorem hk_210 {X : hp_X} {e : Nat} (he : e < 8) (S : hp_S) : hp_K 210 [.ref (29 + 2 * e)] (hp_mem X S) (hp_i X S) (hq_210 S e) := by
  refine hp_mk (q := hzq_210) rfl (by decide) (L := [some (.ref (29 + 2 * e)), none, none]) rfl (fun n => ?_)
  exact ht_210 he S n
/-! 0: HatsOfTheWind.street(I)I -/
def hq_0 (S : hp_S) (i1 : Int32) : Int32 × hp_S := (if hz_cmp .eq (hq_52 S i1) 0 = true then (if hz_cmp .eq (S (29 + 2 * i1.toNatClampNeg) 3) 0 = true then (if hz_cmp .eq (hq_209 S i1.toNatClampNeg) (Int32.ofInt (-1)) = true then (if hz_cmp .eq (hq_211 (hq_180 S 10 1) i1.toNatClampNeg 10).1 (Int32.ofInt (-1)) = true then ((hq_210 (hq_180 ((hq_211 (hq_180 S 10 1) i1.toNatClampNeg 10).2) 1 10) i1.toNatClampNeg), hq_180 ((hq_211 (hq_180 S 10 1) i1.toNatClampNeg 10).2) 1 10) else (((Int32.ofInt (-2000)) - (hq_211 (hq_180 S 10 1) i1.toNatClampNeg 10).1), (hq_211 (hq_180 S 10 1) i1.toNatClampNeg 10).2)) else (((Int32.ofInt (-1000)) - (hq_209 S i1.toNatClampNeg)), S)) else ((Int32.ofInt (-12)), S)) else ((hq_52 S i1), S))
theorem hf_0 (S : hp_S) (i1 : Int32) (j : Nat) (z0 : j ≠ (10 + 1)) (z1 : j ≠ 10) (z2 : j ≠ (10 + 2)) (z3 : j ≠ (10 + 3)) (z4 : j ≠ (10 + 4)) (z5 : j ≠ (10 + 5)) (z6 : j ≠ (10 + 6)) (z7 : j ≠ (10 + 7)) (z8 : j ≠ (10 + 8)) (z9 : j ≠ (1 + 1)) (z10 : j ≠ 1) (z11 : j ≠ (1 + 2)) (z12 : j ≠ (1 + 3)) (z13 : j ≠ (1 + 4)) (z14 : j ≠ (1 + 5)) (z15 : j ≠ (1 + 6)) (z16 : j ≠ (1 + 7)) (z17 : j ≠ (1 + 8)) : (hq_0 S i1).2 j = S j := by
  unfold hq_0
  repeat' split
  all_goals simp [hp_wo, hp_wgo, hp_cpo, hf_180, hf_211, z0, z1, z2, z3, z4, z5, z6, z7, z8, z9, z10, z11, z12, z13, z14, z15, z16, z17]
set_option maxRecDepth 10000 in
theorem ht_0 {X : hp_X} (S : hp_S) (i1 : Int32) (n : Nat) : hp_T n 0 0 [some (.ref 0), some (.int i1), none, none, none] [] (hp_mem X S) (hp_is X) (hq_0 S i1) := by
  unfold hq_0
  refine hp_sN [1, 2] (pc' := 2) (L' := [some (.ref 0), some (.int i1), none, none, none]) (st' := [.int i1, .ref 0]) rfl rfl ?_
  refine hp_iv (virt := true) (pc' := 5) (rv := some (.int (hq_52 S i1))) (M1 := hp_mem X (S)) rfl rfl (by decide) (hk_52 S (i1)) rfl rfl ?_
  show hp_T _ 0 5 _ [.int (hq_52 S i1)] _ _ _
  refine hp_sN [6, 7] (pc' := 7) (L' := [some (.ref 0), some (.int i1), some (.int (hq_52 S i1)), none, none]) (st' := [.int (hq_52 S i1)]) rfl rfl ?_
  refine hp_if (pc' := 10) rfl rfl (fun h1 => ?_) (fun h1 => ?_)
  · refine hp_sN [13] (pc' := 13) (L' := [some (.ref 0), some (.int i1), some (.int (hq_52 S i1)), none, none]) (st' := [.ref 0]) rfl rfl ?_
    refine hp_gf (pc' := 16) rfl (by decide) (hp_c0 X _) rfl rfl ?_
    refine hp_sN [17] (pc' := 17) (L' := [some (.ref 0), some (.int i1), some (.int (hq_52 S i1)), none, none]) (st' := [.int i1, .ref 28]) rfl rfl ?_
    refine hp_aa (pc' := 18) rfl rfl (fun h2 => ?_)
    refine hp_sN [19, 20] (pc' := 20) (L' := [some (.ref 0), some (.int i1), some (.int (hq_52 S i1)), some (.ref (29 + 2 * i1.toNatClampNeg)), none]) (st' := [.ref (29 + 2 * i1.toNatClampNeg)]) rfl rfl ?_
    refine hp_gf (pc' := 23) rfl (hp_sl0 h2) (hp_s0 h2 X _) rfl rfl ?_
    refine hp_if (pc' := 26) rfl rfl (fun h3 => ?_) (fun h3 => ?_)
    · refine hp_sN [30] (pc' := 30) (L' := [some (.ref 0), some (.int i1), some (.int (hq_52 S i1)), some (.ref (29 + 2 * i1.toNatClampNeg)), none]) (st' := [.ref (29 + 2 * i1.toNatClampNeg)]) rfl rfl ?_
      refine hp_iv (virt := false) (pc' := 33) (rv := some (.int (hq_209 S i1.toNatClampNeg))) (M1 := hp_mem X (S)) rfl rfl (by decide) (hk_209 h2 S) rfl rfl ?_
      show hp_T _ 0 33 _ [.int (hq_209 S i1.toNatClampNeg)] _ _ _
      refine hp_sN [35, 37, 38] (pc' := 38) (L' := [some (.ref 0), some (.int i1), some (.int (hq_52 S i1)), some (.ref (29 + 2 * i1.toNatClampNeg)), some (.int (hq_209 S i1.toNatClampNeg))]) (st' := [.int (Int32.ofInt (-1)), .int (hq_209 S i1.toNatClampNeg)]) rfl rfl ?_
      refine hp_ic (pc' := 41) rfl rfl (fun h4 => ?_) (fun h4 => ?_)
      · refine hp_sN [49] (pc' := 49) (L' := [some (.ref 0), some (.int i1), some (.int (hq_52 S i1)), some (.ref (29 + 2 * i1.toNatClampNeg)), some (.int (hq_209 S i1.toNatClampNeg))]) (st' := [.ref 0]) rfl rfl ?_
        refine hp_gf (pc' := 52) rfl (by decide) (hp_c0 X _) rfl rfl ?_
        refine hp_sN [53] (pc' := 53) (L' := [some (.ref 0), some (.int i1), some (.int (hq_52 S i1)), some (.ref (29 + 2 * i1.toNatClampNeg)), some (.int (hq_209 S i1.toNatClampNeg))]) (st' := [.ref 0, .ref 10]) rfl rfl ?_
        refine hp_gf (pc' := 56) rfl (by decide) (hp_c0 X _) rfl rfl ?_
        refine hp_iv (virt := true) (pc' := 59) (rv := none) (M1 := hp_mem X (hq_180 S 10 1)) rfl rfl (by decide) (hk_180 (Or.inr (Or.inl rfl)) (Or.inl rfl) S) rfl rfl ?_
        show hp_T _ 0 59 _ [] _ _ _
        refine hp_sN [60, 61] (pc' := 61) (L' := [some (.ref 0), some (.int i1), some (.int (hq_52 S i1)), some (.ref (29 + 2 * i1.toNatClampNeg)), some (.int (hq_209 S i1.toNatClampNeg))]) (st' := [.ref 0, .ref (29 + 2 * i1.toNatClampNeg)]) rfl rfl ?_
        refine hp_gf (pc' := 64) rfl (by decide) (hp_c0 X _) rfl rfl ?_
        refine hp_iv (virt := false) (pc' := 67) (rv := some (.int (hq_211 (hq_180 S 10 1) i1.toNatClampNeg 10).1)) (M1 := hp_mem X ((hq_211 (hq_180 S 10 1) i1.toNatClampNeg 10).2)) rfl rfl (by decide) (hk_211 h2 (Or.inr (Or.inl rfl)) (hq_180 S 10 1)) rfl rfl ?_
        show hp_T _ 0 67 _ [.int (hq_211 (hq_180 S 10 1) i1.toNatClampNeg 10).1] _ _ _
        refine hp_sN [69, 71, 72] (pc' := 72) (L' := [some (.ref 0), some (.int i1), some (.int (hq_52 S i1)), some (.ref (29 + 2 * i1.toNatClampNeg)), some (.int (hq_211 (hq_180 S 10 1) i1.toNatClampNeg 10).1)]) (st' := [.int (Int32.ofInt (-1)), .int (hq_211 (hq_180 S 10 1) i1.toNatClampNeg 10).1]) rfl rfl ?_
        refine hp_ic (pc' := 75) rfl rfl (fun h5 => ?_) (fun h5 => ?_)
        · refine hp_sN [83] (pc' := 83) (L' := [some (.ref 0), some (.int i1), some (.int (hq_52 S i1)), some (.ref (29 + 2 * i1.toNatClampNeg)), some (.int (hq_211 (hq_180 S 10 1) i1.toNatClampNeg 10).1)]) (st' := [.ref 0]) rfl rfl ?_
          refine hp_gf (pc' := 86) rfl (by decide) (hp_c0 X _) rfl rfl ?_
          refine hp_sN [87] (pc' := 87) (L' := [some (.ref 0), some (.int i1), some (.int (hq_52 S i1)), some (.ref (29 + 2 * i1.toNatClampNeg)), some (.int (hq_211 (hq_180 S 10 1) i1.toNatClampNeg 10).1)]) (st' := [.ref 0, .ref 1]) rfl rfl ?_
          refine hp_gf (pc' := 90) rfl (by decide) (hp_c0 X _) rfl rfl ?_
          refine hp_iv (virt := true) (pc' := 93) (rv := none) (M1 := hp_mem X (hq_180 ((hq_211 (hq_180 S 10 1) i1.toNatClampNeg 10).2) 1 10)) rfl rfl (by decide) (hk_180 (Or.inl rfl) (Or.inr (Or.inl rfl)) ((hq_211 (hq_180 S 10 1) i1.toNatClampNeg 10).2)) rfl rfl ?_
          show hp_T _ 0 93 _ [] _ _ _
          refine hp_sN [94] (pc' := 94) (L' := [some (.ref 0), some (.int i1), some (.int (hq_52 S i1)), some (.ref (29 + 2 * i1.toNatClampNeg)), some (.int (hq_211 (hq_180 S 10 1) i1.toNatClampNeg 10).1)]) (st' := [.ref (29 + 2 * i1.toNatClampNeg)]) rfl rfl ?_
          refine hp_iv (virt := false) (pc' := 97) (rv := some (.int (hq_210 (hq_180 ((hq_211 (hq_180 S 10 1) i1.toNatClampNeg 10).2) 1 10) i1.toNatClampNeg))) (M1 := hp_mem X (hq_180 ((hq_211 (hq_180 S 10 1) i1.toNatClampNeg 10).2) 1 10)) rfl rfl (by decide) (hk_210 h2 (hq_180 ((hq_211 (hq_180 S 10 1) i1.toNatClampNeg 10).2) 1 10)) rfl rfl ?_
          show hp_T _ 0 97 _ [.int (hq_210 (hq_180 ((hq_211 (hq_180 S 10 1) i1.toNatClampNeg 10).2) 1 10) i1.toNatClampNeg)] _ _ _
          exact hp_Ris rfl
        · refine hp_sN [78, 80, 81] (pc' := 81) (L' := [some (.ref 0), some (.int i1), some (.int (hq_52 S i1)), some (.ref (29 + 2 * i1.toNatClampNeg)), some (.int (hq_211 (hq_180 S 10 1) i1.toNatClampNeg 10).1)]) (st' := [.int ((Int32.ofInt (-2000)) - (hq_211 (hq_180 S 10 1) i1.toNatClampNeg 10).1)]) rfl rfl ?_
          exact hp_Ris rfl
      · refine hp_sN [44, 46, 47] (pc' := 47) (L' := [some (.ref 0), some (.int i1), some (.int (hq_52 S i1)), some (.ref (29 + 2 * i1.toNatClampNeg)), some (.int (hq_209 S i1.toNatClampNeg))]) (st' := [.int ((Int32.ofInt (-1000)) - (hq_209 S i1.toNatClampNeg))]) rfl rfl ?_
        exact hp_Ris rfl
    · refine hp_sN [28] (pc' := 28) (L' := [some (.ref 0), some (.int i1), some (.int (hq_52 S i1)), some (.ref (29 + 2 * i1.toNatClampNeg)), none]) (st' := [.int (Int32.ofInt (-12))]) rfl rfl ?_
      exact hp_Ris rfl
  · refine hp_sN [11] (pc' := 11) (L' := [some (.ref 0), some (.int i1), some (.int (hq_52 S i1)), none, none]) (st' := [.int (hq_52 S i1)]) rfl rfl ?_
    exact hp_Ris rfl
theorem hk_0 {X : hp_X} (S : hp_S) (i1 : Int32) : hp_K 0 [.ref 0, .int i1] (hp_mem X S) (hp_is X) (hq_0 S i1) := by
  refine hp_mk (q := hzq_0) rfl (by decide) (L := [some (.ref 0), some (.int i1), none, none, none]) rfl (fun n => ?_)
  exact ht_0 S i1 n
/-! 186: HatsOfTheWind$Street.placeOf(I)I -/
def hq_186 (S : hp_S) (b : Nat) (i1 : Int32) : Int32 := (if hz_cmp .eq (hq_181 S b (S (b + 7) i1.toNatClampNeg)) 0 = true then (S (b + 8) i1.toNatClampNeg) else (S (b + 2) (S (b + 7) i1.toNatClampNeg).toNatClampNeg))
set_option maxRecDepth 10000 in
theorem ht_186 {X : hp_X} {b : Nat} (hb : hp_b b) (S : hp_S) (i1 : Int32) (n : Nat) : hp_T n 186 0 [some (.ref b), some (.int i1)] [] (hp_mem X S) (hp_i X S) (hq_186 S b i1) := by
  unfold hq_186
  refine hp_sN [1, 2] (pc' := 2) (L' := [some (.ref b), some (.int i1)]) (st' := [.ref b, .ref b]) rfl rfl ?_
  refine hp_gf (pc' := 5) rfl (hp_bl hb 0 (by decide)) (hp_b0 hb X _) rfl rfl ?_
  refine hp_sN [6] (pc' := 6) (L' := [some (.ref b), some (.int i1)]) (st' := [.int i1, .ref (b + 7), .ref b]) rfl rfl ?_
  refine hp_al (pc' := 7) rfl (hp_bl hb 7 (by decide)) (hp_b7 hb X _) rfl ?_
  refine hp_iv (virt := true) (pc' := 10) (rv := some (.int (hq_181 S b (S (b + 7) i1.toNatClampNeg)))) (M1 := hp_mem X (S)) rfl rfl (by decide) (hk_181 hb S ((S (b + 7) i1.toNatClampNeg))) rfl rfl ?_
  show hp_T _ 186 10 _ [.int (hq_181 S b (S (b + 7) i1.toNatClampNeg))] _ _ _
  refine hp_if (pc' := 13) rfl rfl (fun h1 => ?_) (fun h1 => ?_)
  · refine hp_sN [28] (pc' := 28) (L' := [some (.ref b), some (.int i1)]) (st' := [.ref b]) rfl rfl ?_
    refine hp_gf (pc' := 31) rfl (hp_bl hb 0 (by decide)) (hp_b0 hb X _) rfl rfl ?_
    refine hp_sN [32] (pc' := 32) (L' := [some (.ref b), some (.int i1)]) (st' := [.int i1, .ref (b + 8)]) rfl rfl ?_
    refine hp_al (pc' := 33) rfl (hp_bl hb 8 (by decide)) (hp_b8 hb X _) rfl ?_
    exact hp_Ri rfl
  · refine hp_sN [14] (pc' := 14) (L' := [some (.ref b), some (.int i1)]) (st' := [.ref b]) rfl rfl ?_
    refine hp_gf (pc' := 17) rfl (hp_bl hb 0 (by decide)) (hp_b0 hb X _) rfl rfl ?_
    refine hp_sN [18] (pc' := 18) (L' := [some (.ref b), some (.int i1)]) (st' := [.ref b, .ref (b + 2)]) rfl rfl ?_
    refine hp_gf (pc' := 21) rfl (hp_bl hb 0 (by decide)) (hp_b0 hb X _) rfl rfl ?_
    refine hp_sN [22] (pc' := 22) (L' := [some (.ref b), some (.int i1)]) (st' := [.int i1, .ref (b + 7), .ref (b + 2)]) rfl rfl ?_
    refine hp_al (pc' := 23) rfl (hp_bl hb 7 (by decide)) (hp_b7 hb X _) rfl ?_
    refine hp_al (pc' := 24) rfl (hp_bl hb 2 (by decide)) (hp_b2 hb X _) rfl ?_
    refine hp_sN [33] (pc' := 33) (L' := [some (.ref b), some (.int i1)]) (st' := [.int (S (b + 2) (S (b + 7) i1.toNatClampNeg).toNatClampNeg)]) rfl rfl ?_
    exact hp_Ri rfl
theorem hk_186 {X : hp_X} {b : Nat} (hb : hp_b b) (S : hp_S) (i1 : Int32) : hp_K 186 [.ref b, .int i1] (hp_mem X S) (hp_i X S) (hq_186 S b i1) := by
  refine hp_mk (q := hzq_186) rfl (by decide) (L := [some (.ref b), some (.int i1)]) rfl (fun n => ?_)
  exact ht_186 hb S i1 n
/-! 169: HatsOfTheWind$Kinds.worth(II)I -/
def hq_169 (S : hp_S) (i1 : Int32) (i2 : Int32) : Int32 := (if i1 = (Int32.ofInt 1) then (Int32.ofInt 3) else (if i1 = (Int32.ofInt 2) then ((Int32.ofInt 5) + i2) else (if i1 = (Int32.ofInt 3) then (Int32.ofInt 1) else (if i1 = (Int32.ofInt 4) then (Int32.ofInt 6) else (if i1 = (Int32.ofInt 5) then (((Int32.ofInt 5) + i2) + (Int32.ofInt 9)) else (if i1 = (Int32.ofInt 6) then i2 else (Int32.ofInt 2)))))))
set_option maxRecDepth 10000 in
theorem ht_169 {X : hp_X} (S : hp_S) (i1 : Int32) (i2 : Int32) (n : Nat) : hp_T n 169 0 [some (.int i1), some (.int i2), none] [] (hp_mem X S) (hp_i X S) (hq_169 S i1 i2) := by
  unfold hq_169
  refine hp_sN [1, 2, 3, 4, 5] (pc' := 5) (L' := [some (.int i1), some (.int i2), some (.int ((Int32.ofInt 5) + i2))]) (st' := [.int i1]) rfl rfl ?_
  refine hp_st (c := 1) (t := 44) rfl (by decide) (by decide) rfl (fun h1 => ?_) (fun h2 => ?_)
  · refine hp_sN [45] (pc' := 45) (L' := [some (.int i1), some (.int i2), some (.int ((Int32.ofInt 5) + i2))]) (st' := [.int (Int32.ofInt 3)]) rfl rfl ?_
    exact hp_Ri rfl
  refine hp_st (c := 2) (t := 46) rfl (by decide) (by decide) rfl (fun h3 => ?_) (fun h4 => ?_)
  · refine hp_sN [47] (pc' := 47) (L' := [some (.int i1), some (.int i2), some (.int ((Int32.ofInt 5) + i2))]) (st' := [.int ((Int32.ofInt 5) + i2)]) rfl rfl ?_
    exact hp_Ri rfl
  refine hp_st (c := 3) (t := 48) rfl (by decide) (by decide) rfl (fun h5 => ?_) (fun h6 => ?_)
  · refine hp_sN [49] (pc' := 49) (L' := [some (.int i1), some (.int i2), some (.int ((Int32.ofInt 5) + i2))]) (st' := [.int (Int32.ofInt 1)]) rfl rfl ?_
    exact hp_Ri rfl
  refine hp_st (c := 4) (t := 50) rfl (by decide) (by decide) rfl (fun h7 => ?_) (fun h8 => ?_)
  · refine hp_sN [52] (pc' := 52) (L' := [some (.int i1), some (.int i2), some (.int ((Int32.ofInt 5) + i2))]) (st' := [.int (Int32.ofInt 6)]) rfl rfl ?_
    exact hp_Ri rfl
  refine hp_st (c := 5) (t := 53) rfl (by decide) (by decide) rfl (fun h9 => ?_) (fun h10 => ?_)
  · refine hp_sN [54, 56, 57] (pc' := 57) (L' := [some (.int i1), some (.int i2), some (.int ((Int32.ofInt 5) + i2))]) (st' := [.int (((Int32.ofInt 5) + i2) + (Int32.ofInt 9))]) rfl rfl ?_
    exact hp_Ri rfl
  refine hp_st (c := 6) (t := 58) rfl (by decide) (by decide) rfl (fun h11 => ?_) (fun h12 => ?_)
  · refine hp_sN [59] (pc' := 59) (L' := [some (.int i1), some (.int i2), some (.int ((Int32.ofInt 5) + i2))]) (st' := [.int i2]) rfl rfl ?_
    exact hp_Ri rfl
  refine hp_td (t := 60) [1, 2, 3, 4, 5, 6] rfl rfl rfl (by decide) (fun c q => ?_) ?_
  · simp only [List.mem_cons, List.not_mem_nil, or_false] at q
    omega
  refine hp_sN [61] (pc' := 61) (L' := [some (.int i1), some (.int i2), some (.int ((Int32.ofInt 5) + i2))]) (st' := [.int (Int32.ofInt 2)]) rfl rfl ?_
  exact hp_Ri rfl
theorem hk_169 {X : hp_X} (S : hp_S) (i1 : Int32) (i2 : Int32) : hp_K 169 [.int i1, .int i2] (hp_mem X S) (hp_i X S) (hq_169 S i1 i2) := by
  refine hp_mk (q := hzq_169) rfl (by decide) (L := [some (.int i1), some (.int i2), none]) rfl (fun n => ?_)
  exact ht_169 S i1 i2 n
/-! 1: HatsOfTheWind.hat(II)I -/
def hq_1 (S : hp_S) (i1 : Int32) (i2 : Int32) : Int32 := (if hz_cmp .ne (hq_182 S 1 i1) 0 = true then (if i2 = (Int32.ofInt 0) then (S (1 + 5) i1.toNatClampNeg) else (if i2 = (Int32.ofInt 1) then (S (1 + 6) i1.toNatClampNeg) else (if i2 = (Int32.ofInt 2) then (S (1 + 7) i1.toNatClampNeg) else (if i2 = (Int32.ofInt 3) then (hq_186 S 1 i1) else (if i2 = (Int32.ofInt 4) then (hq_167 S (S (1 + 5) i1.toNatClampNeg) (S (1 + 6) i1.toNatClampNeg)) else (if i2 = (Int32.ofInt 5) then (hq_169 S (S (1 + 5) i1.toNatClampNeg) (S (1 + 6) i1.toNatClampNeg)) else (Int32.ofInt (-1)))))))) else (Int32.ofInt (-1)))
set_option maxRecDepth 10000 in
theorem ht_1 {X : hp_X} (S : hp_S) (i1 : Int32) (i2 : Int32) (n : Nat) : hp_T n 1 0 [some (.ref 0), some (.int i1), some (.int i2)] [] (hp_mem X S) (hp_i X S) (hq_1 S i1 i2) := by
  unfold hq_1
  refine hp_sN [1] (pc' := 1) (L' := [some (.ref 0), some (.int i1), some (.int i2)]) (st' := [.ref 0]) rfl rfl ?_
  refine hp_gf (pc' := 4) rfl (by decide) (hp_c0 X _) rfl rfl ?_
  refine hp_sN [5] (pc' := 5) (L' := [some (.ref 0), some (.int i1), some (.int i2)]) (st' := [.int i1, .ref 1]) rfl rfl ?_
  refine hp_iv (virt := true) (pc' := 8) (rv := some (.int (hq_182 S 1 i1))) (M1 := hp_mem X (S)) rfl rfl (by decide) (hk_182 (Or.inl rfl) S (i1)) rfl rfl ?_
  show hp_T _ 1 8 _ [.int (hq_182 S 1 i1)] _ _ _
  refine hp_if (pc' := 11) rfl rfl (fun h1 => ?_) (fun h1 => ?_)
  · refine hp_sN [14] (pc' := 14) (L' := [some (.ref 0), some (.int i1), some (.int i2)]) (st' := [.int i2]) rfl rfl ?_
    refine hp_st (c := 0) (t := 52) rfl (by decide) (by decide) rfl (fun h2 => ?_) (fun h3 => ?_)
    · refine hp_sN [53] (pc' := 53) (L' := [some (.ref 0), some (.int i1), some (.int i2)]) (st' := [.ref 0]) rfl rfl ?_
      refine hp_gf (pc' := 56) rfl (by decide) (hp_c0 X _) rfl rfl ?_
      refine hp_gf (pc' := 59) rfl (hp_bl (Or.inl rfl) 0 (by decide)) (hp_b0 (Or.inl rfl) X _) rfl rfl ?_
      refine hp_sN [60] (pc' := 60) (L' := [some (.ref 0), some (.int i1), some (.int i2)]) (st' := [.int i1, .ref (1 + 5)]) rfl rfl ?_
      refine hp_al (pc' := 61) rfl (hp_bl (Or.inl rfl) 5 (by decide)) (hp_b5 (Or.inl rfl) X _) rfl ?_
      exact hp_Ri rfl
    refine hp_st (c := 1) (t := 62) rfl (by decide) (by decide) rfl (fun h4 => ?_) (fun h5 => ?_)
    · refine hp_sN [63] (pc' := 63) (L' := [some (.ref 0), some (.int i1), some (.int i2)]) (st' := [.ref 0]) rfl rfl ?_
      refine hp_gf (pc' := 66) rfl (by decide) (hp_c0 X _) rfl rfl ?_
      refine hp_gf (pc' := 69) rfl (hp_bl (Or.inl rfl) 0 (by decide)) (hp_b0 (Or.inl rfl) X _) rfl rfl ?_
      refine hp_sN [70] (pc' := 70) (L' := [some (.ref 0), some (.int i1), some (.int i2)]) (st' := [.int i1, .ref (1 + 6)]) rfl rfl ?_
      refine hp_al (pc' := 71) rfl (hp_bl (Or.inl rfl) 6 (by decide)) (hp_b6 (Or.inl rfl) X _) rfl ?_
      exact hp_Ri rfl
    refine hp_st (c := 2) (t := 72) rfl (by decide) (by decide) rfl (fun h6 => ?_) (fun h7 => ?_)
    · refine hp_sN [73] (pc' := 73) (L' := [some (.ref 0), some (.int i1), some (.int i2)]) (st' := [.ref 0]) rfl rfl ?_
      refine hp_gf (pc' := 76) rfl (by decide) (hp_c0 X _) rfl rfl ?_
      refine hp_gf (pc' := 79) rfl (hp_bl (Or.inl rfl) 0 (by decide)) (hp_b0 (Or.inl rfl) X _) rfl rfl ?_
      refine hp_sN [80] (pc' := 80) (L' := [some (.ref 0), some (.int i1), some (.int i2)]) (st' := [.int i1, .ref (1 + 7)]) rfl rfl ?_
      refine hp_al (pc' := 81) rfl (hp_bl (Or.inl rfl) 7 (by decide)) (hp_b7 (Or.inl rfl) X _) rfl ?_
      exact hp_Ri rfl
    refine hp_st (c := 3) (t := 82) rfl (by decide) (by decide) rfl (fun h8 => ?_) (fun h9 => ?_)
    · refine hp_sN [83] (pc' := 83) (L' := [some (.ref 0), some (.int i1), some (.int i2)]) (st' := [.ref 0]) rfl rfl ?_
      refine hp_gf (pc' := 86) rfl (by decide) (hp_c0 X _) rfl rfl ?_
      refine hp_sN [87] (pc' := 87) (L' := [some (.ref 0), some (.int i1), some (.int i2)]) (st' := [.int i1, .ref 1]) rfl rfl ?_
      refine hp_iv (virt := true) (pc' := 90) (rv := some (.int (hq_186 S 1 i1))) (M1 := hp_mem X (S)) rfl rfl (by decide) (hk_186 (Or.inl rfl) S (i1)) rfl rfl ?_
      show hp_T _ 1 90 _ [.int (hq_186 S 1 i1)] _ _ _
      exact hp_Ri rfl
    refine hp_st (c := 4) (t := 91) rfl (by decide) (by decide) rfl (fun h10 => ?_) (fun h11 => ?_)
    · refine hp_sN [92] (pc' := 92) (L' := [some (.ref 0), some (.int i1), some (.int i2)]) (st' := [.ref 0]) rfl rfl ?_
      refine hp_gf (pc' := 95) rfl (by decide) (hp_c0 X _) rfl rfl ?_
      refine hp_gf (pc' := 98) rfl (hp_bl (Or.inl rfl) 0 (by decide)) (hp_b0 (Or.inl rfl) X _) rfl rfl ?_
      refine hp_sN [99] (pc' := 99) (L' := [some (.ref 0), some (.int i1), some (.int i2)]) (st' := [.int i1, .ref (1 + 5)]) rfl rfl ?_
      refine hp_al (pc' := 100) rfl (hp_bl (Or.inl rfl) 5 (by decide)) (hp_b5 (Or.inl rfl) X _) rfl ?_
      refine hp_sN [101] (pc' := 101) (L' := [some (.ref 0), some (.int i1), some (.int i2)]) (st' := [.ref 0, .int (S (1 + 5) i1.toNatClampNeg)]) rfl rfl ?_
      refine hp_gf (pc' := 104) rfl (by decide) (hp_c0 X _) rfl rfl ?_
      refine hp_gf (pc' := 107) rfl (hp_bl (Or.inl rfl) 0 (by decide)) (hp_b0 (Or.inl rfl) X _) rfl rfl ?_
      refine hp_sN [108] (pc' := 108) (L' := [some (.ref 0), some (.int i1), some (.int i2)]) (st' := [.int i1, .ref (1 + 6), .int (S (1 + 5) i1.toNatClampNeg)]) rfl rfl ?_
      refine hp_al (pc' := 109) rfl (hp_bl (Or.inl rfl) 6 (by decide)) (hp_b6 (Or.inl rfl) X _) rfl ?_
      refine hp_iv (virt := false) (pc' := 112) (rv := some (.int (hq_167 S (S (1 + 5) i1.toNatClampNeg) (S (1 + 6) i1.toNatClampNeg)))) (M1 := hp_mem X (S)) rfl rfl (by decide) (hk_167 S ((S (1 + 5) i1.toNatClampNeg)) ((S (1 + 6) i1.toNatClampNeg))) rfl rfl ?_
      show hp_T _ 1 112 _ [.int (hq_167 S (S (1 + 5) i1.toNatClampNeg) (S (1 + 6) i1.toNatClampNeg))] _ _ _
      exact hp_Ri rfl
    refine hp_st (c := 5) (t := 113) rfl (by decide) (by decide) rfl (fun h12 => ?_) (fun h13 => ?_)
    · refine hp_sN [114] (pc' := 114) (L' := [some (.ref 0), some (.int i1), some (.int i2)]) (st' := [.ref 0]) rfl rfl ?_
      refine hp_gf (pc' := 117) rfl (by decide) (hp_c0 X _) rfl rfl ?_
      refine hp_gf (pc' := 120) rfl (hp_bl (Or.inl rfl) 0 (by decide)) (hp_b0 (Or.inl rfl) X _) rfl rfl ?_
      refine hp_sN [121] (pc' := 121) (L' := [some (.ref 0), some (.int i1), some (.int i2)]) (st' := [.int i1, .ref (1 + 5)]) rfl rfl ?_
      refine hp_al (pc' := 122) rfl (hp_bl (Or.inl rfl) 5 (by decide)) (hp_b5 (Or.inl rfl) X _) rfl ?_
      refine hp_sN [123] (pc' := 123) (L' := [some (.ref 0), some (.int i1), some (.int i2)]) (st' := [.ref 0, .int (S (1 + 5) i1.toNatClampNeg)]) rfl rfl ?_
      refine hp_gf (pc' := 126) rfl (by decide) (hp_c0 X _) rfl rfl ?_
      refine hp_gf (pc' := 129) rfl (hp_bl (Or.inl rfl) 0 (by decide)) (hp_b0 (Or.inl rfl) X _) rfl rfl ?_
      refine hp_sN [130] (pc' := 130) (L' := [some (.ref 0), some (.int i1), some (.int i2)]) (st' := [.int i1, .ref (1 + 6), .int (S (1 + 5) i1.toNatClampNeg)]) rfl rfl ?_
      refine hp_al (pc' := 131) rfl (hp_bl (Or.inl rfl) 6 (by decide)) (hp_b6 (Or.inl rfl) X _) rfl ?_
      refine hp_iv (virt := false) (pc' := 134) (rv := some (.int (hq_169 S (S (1 + 5) i1.toNatClampNeg) (S (1 + 6) i1.toNatClampNeg)))) (M1 := hp_mem X (S)) rfl rfl (by decide) (hk_169 S ((S (1 + 5) i1.toNatClampNeg)) ((S (1 + 6) i1.toNatClampNeg))) rfl rfl ?_
      show hp_T _ 1 134 _ [.int (hq_169 S (S (1 + 5) i1.toNatClampNeg) (S (1 + 6) i1.toNatClampNeg))] _ _ _
      exact hp_Ri rfl
    refine hp_td (t := 135) [0, 1, 2, 3, 4, 5] rfl rfl rfl (by decide) (fun c q => ?_) ?_
    · simp only [List.mem_cons, List.not_mem_nil, or_false] at q
      omega
    refine hp_sN [136] (pc' := 136) (L' := [some (.ref 0), some (.int i1), some (.int i2)]) (st' := [.int (Int32.ofInt (-1))]) rfl rfl ?_
    exact hp_Ri rfl
  · refine hp_sN [12] (pc' := 12) (L' := [some (.ref 0), some (.int i1), some (.int i2)]) (st' := [.int (Int32.ofInt (-1))]) rfl rfl ?_
    exact hp_Ri rfl
theorem hk_1 {X : hp_X} (S : hp_S) (i1 : Int32) (i2 : Int32) : hp_K 1 [.ref 0, .int i1, .int i2] (hp_mem X S) (hp_i X S) (hq_1 S i1 i2) := by
  refine hp_mk (q := hzq_1) rfl (by decide) (L := [some (.ref 0), some (.int i1), some (.int i2)]) rfl (fun n => ?_)
  exact ht_1 S i1 i2 n
/-! 2: HatsOfTheWind.person(II)I -/
def hq_2 (S : hp_S) (i1 : Int32) (i2 : Int32) : Int32 := (if hz_cmp .ne (hq_181 S 1 i1) 0 = true then (if i2 = (Int32.ofInt 0) then (S (1 + 2) i1.toNatClampNeg) else (if i2 = (Int32.ofInt 1) then (S (1 + 3) i1.toNatClampNeg) else (if i2 = (Int32.ofInt 2) then (S (1 + 4) i1.toNatClampNeg) else (if i2 = (Int32.ofInt 3) then (hq_187 S 1 i1) else (Int32.ofInt (-1)))))) else (Int32.ofInt (-1)))
set_option maxRecDepth 10000 in
theorem ht_2 {X : hp_X} (S : hp_S) (i1 : Int32) (i2 : Int32) (n : Nat) : hp_T n 2 0 [some (.ref 0), some (.int i1), some (.int i2)] [] (hp_mem X S) (hp_i X S) (hq_2 S i1 i2) := by
  unfold hq_2
  refine hp_sN [1] (pc' := 1) (L' := [some (.ref 0), some (.int i1), some (.int i2)]) (st' := [.ref 0]) rfl rfl ?_
  refine hp_gf (pc' := 4) rfl (by decide) (hp_c0 X _) rfl rfl ?_
  refine hp_sN [5] (pc' := 5) (L' := [some (.ref 0), some (.int i1), some (.int i2)]) (st' := [.int i1, .ref 1]) rfl rfl ?_
  refine hp_iv (virt := true) (pc' := 8) (rv := some (.int (hq_181 S 1 i1))) (M1 := hp_mem X (S)) rfl rfl (by decide) (hk_181 (Or.inl rfl) S (i1)) rfl rfl ?_
  show hp_T _ 2 8 _ [.int (hq_181 S 1 i1)] _ _ _
  refine hp_if (pc' := 11) rfl rfl (fun h1 => ?_) (fun h1 => ?_)
  · refine hp_sN [14] (pc' := 14) (L' := [some (.ref 0), some (.int i1), some (.int i2)]) (st' := [.int i2]) rfl rfl ?_
    refine hp_st (c := 0) (t := 44) rfl (by decide) (by decide) rfl (fun h2 => ?_) (fun h3 => ?_)
    · refine hp_sN [45] (pc' := 45) (L' := [some (.ref 0), some (.int i1), some (.int i2)]) (st' := [.ref 0]) rfl rfl ?_
      refine hp_gf (pc' := 48) rfl (by decide) (hp_c0 X _) rfl rfl ?_
      refine hp_gf (pc' := 51) rfl (hp_bl (Or.inl rfl) 0 (by decide)) (hp_b0 (Or.inl rfl) X _) rfl rfl ?_
      refine hp_sN [52] (pc' := 52) (L' := [some (.ref 0), some (.int i1), some (.int i2)]) (st' := [.int i1, .ref (1 + 2)]) rfl rfl ?_
      refine hp_al (pc' := 53) rfl (hp_bl (Or.inl rfl) 2 (by decide)) (hp_b2 (Or.inl rfl) X _) rfl ?_
      exact hp_Ri rfl
    refine hp_st (c := 1) (t := 54) rfl (by decide) (by decide) rfl (fun h4 => ?_) (fun h5 => ?_)
    · refine hp_sN [55] (pc' := 55) (L' := [some (.ref 0), some (.int i1), some (.int i2)]) (st' := [.ref 0]) rfl rfl ?_
      refine hp_gf (pc' := 58) rfl (by decide) (hp_c0 X _) rfl rfl ?_
      refine hp_gf (pc' := 61) rfl (hp_bl (Or.inl rfl) 0 (by decide)) (hp_b0 (Or.inl rfl) X _) rfl rfl ?_
      refine hp_sN [62] (pc' := 62) (L' := [some (.ref 0), some (.int i1), some (.int i2)]) (st' := [.int i1, .ref (1 + 3)]) rfl rfl ?_
      refine hp_al (pc' := 63) rfl (hp_bl (Or.inl rfl) 3 (by decide)) (hp_b3 (Or.inl rfl) X _) rfl ?_
      exact hp_Ri rfl
    refine hp_st (c := 2) (t := 64) rfl (by decide) (by decide) rfl (fun h6 => ?_) (fun h7 => ?_)
    · refine hp_sN [65] (pc' := 65) (L' := [some (.ref 0), some (.int i1), some (.int i2)]) (st' := [.ref 0]) rfl rfl ?_
      refine hp_gf (pc' := 68) rfl (by decide) (hp_c0 X _) rfl rfl ?_
      refine hp_gf (pc' := 71) rfl (hp_bl (Or.inl rfl) 0 (by decide)) (hp_b0 (Or.inl rfl) X _) rfl rfl ?_
      refine hp_sN [72] (pc' := 72) (L' := [some (.ref 0), some (.int i1), some (.int i2)]) (st' := [.int i1, .ref (1 + 4)]) rfl rfl ?_
      refine hp_al (pc' := 73) rfl (hp_bl (Or.inl rfl) 4 (by decide)) (hp_b4 (Or.inl rfl) X _) rfl ?_
      exact hp_Ri rfl
    refine hp_st (c := 3) (t := 74) rfl (by decide) (by decide) rfl (fun h8 => ?_) (fun h9 => ?_)
    · refine hp_sN [75] (pc' := 75) (L' := [some (.ref 0), some (.int i1), some (.int i2)]) (st' := [.ref 0]) rfl rfl ?_
      refine hp_gf (pc' := 78) rfl (by decide) (hp_c0 X _) rfl rfl ?_
      refine hp_sN [79] (pc' := 79) (L' := [some (.ref 0), some (.int i1), some (.int i2)]) (st' := [.int i1, .ref 1]) rfl rfl ?_
      refine hp_iv (virt := true) (pc' := 82) (rv := some (.int (hq_187 S 1 i1))) (M1 := hp_mem X (S)) rfl rfl (by decide) (hk_187 (Or.inl rfl) S (i1)) rfl rfl ?_
      show hp_T _ 2 82 _ [.int (hq_187 S 1 i1)] _ _ _
      exact hp_Ri rfl
    refine hp_td (t := 83) [0, 1, 2, 3] rfl rfl rfl (by decide) (fun c q => ?_) ?_
    · simp only [List.mem_cons, List.not_mem_nil, or_false] at q
      omega
    refine hp_sN [84] (pc' := 84) (L' := [some (.ref 0), some (.int i1), some (.int i2)]) (st' := [.int (Int32.ofInt (-1))]) rfl rfl ?_
    exact hp_Ri rfl
  · refine hp_sN [12] (pc' := 12) (L' := [some (.ref 0), some (.int i1), some (.int i2)]) (st' := [.int (Int32.ofInt (-1))]) rfl rfl ?_
    exact hp_Ri rfl
theorem hk_2 {X : hp_X} (S : hp_S) (i1 : Int32) (i2 : Int32) : hp_K 2 [.ref 0, .int i1, .int i2] (hp_mem X S) (hp_i X S) (hq_2 S i1 i2) := by
  refine hp_mk (q := hzq_2) rfl (by decide) (L := [some (.ref 0), some (.int i1), some (.int i2)]) rfl (fun n => ?_)
  exact ht_2 S i1 i2 n
/-! 3: HatsOfTheWind.wind(I)I -/
def hq_3 (S : hp_S) (i1 : Int32) : Int32 := (if hz_cmp .eq (hq_47 S i1) 0 = true then (Int32.ofInt (-1)) else (S (1 + 1) i1.toNatClampNeg))
set_option maxRecDepth 10000 in
theorem ht_3 {X : hp_X} (S : hp_S) (i1 : Int32) (n : Nat) : hp_T n 3 0 [some (.ref 0), some (.int i1)] [] (hp_mem X S) (hp_i X S) (hq_3 S i1) := by
  unfold hq_3
  refine hp_sN [1] (pc' := 1) (L' := [some (.ref 0), some (.int i1)]) (st' := [.int i1]) rfl rfl ?_
  refine hp_iv (virt := false) (pc' := 4) (rv := some (.int (hq_47 S i1))) (M1 := hp_mem X (S)) rfl rfl (by decide) (hk_47 S (i1)) rfl rfl ?_
  show hp_T _ 3 4 _ [.int (hq_47 S i1)] _ _ _
  refine hp_if (pc' := 7) rfl rfl (fun h1 => ?_) (fun h1 => ?_)
  · refine hp_sN [20] (pc' := 20) (L' := [some (.ref 0), some (.int i1)]) (st' := [.int (Int32.ofInt (-1))]) rfl rfl ?_
    exact hp_Ri rfl
  · refine hp_sN [8] (pc' := 8) (L' := [some (.ref 0), some (.int i1)]) (st' := [.ref 0]) rfl rfl ?_
    refine hp_gf (pc' := 11) rfl (by decide) (hp_c0 X _) rfl rfl ?_
    refine hp_gf (pc' := 14) rfl (hp_bl (Or.inl rfl) 0 (by decide)) (hp_b0 (Or.inl rfl) X _) rfl rfl ?_
    refine hp_sN [15] (pc' := 15) (L' := [some (.ref 0), some (.int i1)]) (st' := [.int i1, .ref (1 + 1)]) rfl rfl ?_
    refine hp_al (pc' := 16) rfl (hp_bl (Or.inl rfl) 1 (by decide)) (hp_b1 (Or.inl rfl) X _) rfl ?_
    refine hp_sN [20] (pc' := 20) (L' := [some (.ref 0), some (.int i1)]) (st' := [.int (S (1 + 1) i1.toNatClampNeg)]) rfl rfl ?_
    exact hp_Ri rfl
theorem hk_3 {X : hp_X} (S : hp_S) (i1 : Int32) : hp_K 3 [.ref 0, .int i1] (hp_mem X S) (hp_i X S) (hq_3 S i1) := by
  refine hp_mk (q := hzq_3) rfl (by decide) (L := [some (.ref 0), some (.int i1)]) rfl (fun n => ?_)
  exact ht_3 S i1 n
/-! 4: HatsOfTheWind.comes(II)I -/
def hq_4 (S : hp_S) (i1 : Int32) (i2 : Int32) : Int32 × hp_S := ((hq_192 S 1 i1 i2).1, (hq_192 S 1 i1 i2).2)
theorem hf_4 (S : hp_S) (i1 : Int32) (i2 : Int32) (j : Nat) (z0 : j ≠ (1 + 2)) (z1 : j ≠ (1 + 3)) (z2 : j ≠ (1 + 4)) (z3 : j ≠ 1) : (hq_4 S i1 i2).2 j = S j := by
  unfold hq_4
  repeat' split
  all_goals simp [hp_wo, hp_wgo, hp_cpo, hf_192, z0, z1, z2, z3]
set_option maxRecDepth 10000 in
theorem ht_4 {X : hp_X} (S : hp_S) (i1 : Int32) (i2 : Int32) (n : Nat) : hp_T n 4 0 [some (.ref 0), some (.int i1), some (.int i2)] [] (hp_mem X S) (hp_is X) (hq_4 S i1 i2) := by
  unfold hq_4
  refine hp_sN [1] (pc' := 1) (L' := [some (.ref 0), some (.int i1), some (.int i2)]) (st' := [.ref 0]) rfl rfl ?_
  refine hp_gf (pc' := 4) rfl (by decide) (hp_c0 X _) rfl rfl ?_
  refine hp_sN [5, 6] (pc' := 6) (L' := [some (.ref 0), some (.int i1), some (.int i2)]) (st' := [.int i2, .int i1, .ref 1]) rfl rfl ?_
  refine hp_iv (virt := true) (pc' := 9) (rv := some (.int (hq_192 S 1 i1 i2).1)) (M1 := hp_mem X ((hq_192 S 1 i1 i2).2)) rfl rfl (by decide) (hk_192 (Or.inl rfl) S (i1) (i2)) rfl rfl ?_
  show hp_T _ 4 9 _ [.int (hq_192 S 1 i1 i2).1] _ _ _
  exact hp_Ris rfl
theorem hk_4 {X : hp_X} (S : hp_S) (i1 : Int32) (i2 : Int32) : hp_K 4 [.ref 0, .int i1, .int i2] (hp_mem X S) (hp_is X) (hq_4 S i1 i2) := by
  refine hp_mk (q := hzq_4) rfl (by decide) (L := [some (.ref 0), some (.int i1), some (.int i2)]) rfl (fun n => ?_)
  exact ht_4 S i1 i2 n
/-! 53: HatsOfTheWind.refusalOfHat(I)I -/
def hq_53 (S : hp_S) (i1 : Int32) : Int32 := (hq_54 S i1 (Int32.ofInt 1))
set_option maxRecDepth 10000 in
theorem ht_53 {X : hp_X} (S : hp_S) (i1 : Int32) (n : Nat) : hp_T n 53 0 [some (.ref 0), some (.int i1)] [] (hp_mem X S) (hp_i X S) (hq_53 S i1) := by
  unfold hq_53
  refine hp_sN [1, 2, 3] (pc' := 3) (L' := [some (.ref 0), some (.int i1)]) (st' := [.int (Int32.ofInt 1), .int i1, .ref 0]) rfl rfl ?_
  refine hp_iv (virt := true) (pc' := 6) (rv := some (.int (hq_54 S i1 (Int32.ofInt 1)))) (M1 := hp_mem X (S)) rfl rfl (by decide) (hk_54 S (i1) ((Int32.ofInt 1))) rfl rfl ?_
  show hp_T _ 53 6 _ [.int (hq_54 S i1 (Int32.ofInt 1))] _ _ _
  exact hp_Ri rfl
theorem hk_53 {X : hp_X} (S : hp_S) (i1 : Int32) : hp_K 53 [.ref 0, .int i1] (hp_mem X S) (hp_i X S) (hq_53 S i1) := by
  refine hp_mk (q := hzq_53) rfl (by decide) (L := [some (.ref 0), some (.int i1)]) rfl (fun n => ?_)
  exact ht_53 S i1 n
/-! 5: HatsOfTheWind.wears(II)I -/
def hq_5 (S : hp_S) (i1 : Int32) (i2 : Int32) : Int32 × hp_S := (if hz_cmp .ne (hq_181 S 1 i2) 0 = true then (if hz_cmp .eq (hq_53 S i1) 0 = true then ((hq_193 S 1 (S (29 + 2 * i1.toNatClampNeg) 1) (S (29 + 2 * i1.toNatClampNeg) 2) i2).1, (hq_193 S 1 (S (29 + 2 * i1.toNatClampNeg) 1) (S (29 + 2 * i1.toNatClampNeg) 2) i2).2) else ((hq_53 S i1), S)) else ((Int32.ofInt (-1)), S))
theorem hf_5 (S : hp_S) (i1 : Int32) (i2 : Int32) (j : Nat) (z0 : j ≠ (1 + 5)) (z1 : j ≠ (1 + 6)) (z2 : j ≠ (1 + 7)) (z3 : j ≠ (1 + 8)) (z4 : j ≠ 1) : (hq_5 S i1 i2).2 j = S j := by
  unfold hq_5
  repeat' split
  all_goals simp [hp_wo, hp_wgo, hp_cpo, hf_193, z0, z1, z2, z3, z4]
set_option maxRecDepth 10000 in
theorem ht_5 {X : hp_X} (S : hp_S) (i1 : Int32) (i2 : Int32) (n : Nat) : hp_T n 5 0 [some (.ref 0), some (.int i1), some (.int i2), none] [] (hp_mem X S) (hp_is X) (hq_5 S i1 i2) := by
  unfold hq_5
  refine hp_sN [1] (pc' := 1) (L' := [some (.ref 0), some (.int i1), some (.int i2), none]) (st' := [.ref 0]) rfl rfl ?_
  refine hp_gf (pc' := 4) rfl (by decide) (hp_c0 X _) rfl rfl ?_
  refine hp_sN [5] (pc' := 5) (L' := [some (.ref 0), some (.int i1), some (.int i2), none]) (st' := [.int i2, .ref 1]) rfl rfl ?_
  refine hp_iv (virt := true) (pc' := 8) (rv := some (.int (hq_181 S 1 i2))) (M1 := hp_mem X (S)) rfl rfl (by decide) (hk_181 (Or.inl rfl) S (i2)) rfl rfl ?_
  show hp_T _ 5 8 _ [.int (hq_181 S 1 i2)] _ _ _
  refine hp_if (pc' := 11) rfl rfl (fun h1 => ?_) (fun h1 => ?_)
  · refine hp_sN [14, 15] (pc' := 15) (L' := [some (.ref 0), some (.int i1), some (.int i2), none]) (st' := [.int i1, .ref 0]) rfl rfl ?_
    refine hp_iv (virt := true) (pc' := 18) (rv := some (.int (hq_53 S i1))) (M1 := hp_mem X (S)) rfl rfl (by decide) (hk_53 S (i1)) rfl rfl ?_
    show hp_T _ 5 18 _ [.int (hq_53 S i1)] _ _ _
    refine hp_sN [19, 20] (pc' := 20) (L' := [some (.ref 0), some (.int i1), some (.int i2), some (.int (hq_53 S i1))]) (st' := [.int (hq_53 S i1)]) rfl rfl ?_
    refine hp_if (pc' := 23) rfl rfl (fun h2 => ?_) (fun h2 => ?_)
    · refine hp_sN [26] (pc' := 26) (L' := [some (.ref 0), some (.int i1), some (.int i2), some (.int (hq_53 S i1))]) (st' := [.ref 0]) rfl rfl ?_
      refine hp_gf (pc' := 29) rfl (by decide) (hp_c0 X _) rfl rfl ?_
      refine hp_sN [30] (pc' := 30) (L' := [some (.ref 0), some (.int i1), some (.int i2), some (.int (hq_53 S i1))]) (st' := [.ref 0, .ref 1]) rfl rfl ?_
      refine hp_gf (pc' := 33) rfl (by decide) (hp_c0 X _) rfl rfl ?_
      refine hp_sN [34] (pc' := 34) (L' := [some (.ref 0), some (.int i1), some (.int i2), some (.int (hq_53 S i1))]) (st' := [.int i1, .ref 28, .ref 1]) rfl rfl ?_
      refine hp_aa (pc' := 35) rfl rfl (fun h3 => ?_)
      refine hp_gf (pc' := 38) rfl (hp_sl0 h3) (hp_s0 h3 X _) rfl rfl ?_
      refine hp_sN [39] (pc' := 39) (L' := [some (.ref 0), some (.int i1), some (.int i2), some (.int (hq_53 S i1))]) (st' := [.ref 0, .int (S (29 + 2 * i1.toNatClampNeg) 1), .ref 1]) rfl rfl ?_
      refine hp_gf (pc' := 42) rfl (by decide) (hp_c0 X _) rfl rfl ?_
      refine hp_sN [43] (pc' := 43) (L' := [some (.ref 0), some (.int i1), some (.int i2), some (.int (hq_53 S i1))]) (st' := [.int i1, .ref 28, .int (S (29 + 2 * i1.toNatClampNeg) 1), .ref 1]) rfl rfl ?_
      refine hp_aa (pc' := 44) rfl rfl (fun h4 => ?_)
      refine hp_gf (pc' := 47) rfl (hp_sl0 h4) (hp_s0 h4 X _) rfl rfl ?_
      refine hp_sN [48] (pc' := 48) (L' := [some (.ref 0), some (.int i1), some (.int i2), some (.int (hq_53 S i1))]) (st' := [.int i2, .int (S (29 + 2 * i1.toNatClampNeg) 2), .int (S (29 + 2 * i1.toNatClampNeg) 1), .ref 1]) rfl rfl ?_
      refine hp_iv (virt := true) (pc' := 51) (rv := some (.int (hq_193 S 1 (S (29 + 2 * i1.toNatClampNeg) 1) (S (29 + 2 * i1.toNatClampNeg) 2) i2).1)) (M1 := hp_mem X ((hq_193 S 1 (S (29 + 2 * i1.toNatClampNeg) 1) (S (29 + 2 * i1.toNatClampNeg) 2) i2).2)) rfl rfl (by decide) (hk_193 (Or.inl rfl) S ((S (29 + 2 * i1.toNatClampNeg) 1)) ((S (29 + 2 * i1.toNatClampNeg) 2)) (i2)) rfl rfl ?_
      show hp_T _ 5 51 _ [.int (hq_193 S 1 (S (29 + 2 * i1.toNatClampNeg) 1) (S (29 + 2 * i1.toNatClampNeg) 2) i2).1] _ _ _
      exact hp_Ris rfl
    · refine hp_sN [24] (pc' := 24) (L' := [some (.ref 0), some (.int i1), some (.int i2), some (.int (hq_53 S i1))]) (st' := [.int (hq_53 S i1)]) rfl rfl ?_
      exact hp_Ris rfl
  · refine hp_sN [12] (pc' := 12) (L' := [some (.ref 0), some (.int i1), some (.int i2), none]) (st' := [.int (Int32.ofInt (-1))]) rfl rfl ?_
    exact hp_Ris rfl
theorem hk_5 {X : hp_X} (S : hp_S) (i1 : Int32) (i2 : Int32) : hp_K 5 [.ref 0, .int i1, .int i2] (hp_mem X S) (hp_is X) (hq_5 S i1 i2) := by
  refine hp_mk (q := hzq_5) rfl (by decide) (L := [some (.ref 0), some (.int i1), some (.int i2), none]) rfl (fun n => ?_)
  exact ht_5 S i1 i2 n
/-! 6: HatsOfTheWind.blows(II)I -/
def hq_6 (S : hp_S) (i1 : Int32) (i2 : Int32) : Int32 × hp_S := ((hq_194 S 1 i1 i2).1, (hq_194 S 1 i1 i2).2)
theorem hf_6 (S : hp_S) (i1 : Int32) (i2 : Int32) (j : Nat) (z0 : j ≠ (1 + 1)) : (hq_6 S i1 i2).2 j = S j := by
  unfold hq_6
  repeat' split
  all_goals simp [hp_wo, hp_wgo, hp_cpo, hf_194, z0]
set_option maxRecDepth 10000 in
theorem ht_6 {X : hp_X} (S : hp_S) (i1 : Int32) (i2 : Int32) (n : Nat) : hp_T n 6 0 [some (.ref 0), some (.int i1), some (.int i2)] [] (hp_mem X S) (hp_is X) (hq_6 S i1 i2) := by
  unfold hq_6
  refine hp_sN [1] (pc' := 1) (L' := [some (.ref 0), some (.int i1), some (.int i2)]) (st' := [.ref 0]) rfl rfl ?_
  refine hp_gf (pc' := 4) rfl (by decide) (hp_c0 X _) rfl rfl ?_
  refine hp_sN [5, 6] (pc' := 6) (L' := [some (.ref 0), some (.int i1), some (.int i2)]) (st' := [.int i2, .int i1, .ref 1]) rfl rfl ?_
  refine hp_iv (virt := true) (pc' := 9) (rv := some (.int (hq_194 S 1 i1 i2).1)) (M1 := hp_mem X ((hq_194 S 1 i1 i2).2)) rfl rfl (by decide) (hk_194 (Or.inl rfl) S (i1) (i2)) rfl rfl ?_
  show hp_T _ 6 9 _ [.int (hq_194 S 1 i1 i2).1] _ _ _
  exact hp_Ris rfl
theorem hk_6 {X : hp_X} (S : hp_S) (i1 : Int32) (i2 : Int32) : hp_K 6 [.ref 0, .int i1, .int i2] (hp_mem X S) (hp_is X) (hq_6 S i1 i2) := by
  refine hp_mk (q := hzq_6) rfl (by decide) (L := [some (.ref 0), some (.int i1), some (.int i2)]) rfl (fun n => ?_)
  exact ht_6 S i1 i2 n
/-! 7: HatsOfTheWind.shelters(I)I -/
def hq_7 (S : hp_S) (i1 : Int32) : Int32 × hp_S := ((hq_195 S 1 i1).1, (hq_195 S 1 i1).2)
theorem hf_7 (S : hp_S) (i1 : Int32) (j : Nat) (z0 : j ≠ 1) : (hq_7 S i1).2 j = S j := by
  unfold hq_7
  repeat' split
  all_goals simp [hp_wo, hp_wgo, hp_cpo, hf_195, z0]
set_option maxRecDepth 10000 in
theorem ht_7 {X : hp_X} (S : hp_S) (i1 : Int32) (n : Nat) : hp_T n 7 0 [some (.ref 0), some (.int i1)] [] (hp_mem X S) (hp_is X) (hq_7 S i1) := by
  unfold hq_7
  refine hp_sN [1] (pc' := 1) (L' := [some (.ref 0), some (.int i1)]) (st' := [.ref 0]) rfl rfl ?_
  refine hp_gf (pc' := 4) rfl (by decide) (hp_c0 X _) rfl rfl ?_
  refine hp_sN [5] (pc' := 5) (L' := [some (.ref 0), some (.int i1)]) (st' := [.int i1, .ref 1]) rfl rfl ?_
  refine hp_iv (virt := true) (pc' := 8) (rv := some (.int (hq_195 S 1 i1).1)) (M1 := hp_mem X ((hq_195 S 1 i1).2)) rfl rfl (by decide) (hk_195 (Or.inl rfl) S (i1)) rfl rfl ?_
  show hp_T _ 7 8 _ [.int (hq_195 S 1 i1).1] _ _ _
  exact hp_Ris rfl
theorem hk_7 {X : hp_X} (S : hp_S) (i1 : Int32) : hp_K 7 [.ref 0, .int i1] (hp_mem X S) (hp_is X) (hq_7 S i1) := by
  refine hp_mk (q := hzq_7) rfl (by decide) (L := [some (.ref 0), some (.int i1)]) rfl (fun n => ?_)
  exact ht_7 S i1 n
/-! 8: HatsOfTheWind.pins(II)I -/
def hq_8 (S : hp_S) (i1 : Int32) (i2 : Int32) : Int32 × hp_S := ((hq_196 S 1 i1 i2).1, (hq_196 S 1 i1 i2).2)
theorem hf_8 (S : hp_S) (i1 : Int32) (i2 : Int32) (j : Nat) (z0 : j ≠ (1 + 4)) : (hq_8 S i1 i2).2 j = S j := by
  unfold hq_8
  repeat' split
  all_goals simp [hp_wo, hp_wgo, hp_cpo, hf_196, z0]
set_option maxRecDepth 10000 in
theorem ht_8 {X : hp_X} (S : hp_S) (i1 : Int32) (i2 : Int32) (n : Nat) : hp_T n 8 0 [some (.ref 0), some (.int i1), some (.int i2)] [] (hp_mem X S) (hp_is X) (hq_8 S i1 i2) := by
  unfold hq_8
  refine hp_sN [1] (pc' := 1) (L' := [some (.ref 0), some (.int i1), some (.int i2)]) (st' := [.ref 0]) rfl rfl ?_
  refine hp_gf (pc' := 4) rfl (by decide) (hp_c0 X _) rfl rfl ?_
  refine hp_sN [5, 6] (pc' := 6) (L' := [some (.ref 0), some (.int i1), some (.int i2)]) (st' := [.int i2, .int i1, .ref 1]) rfl rfl ?_
  refine hp_iv (virt := true) (pc' := 9) (rv := some (.int (hq_196 S 1 i1 i2).1)) (M1 := hp_mem X ((hq_196 S 1 i1 i2).2)) rfl rfl (by decide) (hk_196 (Or.inl rfl) S (i1) (i2)) rfl rfl ?_
  show hp_T _ 8 9 _ [.int (hq_196 S 1 i1 i2).1] _ _ _
  exact hp_Ris rfl
theorem hk_8 {X : hp_X} (S : hp_S) (i1 : Int32) (i2 : Int32) : hp_K 8 [.ref 0, .int i1, .int i2] (hp_mem X S) (hp_is X) (hq_8 S i1 i2) := by
  refine hp_mk (q := hzq_8) rfl (by decide) (L := [some (.ref 0), some (.int i1), some (.int i2)]) rfl (fun n => ?_)
  exact ht_8 S i1 i2 n
/-! 9: HatsOfTheWind.moves(II)I -/
def hq_9 (S : hp_S) (i1 : Int32) (i2 : Int32) : Int32 × hp_S := (if hz_cmp .eq (hq_181 S 1 i1) 0 = true then ((Int32.ofInt (-1)), S) else (if hz_cmp .ne (hq_46 S i2) 0 = true then ((S (1 + 2) i1.toNatClampNeg), hp_w S (1 + 2) i1.toNatClampNeg i2) else ((Int32.ofInt (-1)), S)))
theorem hf_9 (S : hp_S) (i1 : Int32) (i2 : Int32) (j : Nat) (z0 : j ≠ (1 + 2)) : (hq_9 S i1 i2).2 j = S j := by
  unfold hq_9
  repeat' split
  all_goals simp [hp_wo, hp_wgo, hp_cpo, z0]
set_option maxRecDepth 10000 in
theorem ht_9 {X : hp_X} (S : hp_S) (i1 : Int32) (i2 : Int32) (n : Nat) : hp_T n 9 0 [some (.ref 0), some (.int i1), some (.int i2), none] [] (hp_mem X S) (hp_is X) (hq_9 S i1 i2) := by
  unfold hq_9
  refine hp_sN [1] (pc' := 1) (L' := [some (.ref 0), some (.int i1), some (.int i2), none]) (st' := [.ref 0]) rfl rfl ?_
  refine hp_gf (pc' := 4) rfl (by decide) (hp_c0 X _) rfl rfl ?_
  refine hp_sN [5] (pc' := 5) (L' := [some (.ref 0), some (.int i1), some (.int i2), none]) (st' := [.int i1, .ref 1]) rfl rfl ?_
  refine hp_iv (virt := true) (pc' := 8) (rv := some (.int (hq_181 S 1 i1))) (M1 := hp_mem X (S)) rfl rfl (by decide) (hk_181 (Or.inl rfl) S (i1)) rfl rfl ?_
  show hp_T _ 9 8 _ [.int (hq_181 S 1 i1)] _ _ _
  refine hp_if (pc' := 11) rfl rfl (fun h1 => ?_) (fun h1 => ?_)
  · refine hp_sN [19] (pc' := 19) (L' := [some (.ref 0), some (.int i1), some (.int i2), none]) (st' := [.int (Int32.ofInt (-1))]) rfl rfl ?_
    exact hp_Ris rfl
  · refine hp_sN [12] (pc' := 12) (L' := [some (.ref 0), some (.int i1), some (.int i2), none]) (st' := [.int i2]) rfl rfl ?_
    refine hp_iv (virt := false) (pc' := 15) (rv := some (.int (hq_46 S i2))) (M1 := hp_mem X (S)) rfl rfl (by decide) (hk_46 S (i2)) rfl rfl ?_
    show hp_T _ 9 15 _ [.int (hq_46 S i2)] _ _ _
    refine hp_if (pc' := 18) rfl rfl (fun h2 => ?_) (fun h2 => ?_)
    · refine hp_sN [21] (pc' := 21) (L' := [some (.ref 0), some (.int i1), some (.int i2), none]) (st' := [.ref 0]) rfl rfl ?_
      refine hp_gf (pc' := 24) rfl (by decide) (hp_c0 X _) rfl rfl ?_
      refine hp_gf (pc' := 27) rfl (hp_bl (Or.inl rfl) 0 (by decide)) (hp_b0 (Or.inl rfl) X _) rfl rfl ?_
      refine hp_sN [28] (pc' := 28) (L' := [some (.ref 0), some (.int i1), some (.int i2), none]) (st' := [.int i1, .ref (1 + 2)]) rfl rfl ?_
      refine hp_al (pc' := 29) rfl (hp_bl (Or.inl rfl) 2 (by decide)) (hp_b2 (Or.inl rfl) X _) rfl ?_
      refine hp_sN [30, 31] (pc' := 31) (L' := [some (.ref 0), some (.int i1), some (.int i2), some (.int (S (1 + 2) i1.toNatClampNeg))]) (st' := [.ref 0]) rfl rfl ?_
      refine hp_gf (pc' := 34) rfl (by decide) (hp_c0 X _) rfl rfl ?_
      refine hp_gf (pc' := 37) rfl (hp_bl (Or.inl rfl) 0 (by decide)) (hp_b0 (Or.inl rfl) X _) rfl rfl ?_
      refine hp_sN [38, 39] (pc' := 39) (L' := [some (.ref 0), some (.int i1), some (.int i2), some (.int (S (1 + 2) i1.toNatClampNeg))]) (st' := [.int i2, .int i1, .ref (1 + 2)]) rfl rfl ?_
      refine hp_as (pc' := 40) rfl (hp_bl (Or.inl rfl) 2 (by decide)) (fun _ => (hp_b2 (Or.inl rfl) X _)) rfl ?_
      refine hp_sN [41] (pc' := 41) (L' := [some (.ref 0), some (.int i1), some (.int i2), some (.int (S (1 + 2) i1.toNatClampNeg))]) (st' := [.int (S (1 + 2) i1.toNatClampNeg)]) rfl rfl ?_
      exact hp_Ris rfl
    · refine hp_sN [19] (pc' := 19) (L' := [some (.ref 0), some (.int i1), some (.int i2), none]) (st' := [.int (Int32.ofInt (-1))]) rfl rfl ?_
      exact hp_Ris rfl
theorem hk_9 {X : hp_X} (S : hp_S) (i1 : Int32) (i2 : Int32) : hp_K 9 [.ref 0, .int i1, .int i2] (hp_mem X S) (hp_is X) (hq_9 S i1 i2) := by
  refine hp_mk (q := hzq_9) rfl (by decide) (L := [some (.ref 0), some (.int i1), some (.int i2), none]) rfl (fun n => ?_)
  exact ht_9 S i1 i2 n
/-! 10: HatsOfTheWind.hours(I)I -/
def hq_10 (S : hp_S) (i1 : Int32) : Int32 × hp_S := ((hq_199 S 1 i1).1, (hq_199 S 1 i1).2)
theorem hf_10 (S : hp_S) (i1 : Int32) (j : Nat) (z0 : j ≠ (1 + 7)) (z1 : j ≠ (1 + 8)) (z2 : j ≠ (1 + 2)) (z3 : j ≠ 1) : (hq_10 S i1).2 j = S j := by
  unfold hq_10
  repeat' split
  all_goals simp [hp_wo, hp_wgo, hp_cpo, hf_199, z0, z1, z2, z3]
set_option maxRecDepth 10000 in
theorem ht_10 {X : hp_X} (S : hp_S) (i1 : Int32) (n : Nat) : hp_T n 10 0 [some (.ref 0), some (.int i1)] [] (hp_mem X S) (hp_is X) (hq_10 S i1) := by
  unfold hq_10
  refine hp_sN [1] (pc' := 1) (L' := [some (.ref 0), some (.int i1)]) (st' := [.ref 0]) rfl rfl ?_
  refine hp_gf (pc' := 4) rfl (by decide) (hp_c0 X _) rfl rfl ?_
  refine hp_sN [5] (pc' := 5) (L' := [some (.ref 0), some (.int i1)]) (st' := [.int i1, .ref 1]) rfl rfl ?_
  refine hp_iv (virt := true) (pc' := 8) (rv := some (.int (hq_199 S 1 i1).1)) (M1 := hp_mem X ((hq_199 S 1 i1).2)) rfl rfl (by decide) (hk_199 (Or.inl rfl) S (i1)) rfl rfl ?_
  show hp_T _ 10 8 _ [.int (hq_199 S 1 i1).1] _ _ _
  exact hp_Ris rfl
theorem hk_10 {X : hp_X} (S : hp_S) (i1 : Int32) : hp_K 10 [.ref 0, .int i1] (hp_mem X S) (hp_is X) (hq_10 S i1) := by
  refine hp_mk (q := hzq_10) rfl (by decide) (L := [some (.ref 0), some (.int i1)]) rfl (fun n => ?_)
  exact ht_10 S i1 n
/-! 50: HatsOfTheWind.isAhead(I)Z -/
def hq_50 (S : hp_S) (i1 : Int32) : Int32 := (hq_44 S i1 (Int32.ofInt 0) (Int32.ofInt 99))
set_option maxRecDepth 10000 in
theorem ht_50 {X : hp_X} (S : hp_S) (i1 : Int32) (n : Nat) : hp_T n 50 0 [some (.int i1)] [] (hp_mem X S) (hp_i X S) (hq_50 S i1) := by
  unfold hq_50
  refine hp_sN [1, 2, 4] (pc' := 4) (L' := [some (.int i1)]) (st' := [.int (Int32.ofInt 99), .int (Int32.ofInt 0), .int i1]) rfl rfl ?_
  refine hp_iv (virt := false) (pc' := 7) (rv := some (.int (hq_44 S i1 (Int32.ofInt 0) (Int32.ofInt 99)))) (M1 := hp_mem X (S)) rfl rfl (by decide) (hk_44 S (i1) ((Int32.ofInt 0)) ((Int32.ofInt 99))) rfl rfl ?_
  show hp_T _ 50 7 _ [.int (hq_44 S i1 (Int32.ofInt 0) (Int32.ofInt 99))] _ _ _
  exact hp_Ri rfl
theorem hk_50 {X : hp_X} (S : hp_S) (i1 : Int32) : hp_K 50 [.int i1] (hp_mem X S) (hp_i X S) (hq_50 S i1) := by
  refine hp_mk (q := hzq_50) rfl (by decide) (L := [some (.int i1)]) rfl (fun n => ?_)
  exact ht_50 S i1 n
/-! 45: HatsOfTheWind.isOneOfTwo(I)Z -/
def hq_45 (S : hp_S) (i1 : Int32) : Int32 := (if hz_cmp .eq i1 0 = true then (Int32.ofInt 1) else (if hz_cmp .ne i1 (Int32.ofInt 1) = true then (Int32.ofInt 0) else (Int32.ofInt 1)))
set_option maxRecDepth 10000 in
theorem ht_45 {X : hp_X} (S : hp_S) (i1 : Int32) (n : Nat) : hp_T n 45 0 [some (.int i1)] [] (hp_mem X S) (hp_i X S) (hq_45 S i1) := by
  unfold hq_45
  refine hp_sN [1] (pc' := 1) (L' := [some (.int i1)]) (st' := [.int i1]) rfl rfl ?_
  refine hp_if (pc' := 4) rfl rfl (fun h1 => ?_) (fun h1 => ?_)
  · refine hp_sN [10, 14] (pc' := 14) (L' := [some (.int i1)]) (st' := [.int (Int32.ofInt 1)]) rfl rfl ?_
    exact hp_Ri rfl
  · refine hp_sN [5, 6] (pc' := 6) (L' := [some (.int i1)]) (st' := [.int (Int32.ofInt 1), .int i1]) rfl rfl ?_
    refine hp_ic (pc' := 9) rfl rfl (fun h2 => ?_) (fun h2 => ?_)
    · refine hp_sN [14] (pc' := 14) (L' := [some (.int i1)]) (st' := [.int (Int32.ofInt 0)]) rfl rfl ?_
      exact hp_Ri rfl
    · refine hp_sN [10, 14] (pc' := 14) (L' := [some (.int i1)]) (st' := [.int (Int32.ofInt 1)]) rfl rfl ?_
      exact hp_Ri rfl
theorem hk_45 {X : hp_X} (S : hp_S) (i1 : Int32) : hp_K 45 [.int i1] (hp_mem X S) (hp_i X S) (hq_45 S i1) := by
  refine hp_mk (q := hzq_45) rfl (by decide) (L := [some (.int i1)]) rfl (fun n => ?_)
  exact ht_45 S i1 n
/-! 200: HatsOfTheWind$Street.passHours(I)V -/
def hq_200_2 (b : Nat) (i1 : Int32) : Nat → hp_S → Int32 → hp_S
  | 0, S, _ => S
  | m + 1, S, v2 => (if hz_cmp .ge v2 i1 = true then S else hq_200_2 b i1 m (hq_201 S b) (v2 + (Int32.ofInt 1)))
def hq_200 (S : hp_S) (b : Nat) (i1 : Int32) : hp_S := (hq_200_2 b i1 ((i1.toInt - (Int32.ofInt 0).toInt).toNat + 1) S ((Int32.ofInt 0)))
theorem hf_200_2 {b : Nat} {i1 : Int32} (j : Nat) (z0 : j ≠ (b + 7)) (z1 : j ≠ (b + 8)) (z2 : j ≠ (b + 2)) (z3 : j ≠ b) : ∀ (m : Nat) (S : hp_S) (v2 : Int32), (hq_200_2 b i1 m S v2) j = S j := by
  intro m
  induction m with
  | zero => intros; rfl
  | succ m ih =>
    intro S v2
    rw [hq_200_2]
    repeat' split
    all_goals simp [ih, hp_wo, hp_wgo, hp_cpo, hf_201, z0, z1, z2, z3]
theorem hf_200 {b : Nat} (S : hp_S) (i1 : Int32) (j : Nat) (z0 : j ≠ (b + 7)) (z1 : j ≠ (b + 8)) (z2 : j ≠ (b + 2)) (z3 : j ≠ b) : (hq_200 S b i1) j = S j := by
  unfold hq_200
  repeat' split
  all_goals simp [hp_wo, hp_wgo, hp_cpo, hf_201, z0, z1, z2, z3, hf_200_2]
set_option maxRecDepth 10000 in
theorem ht_200_2 {α : Type} {φ : α → Option Value × hzMem} {R : α} {X : hp_X} (N : Nat) {b : Nat} (hb : hp_b b) (i1 : Int32) : ∀ (n : Nat), n ≤ N → ∀ (m : Nat) (S : hp_S) (v2 : Int32) (Z : hp_S), (i1.toInt - v2.toInt).toNat < m → hq_200_2 b i1 m S v2 = Z → (∀ (x2 : Option Value), hp_T N 200 17 [some (.ref b), some (.int i1), x2] [] (hp_mem X Z) φ R) → hp_T n 200 2 [some (.ref b), some (.int i1), some (.int v2)] [] (hp_mem X S) φ R := by
  intro n
  induction n with
  | zero => intros; exact hp_0
  | succ n ih =>
    intro hN m S v2 Z hm hZ kk
    cases m with
    | zero => exact absurd hm (Nat.not_lt_zero _)
    | succ m =>
      rw [hq_200_2] at hZ
      refine hp_sN [3, 4] (pc' := 4) (L' := [some (.ref b), some (.int i1), some (.int v2)]) (st' := [.int i1, .int v2]) rfl rfl ?_
      refine hp_ic2 (pc' := 7) rfl rfl (fun h1 => ?_) (fun h1 => ?_)
      · rw [if_pos h1] at hZ
        subst hZ
        exact hp_le hN (kk (some (.int v2)))
      · rw [if_neg (hp_nt h1)] at hZ
        refine hp_sN [8] (pc' := 8) (L' := [some (.ref b), some (.int i1), some (.int v2)]) (st' := [.ref b]) rfl rfl ?_
        refine hp_iv (virt := true) (pc' := 11) (rv := none) (M1 := hp_mem X (hq_201 S b)) rfl rfl (by decide) (hk_201 hb S) rfl rfl ?_
        show hp_T _ 200 11 _ [] _ _ _
        refine hp_sB 14 [2] (pc' := 2) (L' := [some (.ref b), some (.int i1), some (.int (v2 + (Int32.ofInt 1)))]) (st' := []) rfl rfl ?_
        exact ih (Nat.le_trans (Nat.le_succ n) hN) m (hq_201 S b) ((v2 + (Int32.ofInt 1))) Z (hp_up h1 hm) hZ kk
set_option maxRecDepth 10000 in
theorem ht_200 {X : hp_X} {b : Nat} (hb : hp_b b) (S : hp_S) (i1 : Int32) (n : Nat) : hp_T n 200 0 [some (.ref b), some (.int i1), none] [] (hp_mem X S) (hp_v X) (hq_200 S b i1) := by
  unfold hq_200
  refine hp_sN [1, 2] (pc' := 2) (L' := [some (.ref b), some (.int i1), some (.int (Int32.ofInt 0))]) (st' := []) rfl rfl ?_
  refine ht_200_2 n hb i1  n (Nat.le_refl _) ((i1.toInt - (Int32.ofInt 0).toInt).toNat + 1) S ((Int32.ofInt 0))  _ (Nat.lt_succ_self _) rfl (fun x2_2 => ?_)
  show hp_T _ 200 17 [some (.ref b), some (.int i1), x2_2] _ (hp_mem X ((hq_200_2 b i1 ((i1.toInt - (Int32.ofInt 0).toInt).toNat + 1) S ((Int32.ofInt 0))))) _ _
  exact hp_Rv rfl
theorem hk_200 {X : hp_X} {b : Nat} (hb : hp_b b) (S : hp_S) (i1 : Int32) : hp_K 200 [.ref b, .int i1] (hp_mem X S) (hp_v X) (hq_200 S b i1) := by
  refine hp_mk (q := hzq_200) rfl (by decide) (L := [some (.ref b), some (.int i1), none]) rfl (fun n => ?_)
  exact ht_200 hb S i1 n

/-! 55: HatsOfTheWind.think(I)V -/
def hq_55 (S : hp_S) (i1 : Int32) : hp_S := hq_200 (hq_180 S 10 1) 10 i1
theorem hf_55 (S : hp_S) (i1 : Int32) (j : Nat) (z0 : j ≠ (10 + 1)) (z1 : j ≠ 10) (z2 : j ≠ (10 + 2)) (z3 : j ≠ (10 + 3)) (z4 : j ≠ (10 + 4)) (z5 : j ≠ (10 + 5)) (z6 : j ≠ (10 + 6)) (z7 : j ≠ (10 + 7)) (z8 : j ≠ (10 + 8)) : (hq_55 S i1) j = S j := by
  unfold hq_55
  repeat' split
  all_goals simp [hp_wo, hp_wgo, hp_cpo, hf_180, hf_200, z0, z1, z2, z3, z4, z5, z6, z7, z8]
set_option maxRecDepth 10000 in
theorem ht_55 {X : hp_X} (S : hp_S) (i1 : Int32) (n : Nat) : hp_T n 55 0 [some (.ref 0), some (.int i1)] [] (hp_mem X S) (hp_v X) (hq_55 S i1) := by
  unfold hq_55
  refine hp_sN [1] (pc' := 1) (L' := [some (.ref 0), some (.int i1)]) (st' := [.ref 0]) rfl rfl ?_
  refine hp_gf (pc' := 4) rfl (by decide) (hp_c0 X _) rfl rfl ?_
  refine hp_sN [5] (pc' := 5) (L' := [some (.ref 0), some (.int i1)]) (st' := [.ref 0, .ref 10]) rfl rfl ?_
  refine hp_gf (pc' := 8) rfl (by decide) (hp_c0 X _) rfl rfl ?_
  refine hp_iv (virt := true) (pc' := 11) (rv := none) (M1 := hp_mem X (hq_180 S 10 1)) rfl rfl (by decide) (hk_180 (Or.inr (Or.inl rfl)) (Or.inl rfl) S) rfl rfl ?_
  show hp_T _ 55 11 _ [] _ _ _
  refine hp_sN [12] (pc' := 12) (L' := [some (.ref 0), some (.int i1)]) (st' := [.ref 0]) rfl rfl ?_
  refine hp_gf (pc' := 15) rfl (by decide) (hp_c0 X _) rfl rfl ?_
  refine hp_sN [16] (pc' := 16) (L' := [some (.ref 0), some (.int i1)]) (st' := [.int i1, .ref 10]) rfl rfl ?_
  refine hp_iv (virt := true) (pc' := 19) (rv := none) (M1 := hp_mem X (hq_200 (hq_180 S 10 1) 10 i1)) rfl rfl (by decide) (hk_200 (Or.inr (Or.inl rfl)) (hq_180 S 10 1) (i1)) rfl rfl ?_
  show hp_T _ 55 19 _ [] _ _ _
  exact hp_Rv rfl
theorem hk_55 {X : hp_X} (S : hp_S) (i1 : Int32) : hp_K 55 [.ref 0, .int i1] (hp_mem X S) (hp_v X) (hq_55 S i1) := by
  refine hp_mk (q := hzq_55) rfl (by decide) (L := [some (.ref 0), some (.int i1)]) rfl (fun n => ?_)
  exact ht_55 S i1 n
/-! 11: HatsOfTheWind.hatThen(III)I -/
def hq_11 (S : hp_S) (i1 : Int32) (i2 : Int32) (i3 : Int32) : Int32 × hp_S := (if hz_cmp .eq (hq_182 S 1 i1) 0 = true then ((Int32.ofInt (-1)), S) else (if hz_cmp .eq (hq_50 S i2) 0 = true then ((Int32.ofInt (-1)), S) else (if hz_cmp .ne (hq_45 S i3) 0 = true then (if hz_cmp .ne i3 0 = true then ((hq_55 S i2 (10 + 7) i1.toNatClampNeg), hq_55 S i2) else ((hq_186 (hq_55 S i2) 10 i1), hq_55 S i2)) else ((Int32.ofInt (-1)), S))))
theorem hf_11 (S : hp_S) (i1 : Int32) (i2 : Int32) (i3 : Int32) (j : Nat) (z0 : j ≠ (10 + 1)) (z1 : j ≠ 10) (z2 : j ≠ (10 + 2)) (z3 : j ≠ (10 + 3)) (z4 : j ≠ (10 + 4)) (z5 : j ≠ (10 + 5)) (z6 : j ≠ (10 + 6)) (z7 : j ≠ (10 + 7)) (z8 : j ≠ (10 + 8)) : (hq_11 S i1 i2 i3).2 j = S j := by
  unfold hq_11
  repeat' split
  all_goals simp [hp_wo, hp_wgo, hp_cpo, hf_55, z0, z1, z2, z3, z4, z5, z6, z7, z8]
set_option maxRecDepth 10000 in
theorem ht_11 {X : hp_X} (S : hp_S) (i1 : Int32) (i2 : Int32) (i3 : Int32) (n : Nat) : hp_T n 11 0 [some (.ref 0), some (.int i1), some (.int i2), some (.int i3)] [] (hp_mem X S) (hp_is X) (hq_11 S i1 i2 i3) := by
  unfold hq_11
  refine hp_sN [1] (pc' := 1) (L' := [some (.ref 0), some (.int i1), some (.int i2), some (.int i3)]) (st' := [.ref 0]) rfl rfl ?_
  refine hp_gf (pc' := 4) rfl (by decide) (hp_c0 X _) rfl rfl ?_
  refine hp_sN [5] (pc' := 5) (L' := [some (.ref 0), some (.int i1), some (.int i2), some (.int i3)]) (st' := [.int i1, .ref 1]) rfl rfl ?_
  refine hp_iv (virt := true) (pc' := 8) (rv := some (.int (hq_182 S 1 i1))) (M1 := hp_mem X (S)) rfl rfl (by decide) (hk_182 (Or.inl rfl) S (i1)) rfl rfl ?_
  show hp_T _ 11 8 _ [.int (hq_182 S 1 i1)] _ _ _
  refine hp_if (pc' := 11) rfl rfl (fun h1 => ?_) (fun h1 => ?_)
  · refine hp_sN [26] (pc' := 26) (L' := [some (.ref 0), some (.int i1), some (.int i2), some (.int i3)]) (st' := [.int (Int32.ofInt (-1))]) rfl rfl ?_
    exact hp_Ris rfl
  · refine hp_sN [12] (pc' := 12) (L' := [some (.ref 0), some (.int i1), some (.int i2), some (.int i3)]) (st' := [.int i2]) rfl rfl ?_
    refine hp_iv (virt := false) (pc' := 15) (rv := some (.int (hq_50 S i2))) (M1 := hp_mem X (S)) rfl rfl (by decide) (hk_50 S (i2)) rfl rfl ?_
    show hp_T _ 11 15 _ [.int (hq_50 S i2)] _ _ _
    refine hp_if (pc' := 18) rfl rfl (fun h2 => ?_) (fun h2 => ?_)
    · refine hp_sN [26] (pc' := 26) (L' := [some (.ref 0), some (.int i1), some (.int i2), some (.int i3)]) (st' := [.int (Int32.ofInt (-1))]) rfl rfl ?_
      exact hp_Ris rfl
    · refine hp_sN [19] (pc' := 19) (L' := [some (.ref 0), some (.int i1), some (.int i2), some (.int i3)]) (st' := [.int i3]) rfl rfl ?_
      refine hp_iv (virt := false) (pc' := 22) (rv := some (.int (hq_45 S i3))) (M1 := hp_mem X (S)) rfl rfl (by decide) (hk_45 S (i3)) rfl rfl ?_
      show hp_T _ 11 22 _ [.int (hq_45 S i3)] _ _ _
      refine hp_if (pc' := 25) rfl rfl (fun h3 => ?_) (fun h3 => ?_)
      · refine hp_sN [28, 29] (pc' := 29) (L' := [some (.ref 0), some (.int i1), some (.int i2), some (.int i3)]) (st' := [.int i2, .ref 0]) rfl rfl ?_
        refine hp_iv (virt := true) (pc' := 32) (rv := none) (M1 := hp_mem X (hq_55 S i2)) rfl rfl (by decide) (hk_55 S (i2)) rfl rfl ?_
        show hp_T _ 11 32 _ [] _ _ _
        refine hp_sN [33] (pc' := 33) (L' := [some (.ref 0), some (.int i1), some (.int i2), some (.int i3)]) (st' := [.int i3]) rfl rfl ?_
        refine hp_if (pc' := 36) rfl rfl (fun h4 => ?_) (fun h4 => ?_)
        · refine hp_sN [48] (pc' := 48) (L' := [some (.ref 0), some (.int i1), some (.int i2), some (.int i3)]) (st' := [.ref 0]) rfl rfl ?_
          refine hp_gf (pc' := 51) rfl (by decide) (hp_c0 X _) rfl rfl ?_
          refine hp_gf (pc' := 54) rfl (hp_bl (Or.inr (Or.inl rfl)) 0 (by decide)) (hp_b0 (Or.inr (Or.inl rfl)) X _) rfl rfl ?_
          refine hp_sN [55] (pc' := 55) (L' := [some (.ref 0), some (.int i1), some (.int i2), some (.int i3)]) (st' := [.int i1, .ref (10 + 7)]) rfl rfl ?_
          refine hp_al (pc' := 56) rfl (hp_bl (Or.inr (Or.inl rfl)) 7 (by decide)) (hp_b7 (Or.inr (Or.inl rfl)) X _) rfl ?_
          exact hp_Ris rfl
        · refine hp_sN [37] (pc' := 37) (L' := [some (.ref 0), some (.int i1), some (.int i2), some (.int i3)]) (st' := [.ref 0]) rfl rfl ?_
          refine hp_gf (pc' := 40) rfl (by decide) (hp_c0 X _) rfl rfl ?_
          refine hp_sN [41] (pc' := 41) (L' := [some (.ref 0), some (.int i1), some (.int i2), some (.int i3)]) (st' := [.int i1, .ref 10]) rfl rfl ?_
          refine hp_iv (virt := true) (pc' := 44) (rv := some (.int (hq_186 (hq_55 S i2) 10 i1))) (M1 := hp_mem X (hq_55 S i2)) rfl rfl (by decide) (hk_186 (Or.inr (Or.inl rfl)) (hq_55 S i2) (i1)) rfl rfl ?_
          show hp_T _ 11 44 _ [.int (hq_186 (hq_55 S i2) 10 i1)] _ _ _
          refine hp_sN [56] (pc' := 56) (L' := [some (.ref 0), some (.int i1), some (.int i2), some (.int i3)]) (st' := [.int (hq_186 (hq_55 S i2) 10 i1)]) rfl rfl ?_
          exact hp_Ris rfl
      · refine hp_sN [26] (pc' := 26) (L' := [some (.ref 0), some (.int i1), some (.int i2), some (.int i3)]) (st' := [.int (Int32.ofInt (-1))]) rfl rfl ?_
        exact hp_Ris rfl
theorem hk_11 {X : hp_X} (S : hp_S) (i1 : Int32) (i2 : Int32) (i3 : Int32) : hp_K 11 [.ref 0, .int i1, .int i2, .int i3] (hp_mem X S) (hp_is X) (hq_11 S i1 i2 i3) := by
  refine hp_mk (q := hzq_11) rfl (by decide) (L := [some (.ref 0), some (.int i1), some (.int i2), some (.int i3)]) rfl (fun n => ?_)
  exact ht_11 S i1 i2 i3 n
/-! 12: HatsOfTheWind.personThen(II)I -/
def hq_12 (S : hp_S) (i1 : Int32) (i2 : Int32) : Int32 × hp_S := (if hz_cmp .eq (hq_181 S 1 i1) 0 = true then ((Int32.ofInt (-1)), S) else (if hz_cmp .ne (hq_50 S i2) 0 = true then ((hq_55 S i2 (10 + 2) i1.toNatClampNeg), hq_55 S i2) else ((Int32.ofInt (-1)), S)))
theorem hf_12 (S : hp_S) (i1 : Int32) (i2 : Int32) (j : Nat) (z0 : j ≠ (10 + 1)) (z1 : j ≠ 10) (z2 : j ≠ (10 + 2)) (z3 : j ≠ (10 + 3)) (z4 : j ≠ (10 + 4)) (z5 : j ≠ (10 + 5)) (z6 : j ≠ (10 + 6)) (z7 : j ≠ (10 + 7)) (z8 : j ≠ (10 + 8)) : (hq_12 S i1 i2).2 j = S j := by
  unfold hq_12
  repeat' split
  all_goals simp [hp_wo, hp_wgo, hp_cpo, hf_55, z0, z1, z2, z3, z4, z5, z6, z7, z8]
set_option maxRecDepth 10000 in
theorem ht_12 {X : hp_X} (S : hp_S) (i1 : Int32) (i2 : Int32) (n : Nat) : hp_T n 12 0 [some (.ref 0), some (.int i1), some (.int i2)] [] (hp_mem X S) (hp_is X) (hq_12 S i1 i2) := by
  unfold hq_12
  refine hp_sN [1] (pc' := 1) (L' := [some (.ref 0), some (.int i1), some (.int i2)]) (st' := [.ref 0]) rfl rfl ?_
  refine hp_gf (pc' := 4) rfl (by decide) (hp_c0 X _) rfl rfl ?_
  refine hp_sN [5] (pc' := 5) (L' := [some (.ref 0), some (.int i1), some (.int i2)]) (st' := [.int i1, .ref 1]) rfl rfl ?_
  refine hp_iv (virt := true) (pc' := 8) (rv := some (.int (hq_181 S 1 i1))) (M1 := hp_mem X (S)) rfl rfl (by decide) (hk_181 (Or.inl rfl) S (i1)) rfl rfl ?_
  show hp_T _ 12 8 _ [.int (hq_181 S 1 i1)] _ _ _
  refine hp_if (pc' := 11) rfl rfl (fun h1 => ?_) (fun h1 => ?_)
  · refine hp_sN [19] (pc' := 19) (L' := [some (.ref 0), some (.int i1), some (.int i2)]) (st' := [.int (Int32.ofInt (-1))]) rfl rfl ?_
    exact hp_Ris rfl
  · refine hp_sN [12] (pc' := 12) (L' := [some (.ref 0), some (.int i1), some (.int i2)]) (st' := [.int i2]) rfl rfl ?_
    refine hp_iv (virt := false) (pc' := 15) (rv := some (.int (hq_50 S i2))) (M1 := hp_mem X (S)) rfl rfl (by decide) (hk_50 S (i2)) rfl rfl ?_
    show hp_T _ 12 15 _ [.int (hq_50 S i2)] _ _ _
    refine hp_if (pc' := 18) rfl rfl (fun h2 => ?_) (fun h2 => ?_)
    · refine hp_sN [21, 22] (pc' := 22) (L' := [some (.ref 0), some (.int i1), some (.int i2)]) (st' := [.int i2, .ref 0]) rfl rfl ?_
      refine hp_iv (virt := true) (pc' := 25) (rv := none) (M1 := hp_mem X (hq_55 S i2)) rfl rfl (by decide) (hk_55 S (i2)) rfl rfl ?_
      show hp_T _ 12 25 _ [] _ _ _
      refine hp_sN [26] (pc' := 26) (L' := [some (.ref 0), some (.int i1), some (.int i2)]) (st' := [.ref 0]) rfl rfl ?_
      refine hp_gf (pc' := 29) rfl (by decide) (hp_c0 X _) rfl rfl ?_
      refine hp_gf (pc' := 32) rfl (hp_bl (Or.inr (Or.inl rfl)) 0 (by decide)) (hp_b0 (Or.inr (Or.inl rfl)) X _) rfl rfl ?_
      refine hp_sN [33] (pc' := 33) (L' := [some (.ref 0), some (.int i1), some (.int i2)]) (st' := [.int i1, .ref (10 + 2)]) rfl rfl ?_
      refine hp_al (pc' := 34) rfl (hp_bl (Or.inr (Or.inl rfl)) 2 (by decide)) (hp_b2 (Or.inr (Or.inl rfl)) X _) rfl ?_
      exact hp_Ris rfl
    · refine hp_sN [19] (pc' := 19) (L' := [some (.ref 0), some (.int i1), some (.int i2)]) (st' := [.int (Int32.ofInt (-1))]) rfl rfl ?_
      exact hp_Ris rfl
theorem hk_12 {X : hp_X} (S : hp_S) (i1 : Int32) (i2 : Int32) : hp_K 12 [.ref 0, .int i1, .int i2] (hp_mem X S) (hp_is X) (hq_12 S i1 i2) := by
  refine hp_mk (q := hzq_12) rfl (by decide) (L := [some (.ref 0), some (.int i1), some (.int i2)]) rfl (fun n => ?_)
  exact ht_12 S i1 i2 n
/-! 185: HatsOfTheWind$Street.isLost(I)Z -/
def hq_185 (S : hp_S) (b : Nat) (i1 : Int32) : Int32 := (if hz_cmp .ne (S (b + 7) i1.toNatClampNeg) (Int32.ofInt 9) = true then (Int32.ofInt 0) else (if hz_cmp .ne (S (b + 8) i1.toNatClampNeg) (Int32.ofInt 21) = true then (Int32.ofInt 0) else (Int32.ofInt 1)))
set_option maxRecDepth 10000 in
theorem ht_185 {X : hp_X} {b : Nat} (hb : hp_b b) (S : hp_S) (i1 : Int32) (n : Nat) : hp_T n 185 0 [some (.ref b), some (.int i1)] [] (hp_mem X S) (hp_i X S) (hq_185 S b i1) := by
  unfold hq_185
  refine hp_sN [1] (pc' := 1) (L' := [some (.ref b), some (.int i1)]) (st' := [.ref b]) rfl rfl ?_
  refine hp_gf (pc' := 4) rfl (hp_bl hb 0 (by decide)) (hp_b0 hb X _) rfl rfl ?_
  refine hp_sN [5] (pc' := 5) (L' := [some (.ref b), some (.int i1)]) (st' := [.int i1, .ref (b + 7)]) rfl rfl ?_
  refine hp_al (pc' := 6) rfl (hp_bl hb 7 (by decide)) (hp_b7 hb X _) rfl ?_
  refine hp_sN [8] (pc' := 8) (L' := [some (.ref b), some (.int i1)]) (st' := [.int (Int32.ofInt 9), .int (S (b + 7) i1.toNatClampNeg)]) rfl rfl ?_
  refine hp_ic (pc' := 11) rfl rfl (fun h1 => ?_) (fun h1 => ?_)
  · refine hp_sN [27] (pc' := 27) (L' := [some (.ref b), some (.int i1)]) (st' := [.int (Int32.ofInt 0)]) rfl rfl ?_
    exact hp_Ri rfl
  · refine hp_sN [12] (pc' := 12) (L' := [some (.ref b), some (.int i1)]) (st' := [.ref b]) rfl rfl ?_
    refine hp_gf (pc' := 15) rfl (hp_bl hb 0 (by decide)) (hp_b0 hb X _) rfl rfl ?_
    refine hp_sN [16] (pc' := 16) (L' := [some (.ref b), some (.int i1)]) (st' := [.int i1, .ref (b + 8)]) rfl rfl ?_
    refine hp_al (pc' := 17) rfl (hp_bl hb 8 (by decide)) (hp_b8 hb X _) rfl ?_
    refine hp_sN [19] (pc' := 19) (L' := [some (.ref b), some (.int i1)]) (st' := [.int (Int32.ofInt 21), .int (S (b + 8) i1.toNatClampNeg)]) rfl rfl ?_
    refine hp_ic (pc' := 22) rfl rfl (fun h2 => ?_) (fun h2 => ?_)
    · refine hp_sN [27] (pc' := 27) (L' := [some (.ref b), some (.int i1)]) (st' := [.int (Int32.ofInt 0)]) rfl rfl ?_
      exact hp_Ri rfl
    · refine hp_sN [23, 27] (pc' := 27) (L' := [some (.ref b), some (.int i1)]) (st' := [.int (Int32.ofInt 1)]) rfl rfl ?_
      exact hp_Ri rfl
theorem hk_185 {X : hp_X} {b : Nat} (hb : hp_b b) (S : hp_S) (i1 : Int32) : hp_K 185 [.ref b, .int i1] (hp_mem X S) (hp_i X S) (hq_185 S b i1) := by
  refine hp_mk (q := hzq_185) rfl (by decide) (L := [some (.ref b), some (.int i1)]) rfl (fun n => ?_)
  exact ht_185 hb S i1 n
/-! 190: HatsOfTheWind$Street.lostOnes()I -/
def hq_190_4 (b : Nat) : Nat → hp_S → Int32 → Int32 → Int32
  | 0, S, _, _ => 0
  | m + 1, S, v1, v2 => (if hz_cmp .ge v2 (S b 8) = true then v1 else (if hz_cmp .eq (hq_185 S b v2) 0 = true then hq_190_4 b m S v1 (v2 + (Int32.ofInt 1)) else hq_190_4 b m S (v1 ||| ((Int32.ofInt 1) <<< (v2 &&& 31))) (v2 + (Int32.ofInt 1))))
def hq_190 (S : hp_S) (b : Nat) : Int32 := (hq_190_4 b (((S b 8).toInt - (Int32.ofInt 0).toInt).toNat + 1) S ((Int32.ofInt 0)) ((Int32.ofInt 0)))
set_option maxRecDepth 10000 in
theorem ht_190_4 {α : Type} {φ : α → Option Value × hzMem} {R : α} {X : hp_X} (N : Nat) {b : Nat} (hb : hp_b b) (S : hp_S) : ∀ (n : Nat), n ≤ N → ∀ (m : Nat) (v1 : Int32) (v2 : Int32) (Z : Int32), ((S b 8).toInt - v2.toInt).toNat < m → hq_190_4 b m S v1 v2 = Z → (∀ (x2 : Option Value), hp_T N 190 32 [some (.ref b), some (.int Z), x2] [] (hp_mem X S) φ R) → hp_T n 190 4 [some (.ref b), some (.int v1), some (.int v2)] [] (hp_mem X S) φ R := by
  intro n
  induction n with
  | zero => intros; exact hp_0
  | succ n ih =>
    intro hN m v1 v2 Z hm hZ kk
    cases m with
    | zero => exact absurd hm (Nat.not_lt_zero _)
    | succ m =>
      rw [hq_190_4] at hZ
      refine hp_sN [5, 6] (pc' := 6) (L' := [some (.ref b), some (.int v1), some (.int v2)]) (st' := [.ref b, .int v2]) rfl rfl ?_
      refine hp_gf (pc' := 9) rfl (hp_bl hb 0 (by decide)) (hp_b0 hb X _) rfl rfl ?_
      refine hp_ic2 (pc' := 12) rfl rfl (fun h1 => ?_) (fun h1 => ?_)
      · rw [if_pos h1] at hZ
        subst hZ
        exact hp_le hN (kk (some (.int v2)))
      · rw [if_neg (hp_nt h1)] at hZ
        refine hp_sN [13, 14] (pc' := 14) (L' := [some (.ref b), some (.int v1), some (.int v2)]) (st' := [.int v2, .ref b]) rfl rfl ?_
        refine hp_iv (virt := true) (pc' := 17) (rv := some (.int (hq_185 S b v2))) (M1 := hp_mem X (S)) rfl rfl (by decide) (hk_185 hb S (v2)) rfl rfl ?_
        show hp_T _ 190 17 _ [.int (hq_185 S b v2)] _ _ _
        refine hp_if2 (pc' := 20) rfl rfl (fun h2 => ?_) (fun h2 => ?_)
        · rw [if_pos h2] at hZ
          refine hp_sB 29 [4] (pc' := 4) (L' := [some (.ref b), some (.int v1), some (.int (v2 + (Int32.ofInt 1)))]) (st' := []) rfl rfl ?_
          exact ih (Nat.le_trans (Nat.le_succ n) hN) m (v1) ((v2 + (Int32.ofInt 1))) Z (hp_up h1 hm) hZ kk
        · rw [if_neg (hp_nt h2)] at hZ
          refine hp_sB 21 [22, 23, 24, 25, 26, 29, 4] (pc' := 4) (L' := [some (.ref b), some (.int (v1 ||| ((Int32.ofInt 1) <<< (v2 &&& 31)))), some (.int (v2 + (Int32.ofInt 1)))]) (st' := []) rfl rfl ?_
          exact ih (Nat.le_trans (Nat.le_succ n) hN) m ((v1 ||| ((Int32.ofInt 1) <<< (v2 &&& 31)))) ((v2 + (Int32.ofInt 1))) Z (hp_up h1 hm) hZ kk
set_option maxRecDepth 10000 in
theorem ht_190 {X : hp_X} {b : Nat} (hb : hp_b b) (S : hp_S) (n : Nat) : hp_T n 190 0 [some (.ref b), none, none] [] (hp_mem X S) (hp_i X S) (hq_190 S b) := by
  unfold hq_190
  refine hp_sN [1, 2, 3, 4] (pc' := 4) (L' := [some (.ref b), some (.int (Int32.ofInt 0)), some (.int (Int32.ofInt 0))]) (st' := []) rfl rfl ?_
  refine ht_190_4 n hb S n (Nat.le_refl _) (((S b 8).toInt - (Int32.ofInt 0).toInt).toNat + 1)  ((Int32.ofInt 0)) ((Int32.ofInt 0))  _ (Nat.lt_succ_self _) rfl (fun x2_4 => ?_)
  show hp_T _ 190 32 [some (.ref b), some (.int (hq_190_4 b (((S b 8).toInt - (Int32.ofInt 0).toInt).toNat + 1) S ((Int32.ofInt 0)) ((Int32.ofInt 0)))), x2_4] _ (hp_mem X S) _ _
  refine hp_sN [33] (pc' := 33) (L' := [some (.ref b), some (.int (hq_190_4 b (((S b 8).toInt - (Int32.ofInt 0).toInt).toNat + 1) S ((Int32.ofInt 0)) ((Int32.ofInt 0)))), x2_4]) (st' := [.int (hq_190_4 b (((S b 8).toInt - (Int32.ofInt 0).toInt).toNat + 1) S ((Int32.ofInt 0)) ((Int32.ofInt 0)))]) rfl rfl ?_
  exact hp_Ri rfl
theorem hk_190 {X : hp_X} {b : Nat} (hb : hp_b b) (S : hp_S) : hp_K 190 [.ref b] (hp_mem X S) (hp_i X S) (hq_190 S b) := by
  refine hp_mk (q := hzq_190) rfl (by decide) (L := [some (.ref b), none, none]) rfl (fun n => ?_)
  exact ht_190 hb S n
/-! 191: HatsOfTheWind$Street.worthLeft()I -/
def hq_191_4 (b : Nat) : Nat → hp_S → Int32 → Int32 → Int32
  | 0, S, _, _ => 0
  | m + 1, S, v1, v2 => (if hz_cmp .ge v2 (S b 8) = true then v1 else (if hz_cmp .eq (hq_185 S b v2) 0 = true then hq_191_4 b m S (v1 + (hq_169 S (S (b + 5) v2.toNatClampNeg) (S (b + 6) v2.toNatClampNeg))) (v2 + (Int32.ofInt 1)) else hq_191_4 b m S (v1 + (Int32.ofInt 0)) (v2 + (Int32.ofInt 1))))
def hq_191 (S : hp_S) (b : Nat) : Int32 := (hq_191_4 b (((S b 8).toInt - (Int32.ofInt 0).toInt).toNat + 1) S ((Int32.ofInt 0)) ((Int32.ofInt 0)))
set_option maxRecDepth 10000 in
theorem ht_191_4 {α : Type} {φ : α → Option Value × hzMem} {R : α} {X : hp_X} (N : Nat) {b : Nat} (hb : hp_b b) (S : hp_S) : ∀ (n : Nat), n ≤ N → ∀ (m : Nat) (v1 : Int32) (v2 : Int32) (Z : Int32), ((S b 8).toInt - v2.toInt).toNat < m → hq_191_4 b m S v1 v2 = Z → (∀ (x2 : Option Value), hp_T N 191 48 [some (.ref b), some (.int Z), x2] [] (hp_mem X S) φ R) → hp_T n 191 4 [some (.ref b), some (.int v1), some (.int v2)] [] (hp_mem X S) φ R := by
  intro n
  induction n with
  | zero => intros; exact hp_0
  | succ n ih =>
    intro hN m v1 v2 Z hm hZ kk
    cases m with
    | zero => exact absurd hm (Nat.not_lt_zero _)
    | succ m =>
      rw [hq_191_4] at hZ
      refine hp_sN [5, 6] (pc' := 6) (L' := [some (.ref b), some (.int v1), some (.int v2)]) (st' := [.ref b, .int v2]) rfl rfl ?_
      refine hp_gf (pc' := 9) rfl (hp_bl hb 0 (by decide)) (hp_b0 hb X _) rfl rfl ?_
      refine hp_ic2 (pc' := 12) rfl rfl (fun h1 => ?_) (fun h1 => ?_)
      · rw [if_pos h1] at hZ
        subst hZ
        exact hp_le hN (kk (some (.int v2)))
      · rw [if_neg (hp_nt h1)] at hZ
        refine hp_sN [13, 14, 15] (pc' := 15) (L' := [some (.ref b), some (.int v1), some (.int v2)]) (st' := [.int v2, .ref b, .int v1]) rfl rfl ?_
        refine hp_iv (virt := true) (pc' := 18) (rv := some (.int (hq_185 S b v2))) (M1 := hp_mem X (S)) rfl rfl (by decide) (hk_185 hb S (v2)) rfl rfl ?_
        show hp_T _ 191 18 _ [.int (hq_185 S b v2), .int v1] _ _ _
        refine hp_if2 (pc' := 21) rfl rfl (fun h2 => ?_) (fun h2 => ?_)
        · rw [if_pos h2] at hZ
          refine hp_sN [26] (pc' := 26) (L' := [some (.ref b), some (.int v1), some (.int v2)]) (st' := [.ref b, .int v1]) rfl rfl ?_
          refine hp_gf (pc' := 29) rfl (hp_bl hb 0 (by decide)) (hp_b0 hb X _) rfl rfl ?_
          refine hp_sN [30] (pc' := 30) (L' := [some (.ref b), some (.int v1), some (.int v2)]) (st' := [.int v2, .ref (b + 5), .int v1]) rfl rfl ?_
          refine hp_al (pc' := 31) rfl (hp_bl hb 5 (by decide)) (hp_b5 hb X _) rfl ?_
          refine hp_sN [32] (pc' := 32) (L' := [some (.ref b), some (.int v1), some (.int v2)]) (st' := [.ref b, .int (S (b + 5) v2.toNatClampNeg), .int v1]) rfl rfl ?_
          refine hp_gf (pc' := 35) rfl (hp_bl hb 0 (by decide)) (hp_b0 hb X _) rfl rfl ?_
          refine hp_sN [36] (pc' := 36) (L' := [some (.ref b), some (.int v1), some (.int v2)]) (st' := [.int v2, .ref (b + 6), .int (S (b + 5) v2.toNatClampNeg), .int v1]) rfl rfl ?_
          refine hp_al (pc' := 37) rfl (hp_bl hb 6 (by decide)) (hp_b6 hb X _) rfl ?_
          refine hp_iv (virt := false) (pc' := 40) (rv := some (.int (hq_169 S (S (b + 5) v2.toNatClampNeg) (S (b + 6) v2.toNatClampNeg)))) (M1 := hp_mem X (S)) rfl rfl (by decide) (hk_169 S ((S (b + 5) v2.toNatClampNeg)) ((S (b + 6) v2.toNatClampNeg))) rfl rfl ?_
          show hp_T _ 191 40 _ [.int (hq_169 S (S (b + 5) v2.toNatClampNeg) (S (b + 6) v2.toNatClampNeg)), .int v1] _ _ _
          refine hp_sB 41 [42, 45, 4] (pc' := 4) (L' := [some (.ref b), some (.int (v1 + (hq_169 S (S (b + 5) v2.toNatClampNeg) (S (b + 6) v2.toNatClampNeg)))), some (.int (v2 + (Int32.ofInt 1)))]) (st' := []) rfl rfl ?_
          exact ih (Nat.le_trans (Nat.le_succ n) hN) m ((v1 + (hq_169 S (S (b + 5) v2.toNatClampNeg) (S (b + 6) v2.toNatClampNeg)))) ((v2 + (Int32.ofInt 1))) Z (hp_up h1 hm) hZ kk
        · rw [if_neg (hp_nt h2)] at hZ
          refine hp_sB 22 [40, 41, 42, 45, 4] (pc' := 4) (L' := [some (.ref b), some (.int (v1 + (Int32.ofInt 0))), some (.int (v2 + (Int32.ofInt 1)))]) (st' := []) rfl rfl ?_
          exact ih (Nat.le_trans (Nat.le_succ n) hN) m ((v1 + (Int32.ofInt 0))) ((v2 + (Int32.ofInt 1))) Z (hp_up h1 hm) hZ kk
set_option maxRecDepth 10000 in
theorem ht_191 {X : hp_X} {b : Nat} (hb : hp_b b) (S : hp_S) (n : Nat) : hp_T n 191 0 [some (.ref b), none, none] [] (hp_mem X S) (hp_i X S) (hq_191 S b) := by
  unfold hq_191
  refine hp_sN [1, 2, 3, 4] (pc' := 4) (L' := [some (.ref b), some (.int (Int32.ofInt 0)), some (.int (Int32.ofInt 0))]) (st' := []) rfl rfl ?_
  refine ht_191_4 n hb S n (Nat.le_refl _) (((S b 8).toInt - (Int32.ofInt 0).toInt).toNat + 1)  ((Int32.ofInt 0)) ((Int32.ofInt 0))  _ (Nat.lt_succ_self _) rfl (fun x2_4 => ?_)
  show hp_T _ 191 48 [some (.ref b), some (.int (hq_191_4 b (((S b 8).toInt - (Int32.ofInt 0).toInt).toNat + 1) S ((Int32.ofInt 0)) ((Int32.ofInt 0)))), x2_4] _ (hp_mem X S) _ _
  refine hp_sN [49] (pc' := 49) (L' := [some (.ref b), some (.int (hq_191_4 b (((S b 8).toInt - (Int32.ofInt 0).toInt).toNat + 1) S ((Int32.ofInt 0)) ((Int32.ofInt 0)))), x2_4]) (st' := [.int (hq_191_4 b (((S b 8).toInt - (Int32.ofInt 0).toInt).toNat + 1) S ((Int32.ofInt 0)) ((Int32.ofInt 0)))]) rfl rfl ?_
  exact hp_Ri rfl
theorem hk_191 {X : hp_X} {b : Nat} (hb : hp_b b) (S : hp_S) : hp_K 191 [.ref b] (hp_mem X S) (hp_i X S) (hq_191 S b) := by
  refine hp_mk (q := hzq_191) rfl (by decide) (L := [some (.ref b), none, none]) rfl (fun n => ?_)
  exact ht_191 hb S n
/-! 13: HatsOfTheWind.then(II)I -/
def hq_13 (S : hp_S) (i1 : Int32) (i2 : Int32) : Int32 × hp_S := (if hz_cmp .eq (hq_50 S i1) 0 = true then ((Int32.ofInt (-1)), S) else (if hz_cmp .ne (hq_44 S i2 (Int32.ofInt 0) (Int32.ofInt 2)) 0 = true then (if hz_cmp .ne i2 0 = true then (if hz_cmp .ne i2 (Int32.ofInt 1) = true then ((hq_191 (hq_55 S i1) 10), hq_55 S i1) else ((hq_216 (hq_55 S i1) (hq_190 (hq_55 S i1) 10)), hq_55 S i1)) else ((hq_189 (hq_55 S i1) 10), hq_55 S i1)) else ((Int32.ofInt (-1)), S)))
theorem hf_13 (S : hp_S) (i1 : Int32) (i2 : Int32) (j : Nat) (z0 : j ≠ (10 + 1)) (z1 : j ≠ 10) (z2 : j ≠ (10 + 2)) (z3 : j ≠ (10 + 3)) (z4 : j ≠ (10 + 4)) (z5 : j ≠ (10 + 5)) (z6 : j ≠ (10 + 6)) (z7 : j ≠ (10 + 7)) (z8 : j ≠ (10 + 8)) : (hq_13 S i1 i2).2 j = S j := by
  unfold hq_13
  repeat' split
  all_goals simp [hp_wo, hp_wgo, hp_cpo, hf_55, z0, z1, z2, z3, z4, z5, z6, z7, z8]
set_option maxRecDepth 10000 in
theorem ht_13 {X : hp_X} (S : hp_S) (i1 : Int32) (i2 : Int32) (n : Nat) : hp_T n 13 0 [some (.ref 0), some (.int i1), some (.int i2)] [] (hp_mem X S) (hp_is X) (hq_13 S i1 i2) := by
  unfold hq_13
  refine hp_sN [1] (pc' := 1) (L' := [some (.ref 0), some (.int i1), some (.int i2)]) (st' := [.int i1]) rfl rfl ?_
  refine hp_iv (virt := false) (pc' := 4) (rv := some (.int (hq_50 S i1))) (M1 := hp_mem X (S)) rfl rfl (by decide) (hk_50 S (i1)) rfl rfl ?_
  show hp_T _ 13 4 _ [.int (hq_50 S i1)] _ _ _
  refine hp_if (pc' := 7) rfl rfl (fun h1 => ?_) (fun h1 => ?_)
  · refine hp_sN [17] (pc' := 17) (L' := [some (.ref 0), some (.int i1), some (.int i2)]) (st' := [.int (Int32.ofInt (-1))]) rfl rfl ?_
    exact hp_Ris rfl
  · refine hp_sN [8, 9, 10] (pc' := 10) (L' := [some (.ref 0), some (.int i1), some (.int i2)]) (st' := [.int (Int32.ofInt 2), .int (Int32.ofInt 0), .int i2]) rfl rfl ?_
    refine hp_iv (virt := false) (pc' := 13) (rv := some (.int (hq_44 S i2 (Int32.ofInt 0) (Int32.ofInt 2)))) (M1 := hp_mem X (S)) rfl rfl (by decide) (hk_44 S (i2) ((Int32.ofInt 0)) ((Int32.ofInt 2))) rfl rfl ?_
    show hp_T _ 13 13 _ [.int (hq_44 S i2 (Int32.ofInt 0) (Int32.ofInt 2))] _ _ _
    refine hp_if (pc' := 16) rfl rfl (fun h2 => ?_) (fun h2 => ?_)
    · refine hp_sN [19, 20] (pc' := 20) (L' := [some (.ref 0), some (.int i1), some (.int i2)]) (st' := [.int i1, .ref 0]) rfl rfl ?_
      refine hp_iv (virt := true) (pc' := 23) (rv := none) (M1 := hp_mem X (hq_55 S i1)) rfl rfl (by decide) (hk_55 S (i1)) rfl rfl ?_
      show hp_T _ 13 23 _ [] _ _ _
      refine hp_sN [24] (pc' := 24) (L' := [some (.ref 0), some (.int i1), some (.int i2)]) (st' := [.int i2]) rfl rfl ?_
      refine hp_if (pc' := 27) rfl rfl (fun h3 => ?_) (fun h3 => ?_)
      · refine hp_sN [36, 37] (pc' := 37) (L' := [some (.ref 0), some (.int i1), some (.int i2)]) (st' := [.int (Int32.ofInt 1), .int i2]) rfl rfl ?_
        refine hp_ic (pc' := 40) rfl rfl (fun h4 => ?_) (fun h4 => ?_)
        · refine hp_sN [54] (pc' := 54) (L' := [some (.ref 0), some (.int i1), some (.int i2)]) (st' := [.ref 0]) rfl rfl ?_
          refine hp_gf (pc' := 57) rfl (by decide) (hp_c0 X _) rfl rfl ?_
          refine hp_iv (virt := true) (pc' := 60) (rv := some (.int (hq_191 (hq_55 S i1) 10))) (M1 := hp_mem X (hq_55 S i1)) rfl rfl (by decide) (hk_191 (Or.inr (Or.inl rfl)) (hq_55 S i1)) rfl rfl ?_
          show hp_T _ 13 60 _ [.int (hq_191 (hq_55 S i1) 10)] _ _ _
          exact hp_Ris rfl
        · refine hp_sN [41] (pc' := 41) (L' := [some (.ref 0), some (.int i1), some (.int i2)]) (st' := [.ref 0]) rfl rfl ?_
          refine hp_gf (pc' := 44) rfl (by decide) (hp_c0 X _) rfl rfl ?_
          refine hp_iv (virt := true) (pc' := 47) (rv := some (.int (hq_190 (hq_55 S i1) 10))) (M1 := hp_mem X (hq_55 S i1)) rfl rfl (by decide) (hk_190 (Or.inr (Or.inl rfl)) (hq_55 S i1)) rfl rfl ?_
          show hp_T _ 13 47 _ [.int (hq_190 (hq_55 S i1) 10)] _ _ _
          refine hp_iv (virt := false) (pc' := 50) (rv := some (.int (hq_216 (hq_55 S i1) (hq_190 (hq_55 S i1) 10)))) (M1 := hp_mem X (hq_55 S i1)) rfl rfl (by decide) (hk_216 (hq_55 S i1) ((hq_190 (hq_55 S i1) 10))) rfl rfl ?_
          show hp_T _ 13 50 _ [.int (hq_216 (hq_55 S i1) (hq_190 (hq_55 S i1) 10))] _ _ _
          refine hp_sN [60] (pc' := 60) (L' := [some (.ref 0), some (.int i1), some (.int i2)]) (st' := [.int (hq_216 (hq_55 S i1) (hq_190 (hq_55 S i1) 10))]) rfl rfl ?_
          exact hp_Ris rfl
      · refine hp_sN [28] (pc' := 28) (L' := [some (.ref 0), some (.int i1), some (.int i2)]) (st' := [.ref 0]) rfl rfl ?_
        refine hp_gf (pc' := 31) rfl (by decide) (hp_c0 X _) rfl rfl ?_
        refine hp_iv (virt := true) (pc' := 34) (rv := some (.int (hq_189 (hq_55 S i1) 10))) (M1 := hp_mem X (hq_55 S i1)) rfl rfl (by decide) (hk_189 (Or.inr (Or.inl rfl)) (hq_55 S i1)) rfl rfl ?_
        show hp_T _ 13 34 _ [.int (hq_189 (hq_55 S i1) 10)] _ _ _
        exact hp_Ris rfl
    · refine hp_sN [17] (pc' := 17) (L' := [some (.ref 0), some (.int i1), some (.int i2)]) (st' := [.int (Int32.ofInt (-1))]) rfl rfl ?_
      exact hp_Ris rfl
theorem hk_13 {X : hp_X} (S : hp_S) (i1 : Int32) (i2 : Int32) : hp_K 13 [.ref 0, .int i1, .int i2] (hp_mem X S) (hp_is X) (hq_13 S i1 i2) := by
  refine hp_mk (q := hzq_13) rfl (by decide) (L := [some (.ref 0), some (.int i1), some (.int i2)]) rfl (fun n => ?_)
  exact ht_13 S i1 i2 n
/-! 183: HatsOfTheWind$Street.isWorn(I)Z -/
def hq_183 (S : hp_S) (b : Nat) (i1 : Int32) : Int32 := (if hz_cmp .eq (S (b + 7) i1.toNatClampNeg) (Int32.ofInt 9) = true then (Int32.ofInt 0) else (Int32.ofInt 1))
set_option maxRecDepth 10000 in
theorem ht_183 {X : hp_X} {b : Nat} (hb : hp_b b) (S : hp_S) (i1 : Int32) (n : Nat) : hp_T n 183 0 [some (.ref b), some (.int i1)] [] (hp_mem X S) (hp_i X S) (hq_183 S b i1) := by
  unfold hq_183
  refine hp_sN [1] (pc' := 1) (L' := [some (.ref b), some (.int i1)]) (st' := [.ref b]) rfl rfl ?_
  refine hp_gf (pc' := 4) rfl (hp_bl hb 0 (by decide)) (hp_b0 hb X _) rfl rfl ?_
  refine hp_sN [5] (pc' := 5) (L' := [some (.ref b), some (.int i1)]) (st' := [.int i1, .ref (b + 7)]) rfl rfl ?_
  refine hp_al (pc' := 6) rfl (hp_bl hb 7 (by decide)) (hp_b7 hb X _) rfl ?_
  refine hp_sN [8] (pc' := 8) (L' := [some (.ref b), some (.int i1)]) (st' := [.int (Int32.ofInt 9), .int (S (b + 7) i1.toNatClampNeg)]) rfl rfl ?_
  refine hp_ic (pc' := 11) rfl rfl (fun h1 => ?_) (fun h1 => ?_)
  · refine hp_sN [16] (pc' := 16) (L' := [some (.ref b), some (.int i1)]) (st' := [.int (Int32.ofInt 0)]) rfl rfl ?_
    exact hp_Ri rfl
  · refine hp_sN [12, 16] (pc' := 16) (L' := [some (.ref b), some (.int i1)]) (st' := [.int (Int32.ofInt 1)]) rfl rfl ?_
    exact hp_Ri rfl
theorem hk_183 {X : hp_X} {b : Nat} (hb : hp_b b) (S : hp_S) (i1 : Int32) : hp_K 183 [.ref b, .int i1] (hp_mem X S) (hp_i X S) (hq_183 S b i1) := by
  refine hp_mk (q := hzq_183) rfl (by decide) (L := [some (.ref b), some (.int i1)]) rfl (fun n => ?_)
  exact ht_183 hb S i1 n
/-! 56: HatsOfTheWind.hourTaken(II)I -/
def hq_56_13 (i1 : Int32) (i2 : Int32) : Nat → hp_S → Int32 → Int32 → Int32 × hp_S
  | 0, S, _, _ => (0, S)
  | m + 1, S, v3, v4 => (if hz_cmp .gt v4 i2 = true then ((Int32.ofInt (-4)), S) else (if hz_cmp .eq (hq_201 S 10 (10 + 7) i1.toNatClampNeg) v3 = true then hq_56_13 i1 i2 m (hq_201 S 10) v3 (v4 + (Int32.ofInt 1)) else (v4, hq_201 S 10)))
def hq_56 (S : hp_S) (i1 : Int32) (i2 : Int32) : Int32 × hp_S := (hq_56_13 i1 i2 ((i2.toInt + 1 - (Int32.ofInt 1).toInt).toNat + 1) S ((S (10 + 7) i1.toNatClampNeg)) ((Int32.ofInt 1)))
theorem hf_56_13 {i1 : Int32} {i2 : Int32} (j : Nat) (z0 : j ≠ (10 + 7)) (z1 : j ≠ (10 + 8)) (z2 : j ≠ (10 + 2)) (z3 : j ≠ 10) : ∀ (m : Nat) (S : hp_S) (v3 : Int32) (v4 : Int32), (hq_56_13 i1 i2 m S v3 v4).2 j = S j := by
  intro m
  induction m with
  | zero => intros; rfl
  | succ m ih =>
    intro S v3 v4
    rw [hq_56_13]
    repeat' split
    all_goals simp [ih, hp_wo, hp_wgo, hp_cpo, hf_201, z0, z1, z2, z3]
theorem hf_56 (S : hp_S) (i1 : Int32) (i2 : Int32) (j : Nat) (z0 : j ≠ (10 + 7)) (z1 : j ≠ (10 + 8)) (z2 : j ≠ (10 + 2)) (z3 : j ≠ 10) : (hq_56 S i1 i2).2 j = S j := by
  unfold hq_56
  repeat' split
  all_goals simp [hp_wo, hp_wgo, hp_cpo, hf_201, z0, z1, z2, z3, hf_56_13]
set_option maxRecDepth 10000 in
theorem ht_56_13 {X : hp_X} (i1 : Int32) (i2 : Int32) (hn : i2.toInt < 2147483647) : ∀ (n m : Nat) (S : hp_S) (v3 : Int32) (v4 : Int32), (i2.toInt + 1 - v4.toInt).toNat < m → hp_T n 56 13 [some (.ref 0), some (.int i1), some (.int i2), some (.int v3), some (.int v4)] [] (hp_mem X S) (hp_is X) (hq_56_13 i1 i2 m S v3 v4) := by
  intro n
  induction n with
  | zero => intros; exact hp_0
  | succ n ih =>
    intro m S v3 v4 hm
    cases m with
    | zero => exact absurd hm (Nat.not_lt_zero _)
    | succ m =>
      rw [hq_56_13]
      refine hp_sN [15, 16] (pc' := 16) (L' := [some (.ref 0), some (.int i1), some (.int i2), some (.int v3), some (.int v4)]) (st' := [.int i2, .int v4]) rfl rfl ?_
      refine hp_ic (pc' := 19) rfl rfl (fun h1 => ?_) (fun h1 => ?_)
      · refine hp_sN [50] (pc' := 50) (L' := [some (.ref 0), some (.int i1), some (.int i2), some (.int v3), some (.int v4)]) (st' := [.int (Int32.ofInt (-4))]) rfl rfl ?_
        exact hp_Ris rfl
      · refine hp_sN [20] (pc' := 20) (L' := [some (.ref 0), some (.int i1), some (.int i2), some (.int v3), some (.int v4)]) (st' := [.ref 0]) rfl rfl ?_
        refine hp_gf (pc' := 23) rfl (by decide) (hp_c0 X _) rfl rfl ?_
        refine hp_iv (virt := true) (pc' := 26) (rv := none) (M1 := hp_mem X (hq_201 S 10)) rfl rfl (by decide) (hk_201 (Or.inr (Or.inl rfl)) S) rfl rfl ?_
        show hp_T _ 56 26 _ [] _ _ _
        refine hp_sN [27] (pc' := 27) (L' := [some (.ref 0), some (.int i1), some (.int i2), some (.int v3), some (.int v4)]) (st' := [.ref 0]) rfl rfl ?_
        refine hp_gf (pc' := 30) rfl (by decide) (hp_c0 X _) rfl rfl ?_
        refine hp_gf (pc' := 33) rfl (hp_bl (Or.inr (Or.inl rfl)) 0 (by decide)) (hp_b0 (Or.inr (Or.inl rfl)) X _) rfl rfl ?_
        refine hp_sN [34] (pc' := 34) (L' := [some (.ref 0), some (.int i1), some (.int i2), some (.int v3), some (.int v4)]) (st' := [.int i1, .ref (10 + 7)]) rfl rfl ?_
        refine hp_al (pc' := 35) rfl (hp_bl (Or.inr (Or.inl rfl)) 7 (by decide)) (hp_b7 (Or.inr (Or.inl rfl)) X _) rfl ?_
        refine hp_sN [36] (pc' := 36) (L' := [some (.ref 0), some (.int i1), some (.int i2), some (.int v3), some (.int v4)]) (st' := [.int v3, .int (hq_201 S 10 (10 + 7) i1.toNatClampNeg)]) rfl rfl ?_
        refine hp_ic (pc' := 39) rfl rfl (fun h2 => ?_) (fun h2 => ?_)
        · refine hp_sB 45 [13] (pc' := 13) (L' := [some (.ref 0), some (.int i1), some (.int i2), some (.int v3), some (.int (v4 + (Int32.ofInt 1)))]) (st' := []) rfl rfl ?_
          exact ih m (hq_201 S 10) (v3) ((v4 + (Int32.ofInt 1))) (hp_up2 h1 hm hn)
        · refine hp_sN [41] (pc' := 41) (L' := [some (.ref 0), some (.int i1), some (.int i2), some (.int v3), some (.int v4)]) (st' := [.int v4]) rfl rfl ?_
          exact hp_Ris rfl
set_option maxRecDepth 10000 in
theorem ht_56 {X : hp_X} (S : hp_S) (i1 : Int32) (i2 : Int32) (hn : i2.toInt < 2147483647) (n : Nat) : hp_T n 56 0 [some (.ref 0), some (.int i1), some (.int i2), none, none] [] (hp_mem X S) (hp_is X) (hq_56 S i1 i2) := by
  unfold hq_56
  refine hp_sN [1] (pc' := 1) (L' := [some (.ref 0), some (.int i1), some (.int i2), none, none]) (st' := [.ref 0]) rfl rfl ?_
  refine hp_gf (pc' := 4) rfl (by decide) (hp_c0 X _) rfl rfl ?_
  refine hp_gf (pc' := 7) rfl (hp_bl (Or.inr (Or.inl rfl)) 0 (by decide)) (hp_b0 (Or.inr (Or.inl rfl)) X _) rfl rfl ?_
  refine hp_sN [8] (pc' := 8) (L' := [some (.ref 0), some (.int i1), some (.int i2), none, none]) (st' := [.int i1, .ref (10 + 7)]) rfl rfl ?_
  refine hp_al (pc' := 9) rfl (hp_bl (Or.inr (Or.inl rfl)) 7 (by decide)) (hp_b7 (Or.inr (Or.inl rfl)) X _) rfl ?_
  refine hp_sN [10, 11, 13] (pc' := 13) (L' := [some (.ref 0), some (.int i1), some (.int i2), some (.int (S (10 + 7) i1.toNatClampNeg)), some (.int (Int32.ofInt 1))]) (st' := []) rfl rfl ?_
  exact ht_56_13 i1 i2 hn  n ((i2.toInt + 1 - (Int32.ofInt 1).toInt).toNat + 1) S ((S (10 + 7) i1.toNatClampNeg)) ((Int32.ofInt 1))  (Nat.lt_succ_self _)
theorem hk_56 {X : hp_X} (S : hp_S) (i1 : Int32) (i2 : Int32) (hn : i2.toInt < 2147483647) : hp_K 56 [.ref 0, .int i1, .int i2] (hp_mem X S) (hp_is X) (hq_56 S i1 i2) := by
  refine hp_mk (q := hzq_56) rfl (by decide) (L := [some (.ref 0), some (.int i1), some (.int i2), none, none]) rfl (fun n => ?_)
  exact ht_56 S i1 i2 hn n
/-! 14: HatsOfTheWind.taken(I)I -/
def hq_14 (S : hp_S) (i1 : Int32) : Int32 × hp_S := (if hz_cmp .ne (hq_182 S 1 i1) 0 = true then (if hz_cmp .ne (hq_183 S 1 i1) 0 = true then ((hq_56 (hq_55 S (Int32.ofInt 0)) i1 (Int32.ofInt 99)).1, (hq_56 (hq_55 S (Int32.ofInt 0)) i1 (Int32.ofInt 99)).2) else ((Int32.ofInt (-3)), S)) else ((Int32.ofInt (-1)), S))
theorem hf_14 (S : hp_S) (i1 : Int32) (j : Nat) (z0 : j ≠ (10 + 1)) (z1 : j ≠ 10) (z2 : j ≠ (10 + 2)) (z3 : j ≠ (10 + 3)) (z4 : j ≠ (10 + 4)) (z5 : j ≠ (10 + 5)) (z6 : j ≠ (10 + 6)) (z7 : j ≠ (10 + 7)) (z8 : j ≠ (10 + 8)) : (hq_14 S i1).2 j = S j := by
  unfold hq_14
  repeat' split
  all_goals simp [hp_wo, hp_wgo, hp_cpo, hf_55, hf_56, z0, z1, z2, z3, z4, z5, z6, z7, z8]
set_option maxRecDepth 10000 in
theorem ht_14 {X : hp_X} (S : hp_S) (i1 : Int32) (n : Nat) : hp_T n 14 0 [some (.ref 0), some (.int i1)] [] (hp_mem X S) (hp_is X) (hq_14 S i1) := by
  unfold hq_14
  refine hp_sN [1] (pc' := 1) (L' := [some (.ref 0), some (.int i1)]) (st' := [.ref 0]) rfl rfl ?_
  refine hp_gf (pc' := 4) rfl (by decide) (hp_c0 X _) rfl rfl ?_
  refine hp_sN [5] (pc' := 5) (L' := [some (.ref 0), some (.int i1)]) (st' := [.int i1, .ref 1]) rfl rfl ?_
  refine hp_iv (virt := true) (pc' := 8) (rv := some (.int (hq_182 S 1 i1))) (M1 := hp_mem X (S)) rfl rfl (by decide) (hk_182 (Or.inl rfl) S (i1)) rfl rfl ?_
  show hp_T _ 14 8 _ [.int (hq_182 S 1 i1)] _ _ _
  refine hp_if (pc' := 11) rfl rfl (fun h1 => ?_) (fun h1 => ?_)
  · refine hp_sN [14] (pc' := 14) (L' := [some (.ref 0), some (.int i1)]) (st' := [.ref 0]) rfl rfl ?_
    refine hp_gf (pc' := 17) rfl (by decide) (hp_c0 X _) rfl rfl ?_
    refine hp_sN [18] (pc' := 18) (L' := [some (.ref 0), some (.int i1)]) (st' := [.int i1, .ref 1]) rfl rfl ?_
    refine hp_iv (virt := true) (pc' := 21) (rv := some (.int (hq_183 S 1 i1))) (M1 := hp_mem X (S)) rfl rfl (by decide) (hk_183 (Or.inl rfl) S (i1)) rfl rfl ?_
    show hp_T _ 14 21 _ [.int (hq_183 S 1 i1)] _ _ _
    refine hp_if (pc' := 24) rfl rfl (fun h2 => ?_) (fun h2 => ?_)
    · refine hp_sN [28, 29] (pc' := 29) (L' := [some (.ref 0), some (.int i1)]) (st' := [.int (Int32.ofInt 0), .ref 0]) rfl rfl ?_
      refine hp_iv (virt := true) (pc' := 32) (rv := none) (M1 := hp_mem X (hq_55 S (Int32.ofInt 0))) rfl rfl (by decide) (hk_55 S ((Int32.ofInt 0))) rfl rfl ?_
      show hp_T _ 14 32 _ [] _ _ _
      refine hp_sN [33, 34, 36] (pc' := 36) (L' := [some (.ref 0), some (.int i1)]) (st' := [.int (Int32.ofInt 99), .int i1, .ref 0]) rfl rfl ?_
      refine hp_iv (virt := true) (pc' := 39) (rv := some (.int (hq_56 (hq_55 S (Int32.ofInt 0)) i1 (Int32.ofInt 99)).1)) (M1 := hp_mem X ((hq_56 (hq_55 S (Int32.ofInt 0)) i1 (Int32.ofInt 99)).2)) rfl rfl (by decide) (hk_56 (hq_55 S (Int32.ofInt 0)) (i1) ((Int32.ofInt 99)) (by decide)) rfl rfl ?_
      show hp_T _ 14 39 _ [.int (hq_56 (hq_55 S (Int32.ofInt 0)) i1 (Int32.ofInt 99)).1] _ _ _
      exact hp_Ris rfl
    · refine hp_sN [26] (pc' := 26) (L' := [some (.ref 0), some (.int i1)]) (st' := [.int (Int32.ofInt (-3))]) rfl rfl ?_
      exact hp_Ris rfl
  · refine hp_sN [12] (pc' := 12) (L' := [some (.ref 0), some (.int i1)]) (st' := [.int (Int32.ofInt (-1))]) rfl rfl ?_
    exact hp_Ris rfl
theorem hk_14 {X : hp_X} (S : hp_S) (i1 : Int32) : hp_K 14 [.ref 0, .int i1] (hp_mem X S) (hp_is X) (hq_14 S i1) := by
  refine hp_mk (q := hzq_14) rfl (by decide) (L := [some (.ref 0), some (.int i1)]) rfl (fun n => ?_)
  exact ht_14 S i1 n
/-! 15: HatsOfTheWind.caught(I)I -/
def hq_15_20 (i1 : Int32) : Nat → hp_S → Int32 → Int32 × hp_S
  | 0, S, _ => (0, S)
  | m + 1, S, v2 => (if hz_cmp .gt v2 (Int32.ofInt 99) = true then ((Int32.ofInt (-4)), S) else (if hz_cmp .ne (hq_188 S 10 i1) 0 = true then hq_15_20 i1 m (hq_201 S 10) (v2 + (Int32.ofInt 1)) else (v2, S)))
def hq_15 (S : hp_S) (i1 : Int32) : Int32 × hp_S := (if hz_cmp .ne (hq_181 S 1 i1) 0 = true then (hq_15_20 i1 (((Int32.ofInt 99).toInt + 1 - (Int32.ofInt 0).toInt).toNat + 1) (hq_55 S (Int32.ofInt 0)) ((Int32.ofInt 0))) else ((Int32.ofInt (-1)), S))
theorem hf_15_20 {i1 : Int32} (j : Nat) (z0 : j ≠ (10 + 1)) (z1 : j ≠ 10) (z2 : j ≠ (10 + 2)) (z3 : j ≠ (10 + 3)) (z4 : j ≠ (10 + 4)) (z5 : j ≠ (10 + 5)) (z6 : j ≠ (10 + 6)) (z7 : j ≠ (10 + 7)) (z8 : j ≠ (10 + 8)) : ∀ (m : Nat) (S : hp_S) (v2 : Int32), (hq_15_20 i1 m S v2).2 j = S j := by
  intro m
  induction m with
  | zero => intros; rfl
  | succ m ih =>
    intro S v2
    rw [hq_15_20]
    repeat' split
    all_goals simp [ih, hp_wo, hp_wgo, hp_cpo, hf_55, hf_201, z0, z1, z2, z3, z4, z5, z6, z7, z8]
theorem hf_15 (S : hp_S) (i1 : Int32) (j : Nat) (z0 : j ≠ (10 + 1)) (z1 : j ≠ 10) (z2 : j ≠ (10 + 2)) (z3 : j ≠ (10 + 3)) (z4 : j ≠ (10 + 4)) (z5 : j ≠ (10 + 5)) (z6 : j ≠ (10 + 6)) (z7 : j ≠ (10 + 7)) (z8 : j ≠ (10 + 8)) : (hq_15 S i1).2 j = S j := by
  unfold hq_15
  repeat' split
  all_goals simp [hp_wo, hp_wgo, hp_cpo, hf_55, hf_201, z0, z1, z2, z3, z4, z5, z6, z7, z8, hf_15_20]
set_option maxRecDepth 10000 in
theorem ht_15_20 {X : hp_X} (i1 : Int32) : ∀ (n m : Nat) (S : hp_S) (v2 : Int32), ((Int32.ofInt 99).toInt + 1 - v2.toInt).toNat < m → hp_T n 15 20 [some (.ref 0), some (.int i1), some (.int v2)] [] (hp_mem X S) (hp_is X) (hq_15_20 i1 m S v2) := by
  intro n
  induction n with
  | zero => intros; exact hp_0
  | succ n ih =>
    intro m S v2 hm
    cases m with
    | zero => exact absurd hm (Nat.not_lt_zero _)
    | succ m =>
      rw [hq_15_20]
      refine hp_sN [21, 23] (pc' := 23) (L' := [some (.ref 0), some (.int i1), some (.int v2)]) (st' := [.int (Int32.ofInt 99), .int v2]) rfl rfl ?_
      refine hp_ic (pc' := 26) rfl rfl (fun h1 => ?_) (fun h1 => ?_)
      · refine hp_sN [54] (pc' := 54) (L' := [some (.ref 0), some (.int i1), some (.int v2)]) (st' := [.int (Int32.ofInt (-4))]) rfl rfl ?_
        exact hp_Ris rfl
      · refine hp_sN [27] (pc' := 27) (L' := [some (.ref 0), some (.int i1), some (.int v2)]) (st' := [.ref 0]) rfl rfl ?_
        refine hp_gf (pc' := 30) rfl (by decide) (hp_c0 X _) rfl rfl ?_
        refine hp_sN [31] (pc' := 31) (L' := [some (.ref 0), some (.int i1), some (.int v2)]) (st' := [.int i1, .ref 10]) rfl rfl ?_
        refine hp_iv (virt := true) (pc' := 34) (rv := some (.int (hq_188 S 10 i1))) (M1 := hp_mem X (S)) rfl rfl (by decide) (hk_188 (Or.inr (Or.inl rfl)) S (i1)) rfl rfl ?_
        show hp_T _ 15 34 _ [.int (hq_188 S 10 i1)] _ _ _
        refine hp_if (pc' := 37) rfl rfl (fun h2 => ?_) (fun h2 => ?_)
        · refine hp_sN [40] (pc' := 40) (L' := [some (.ref 0), some (.int i1), some (.int v2)]) (st' := [.ref 0]) rfl rfl ?_
          refine hp_gf (pc' := 43) rfl (by decide) (hp_c0 X _) rfl rfl ?_
          refine hp_iv (virt := true) (pc' := 46) (rv := none) (M1 := hp_mem X (hq_201 S 10)) rfl rfl (by decide) (hk_201 (Or.inr (Or.inl rfl)) S) rfl rfl ?_
          show hp_T _ 15 46 _ [] _ _ _
          refine hp_sB 49 [20] (pc' := 20) (L' := [some (.ref 0), some (.int i1), some (.int (v2 + (Int32.ofInt 1)))]) (st' := []) rfl rfl ?_
          exact ih m (hq_201 S 10) ((v2 + (Int32.ofInt 1))) (hp_up2 h1 hm (by decide))
        · refine hp_sN [38] (pc' := 38) (L' := [some (.ref 0), some (.int i1), some (.int v2)]) (st' := [.int v2]) rfl rfl ?_
          exact hp_Ris rfl
set_option maxRecDepth 10000 in
theorem ht_15 {X : hp_X} (S : hp_S) (i1 : Int32) (n : Nat) : hp_T n 15 0 [some (.ref 0), some (.int i1), none] [] (hp_mem X S) (hp_is X) (hq_15 S i1) := by
  unfold hq_15
  refine hp_sN [1] (pc' := 1) (L' := [some (.ref 0), some (.int i1), none]) (st' := [.ref 0]) rfl rfl ?_
  refine hp_gf (pc' := 4) rfl (by decide) (hp_c0 X _) rfl rfl ?_
  refine hp_sN [5] (pc' := 5) (L' := [some (.ref 0), some (.int i1), none]) (st' := [.int i1, .ref 1]) rfl rfl ?_
  refine hp_iv (virt := true) (pc' := 8) (rv := some (.int (hq_181 S 1 i1))) (M1 := hp_mem X (S)) rfl rfl (by decide) (hk_181 (Or.inl rfl) S (i1)) rfl rfl ?_
  show hp_T _ 15 8 _ [.int (hq_181 S 1 i1)] _ _ _
  refine hp_if (pc' := 11) rfl rfl (fun h1 => ?_) (fun h1 => ?_)
  · refine hp_sN [14, 15] (pc' := 15) (L' := [some (.ref 0), some (.int i1), none]) (st' := [.int (Int32.ofInt 0), .ref 0]) rfl rfl ?_
    refine hp_iv (virt := true) (pc' := 18) (rv := none) (M1 := hp_mem X (hq_55 S (Int32.ofInt 0))) rfl rfl (by decide) (hk_55 S ((Int32.ofInt 0))) rfl rfl ?_
    show hp_T _ 15 18 _ [] _ _ _
    refine hp_sN [19, 20] (pc' := 20) (L' := [some (.ref 0), some (.int i1), some (.int (Int32.ofInt 0))]) (st' := []) rfl rfl ?_
    exact ht_15_20 i1  n (((Int32.ofInt 99).toInt + 1 - (Int32.ofInt 0).toInt).toNat + 1) (hq_55 S (Int32.ofInt 0)) ((Int32.ofInt 0))  (Nat.lt_succ_self _)
  · refine hp_sN [12] (pc' := 12) (L' := [some (.ref 0), some (.int i1), none]) (st' := [.int (Int32.ofInt (-1))]) rfl rfl ?_
    exact hp_Ris rfl
theorem hk_15 {X : hp_X} (S : hp_S) (i1 : Int32) : hp_K 15 [.ref 0, .int i1] (hp_mem X S) (hp_is X) (hq_15 S i1) := by
  refine hp_mk (q := hzq_15) rfl (by decide) (L := [some (.ref 0), some (.int i1), none]) rfl (fun n => ?_)
  exact ht_15 S i1 n
/-! 16: HatsOfTheWind.back(II)I -/
def hq_16_31 (i1 : Int32) (i2 : Int32) : Nat → hp_S → Int32 → Int32 × hp_S
  | 0, S, _ => (0, S)
  | m + 1, S, v3 => (if hz_cmp .gt v3 (Int32.ofInt 99) = true then ((Int32.ofInt (-4)), S) else (if hz_cmp .ne (S (10 + 7) i2.toNatClampNeg) i1 = true then hq_16_31 i1 i2 m (hq_201 S 10) (v3 + (Int32.ofInt 1)) else (v3, S)))
def hq_16 (S : hp_S) (i1 : Int32) (i2 : Int32) : Int32 × hp_S := (if hz_cmp .eq (hq_181 S 1 i1) 0 = true then ((Int32.ofInt (-1)), S) else (if hz_cmp .ne (hq_182 S 1 i2) 0 = true then (hq_16_31 i1 i2 (((Int32.ofInt 99).toInt + 1 - (Int32.ofInt 0).toInt).toNat + 1) (hq_55 S (Int32.ofInt 0)) ((Int32.ofInt 0))) else ((Int32.ofInt (-1)), S)))
theorem hf_16_31 {i1 : Int32} {i2 : Int32} (j : Nat) (z0 : j ≠ (10 + 1)) (z1 : j ≠ 10) (z2 : j ≠ (10 + 2)) (z3 : j ≠ (10 + 3)) (z4 : j ≠ (10 + 4)) (z5 : j ≠ (10 + 5)) (z6 : j ≠ (10 + 6)) (z7 : j ≠ (10 + 7)) (z8 : j ≠ (10 + 8)) : ∀ (m : Nat) (S : hp_S) (v3 : Int32), (hq_16_31 i1 i2 m S v3).2 j = S j := by
  intro m
  induction m with
  | zero => intros; rfl
  | succ m ih =>
    intro S v3
    rw [hq_16_31]
    repeat' split
    all_goals simp [ih, hp_wo, hp_wgo, hp_cpo, hf_55, hf_201, z0, z1, z2, z3, z4, z5, z6, z7, z8]
theorem hf_16 (S : hp_S) (i1 : Int32) (i2 : Int32) (j : Nat) (z0 : j ≠ (10 + 1)) (z1 : j ≠ 10) (z2 : j ≠ (10 + 2)) (z3 : j ≠ (10 + 3)) (z4 : j ≠ (10 + 4)) (z5 : j ≠ (10 + 5)) (z6 : j ≠ (10 + 6)) (z7 : j ≠ (10 + 7)) (z8 : j ≠ (10 + 8)) : (hq_16 S i1 i2).2 j = S j := by
  unfold hq_16
  repeat' split
  all_goals simp [hp_wo, hp_wgo, hp_cpo, hf_55, hf_201, z0, z1, z2, z3, z4, z5, z6, z7, z8, hf_16_31]
set_option maxRecDepth 10000 in
theorem ht_16_31 {X : hp_X} (i1 : Int32) (i2 : Int32) : ∀ (n m : Nat) (S : hp_S) (v3 : Int32), ((Int32.ofInt 99).toInt + 1 - v3.toInt).toNat < m → hp_T n 16 31 [some (.ref 0), some (.int i1), some (.int i2), some (.int v3)] [] (hp_mem X S) (hp_is X) (hq_16_31 i1 i2 m S v3) := by
  intro n
  induction n with
  | zero => intros; exact hp_0
  | succ n ih =>
    intro m S v3 hm
    cases m with
    | zero => exact absurd hm (Nat.not_lt_zero _)
    | succ m =>
      rw [hq_16_31]
      refine hp_sN [32, 34] (pc' := 34) (L' := [some (.ref 0), some (.int i1), some (.int i2), some (.int v3)]) (st' := [.int (Int32.ofInt 99), .int v3]) rfl rfl ?_
      refine hp_ic (pc' := 37) rfl rfl (fun h1 => ?_) (fun h1 => ?_)
      · refine hp_sN [67] (pc' := 67) (L' := [some (.ref 0), some (.int i1), some (.int i2), some (.int v3)]) (st' := [.int (Int32.ofInt (-4))]) rfl rfl ?_
        exact hp_Ris rfl
      · refine hp_sN [38] (pc' := 38) (L' := [some (.ref 0), some (.int i1), some (.int i2), some (.int v3)]) (st' := [.ref 0]) rfl rfl ?_
        refine hp_gf (pc' := 41) rfl (by decide) (hp_c0 X _) rfl rfl ?_
        refine hp_gf (pc' := 44) rfl (hp_bl (Or.inr (Or.inl rfl)) 0 (by decide)) (hp_b0 (Or.inr (Or.inl rfl)) X _) rfl rfl ?_
        refine hp_sN [45] (pc' := 45) (L' := [some (.ref 0), some (.int i1), some (.int i2), some (.int v3)]) (st' := [.int i2, .ref (10 + 7)]) rfl rfl ?_
        refine hp_al (pc' := 46) rfl (hp_bl (Or.inr (Or.inl rfl)) 7 (by decide)) (hp_b7 (Or.inr (Or.inl rfl)) X _) rfl ?_
        refine hp_sN [47] (pc' := 47) (L' := [some (.ref 0), some (.int i1), some (.int i2), some (.int v3)]) (st' := [.int i1, .int (S (10 + 7) i2.toNatClampNeg)]) rfl rfl ?_
        refine hp_ic (pc' := 50) rfl rfl (fun h2 => ?_) (fun h2 => ?_)
        · refine hp_sN [53] (pc' := 53) (L' := [some (.ref 0), some (.int i1), some (.int i2), some (.int v3)]) (st' := [.ref 0]) rfl rfl ?_
          refine hp_gf (pc' := 56) rfl (by decide) (hp_c0 X _) rfl rfl ?_
          refine hp_iv (virt := true) (pc' := 59) (rv := none) (M1 := hp_mem X (hq_201 S 10)) rfl rfl (by decide) (hk_201 (Or.inr (Or.inl rfl)) S) rfl rfl ?_
          show hp_T _ 16 59 _ [] _ _ _
          refine hp_sB 62 [31] (pc' := 31) (L' := [some (.ref 0), some (.int i1), some (.int i2), some (.int (v3 + (Int32.ofInt 1)))]) (st' := []) rfl rfl ?_
          exact ih m (hq_201 S 10) ((v3 + (Int32.ofInt 1))) (hp_up2 h1 hm (by decide))
        · refine hp_sN [51] (pc' := 51) (L' := [some (.ref 0), some (.int i1), some (.int i2), some (.int v3)]) (st' := [.int v3]) rfl rfl ?_
          exact hp_Ris rfl
set_option maxRecDepth 10000 in
theorem ht_16 {X : hp_X} (S : hp_S) (i1 : Int32) (i2 : Int32) (n : Nat) : hp_T n 16 0 [some (.ref 0), some (.int i1), some (.int i2), none] [] (hp_mem X S) (hp_is X) (hq_16 S i1 i2) := by
  unfold hq_16
  refine hp_sN [1] (pc' := 1) (L' := [some (.ref 0), some (.int i1), some (.int i2), none]) (st' := [.ref 0]) rfl rfl ?_
  refine hp_gf (pc' := 4) rfl (by decide) (hp_c0 X _) rfl rfl ?_
  refine hp_sN [5] (pc' := 5) (L' := [some (.ref 0), some (.int i1), some (.int i2), none]) (st' := [.int i1, .ref 1]) rfl rfl ?_
  refine hp_iv (virt := true) (pc' := 8) (rv := some (.int (hq_181 S 1 i1))) (M1 := hp_mem X (S)) rfl rfl (by decide) (hk_181 (Or.inl rfl) S (i1)) rfl rfl ?_
  show hp_T _ 16 8 _ [.int (hq_181 S 1 i1)] _ _ _
  refine hp_if (pc' := 11) rfl rfl (fun h1 => ?_) (fun h1 => ?_)
  · refine hp_sN [23] (pc' := 23) (L' := [some (.ref 0), some (.int i1), some (.int i2), none]) (st' := [.int (Int32.ofInt (-1))]) rfl rfl ?_
    exact hp_Ris rfl
  · refine hp_sN [12] (pc' := 12) (L' := [some (.ref 0), some (.int i1), some (.int i2), none]) (st' := [.ref 0]) rfl rfl ?_
    refine hp_gf (pc' := 15) rfl (by decide) (hp_c0 X _) rfl rfl ?_
    refine hp_sN [16] (pc' := 16) (L' := [some (.ref 0), some (.int i1), some (.int i2), none]) (st' := [.int i2, .ref 1]) rfl rfl ?_
    refine hp_iv (virt := true) (pc' := 19) (rv := some (.int (hq_182 S 1 i2))) (M1 := hp_mem X (S)) rfl rfl (by decide) (hk_182 (Or.inl rfl) S (i2)) rfl rfl ?_
    show hp_T _ 16 19 _ [.int (hq_182 S 1 i2)] _ _ _
    refine hp_if (pc' := 22) rfl rfl (fun h2 => ?_) (fun h2 => ?_)
    · refine hp_sN [25, 26] (pc' := 26) (L' := [some (.ref 0), some (.int i1), some (.int i2), none]) (st' := [.int (Int32.ofInt 0), .ref 0]) rfl rfl ?_
      refine hp_iv (virt := true) (pc' := 29) (rv := none) (M1 := hp_mem X (hq_55 S (Int32.ofInt 0))) rfl rfl (by decide) (hk_55 S ((Int32.ofInt 0))) rfl rfl ?_
      show hp_T _ 16 29 _ [] _ _ _
      refine hp_sN [30, 31] (pc' := 31) (L' := [some (.ref 0), some (.int i1), some (.int i2), some (.int (Int32.ofInt 0))]) (st' := []) rfl rfl ?_
      exact ht_16_31 i1 i2  n (((Int32.ofInt 99).toInt + 1 - (Int32.ofInt 0).toInt).toNat + 1) (hq_55 S (Int32.ofInt 0)) ((Int32.ofInt 0))  (Nat.lt_succ_self _)
    · refine hp_sN [23] (pc' := 23) (L' := [some (.ref 0), some (.int i1), some (.int i2), none]) (st' := [.int (Int32.ofInt (-1))]) rfl rfl ?_
      exact hp_Ris rfl
theorem hk_16 {X : hp_X} (S : hp_S) (i1 : Int32) (i2 : Int32) : hp_K 16 [.ref 0, .int i1, .int i2] (hp_mem X S) (hp_is X) (hq_16 S i1 i2) := by
  refine hp_mk (q := hzq_16) rfl (by decide) (L := [some (.ref 0), some (.int i1), some (.int i2), none]) rfl (fun n => ?_)
  exact ht_16 S i1 i2 n
/-! 17: HatsOfTheWind.lost(I)I -/
def hq_17_20 (i1 : Int32) : Nat → hp_S → Int32 → Int32 × hp_S
  | 0, S, _ => (0, S)
  | m + 1, S, v2 => (if hz_cmp .gt v2 (Int32.ofInt 99) = true then ((Int32.ofInt (-4)), S) else (if hz_cmp .eq (hq_185 S 10 i1) 0 = true then hq_17_20 i1 m (hq_201 S 10) (v2 + (Int32.ofInt 1)) else (v2, S)))
def hq_17 (S : hp_S) (i1 : Int32) : Int32 × hp_S := (if hz_cmp .ne (hq_182 S 1 i1) 0 = true then (hq_17_20 i1 (((Int32.ofInt 99).toInt + 1 - (Int32.ofInt 0).toInt).toNat + 1) (hq_55 S (Int32.ofInt 0)) ((Int32.ofInt 0))) else ((Int32.ofInt (-1)), S))
theorem hf_17_20 {i1 : Int32} (j : Nat) (z0 : j ≠ (10 + 1)) (z1 : j ≠ 10) (z2 : j ≠ (10 + 2)) (z3 : j ≠ (10 + 3)) (z4 : j ≠ (10 + 4)) (z5 : j ≠ (10 + 5)) (z6 : j ≠ (10 + 6)) (z7 : j ≠ (10 + 7)) (z8 : j ≠ (10 + 8)) : ∀ (m : Nat) (S : hp_S) (v2 : Int32), (hq_17_20 i1 m S v2).2 j = S j := by
  intro m
  induction m with
  | zero => intros; rfl
  | succ m ih =>
    intro S v2
    rw [hq_17_20]
    repeat' split
    all_goals simp [ih, hp_wo, hp_wgo, hp_cpo, hf_55, hf_201, z0, z1, z2, z3, z4, z5, z6, z7, z8]
theorem hf_17 (S : hp_S) (i1 : Int32) (j : Nat) (z0 : j ≠ (10 + 1)) (z1 : j ≠ 10) (z2 : j ≠ (10 + 2)) (z3 : j ≠ (10 + 3)) (z4 : j ≠ (10 + 4)) (z5 : j ≠ (10 + 5)) (z6 : j ≠ (10 + 6)) (z7 : j ≠ (10 + 7)) (z8 : j ≠ (10 + 8)) : (hq_17 S i1).2 j = S j := by
  unfold hq_17
  repeat' split
  all_goals simp [hp_wo, hp_wgo, hp_cpo, hf_55, hf_201, z0, z1, z2, z3, z4, z5, z6, z7, z8, hf_17_20]
set_option maxRecDepth 10000 in
theorem ht_17_20 {X : hp_X} (i1 : Int32) : ∀ (n m : Nat) (S : hp_S) (v2 : Int32), ((Int32.ofInt 99).toInt + 1 - v2.toInt).toNat < m → hp_T n 17 20 [some (.ref 0), some (.int i1), some (.int v2)] [] (hp_mem X S) (hp_is X) (hq_17_20 i1 m S v2) := by
  intro n
  induction n with
  | zero => intros; exact hp_0
  | succ n ih =>
    intro m S v2 hm
    cases m with
    | zero => exact absurd hm (Nat.not_lt_zero _)
    | succ m =>
      rw [hq_17_20]
      refine hp_sN [21, 23] (pc' := 23) (L' := [some (.ref 0), some (.int i1), some (.int v2)]) (st' := [.int (Int32.ofInt 99), .int v2]) rfl rfl ?_
      refine hp_ic (pc' := 26) rfl rfl (fun h1 => ?_) (fun h1 => ?_)
      · refine hp_sN [54] (pc' := 54) (L' := [some (.ref 0), some (.int i1), some (.int v2)]) (st' := [.int (Int32.ofInt (-4))]) rfl rfl ?_
        exact hp_Ris rfl
      · refine hp_sN [27] (pc' := 27) (L' := [some (.ref 0), some (.int i1), some (.int v2)]) (st' := [.ref 0]) rfl rfl ?_
        refine hp_gf (pc' := 30) rfl (by decide) (hp_c0 X _) rfl rfl ?_
        refine hp_sN [31] (pc' := 31) (L' := [some (.ref 0), some (.int i1), some (.int v2)]) (st' := [.int i1, .ref 10]) rfl rfl ?_
        refine hp_iv (virt := true) (pc' := 34) (rv := some (.int (hq_185 S 10 i1))) (M1 := hp_mem X (S)) rfl rfl (by decide) (hk_185 (Or.inr (Or.inl rfl)) S (i1)) rfl rfl ?_
        show hp_T _ 17 34 _ [.int (hq_185 S 10 i1)] _ _ _
        refine hp_if (pc' := 37) rfl rfl (fun h2 => ?_) (fun h2 => ?_)
        · refine hp_sN [40] (pc' := 40) (L' := [some (.ref 0), some (.int i1), some (.int v2)]) (st' := [.ref 0]) rfl rfl ?_
          refine hp_gf (pc' := 43) rfl (by decide) (hp_c0 X _) rfl rfl ?_
          refine hp_iv (virt := true) (pc' := 46) (rv := none) (M1 := hp_mem X (hq_201 S 10)) rfl rfl (by decide) (hk_201 (Or.inr (Or.inl rfl)) S) rfl rfl ?_
          show hp_T _ 17 46 _ [] _ _ _
          refine hp_sB 49 [20] (pc' := 20) (L' := [some (.ref 0), some (.int i1), some (.int (v2 + (Int32.ofInt 1)))]) (st' := []) rfl rfl ?_
          exact ih m (hq_201 S 10) ((v2 + (Int32.ofInt 1))) (hp_up2 h1 hm (by decide))
        · refine hp_sN [38] (pc' := 38) (L' := [some (.ref 0), some (.int i1), some (.int v2)]) (st' := [.int v2]) rfl rfl ?_
          exact hp_Ris rfl
set_option maxRecDepth 10000 in
theorem ht_17 {X : hp_X} (S : hp_S) (i1 : Int32) (n : Nat) : hp_T n 17 0 [some (.ref 0), some (.int i1), none] [] (hp_mem X S) (hp_is X) (hq_17 S i1) := by
  unfold hq_17
  refine hp_sN [1] (pc' := 1) (L' := [some (.ref 0), some (.int i1), none]) (st' := [.ref 0]) rfl rfl ?_
  refine hp_gf (pc' := 4) rfl (by decide) (hp_c0 X _) rfl rfl ?_
  refine hp_sN [5] (pc' := 5) (L' := [some (.ref 0), some (.int i1), none]) (st' := [.int i1, .ref 1]) rfl rfl ?_
  refine hp_iv (virt := true) (pc' := 8) (rv := some (.int (hq_182 S 1 i1))) (M1 := hp_mem X (S)) rfl rfl (by decide) (hk_182 (Or.inl rfl) S (i1)) rfl rfl ?_
  show hp_T _ 17 8 _ [.int (hq_182 S 1 i1)] _ _ _
  refine hp_if (pc' := 11) rfl rfl (fun h1 => ?_) (fun h1 => ?_)
  · refine hp_sN [14, 15] (pc' := 15) (L' := [some (.ref 0), some (.int i1), none]) (st' := [.int (Int32.ofInt 0), .ref 0]) rfl rfl ?_
    refine hp_iv (virt := true) (pc' := 18) (rv := none) (M1 := hp_mem X (hq_55 S (Int32.ofInt 0))) rfl rfl (by decide) (hk_55 S ((Int32.ofInt 0))) rfl rfl ?_
    show hp_T _ 17 18 _ [] _ _ _
    refine hp_sN [19, 20] (pc' := 20) (L' := [some (.ref 0), some (.int i1), some (.int (Int32.ofInt 0))]) (st' := []) rfl rfl ?_
    exact ht_17_20 i1  n (((Int32.ofInt 99).toInt + 1 - (Int32.ofInt 0).toInt).toNat + 1) (hq_55 S (Int32.ofInt 0)) ((Int32.ofInt 0))  (Nat.lt_succ_self _)
  · refine hp_sN [12] (pc' := 12) (L' := [some (.ref 0), some (.int i1), none]) (st' := [.int (Int32.ofInt (-1))]) rfl rfl ?_
    exact hp_Ris rfl
theorem hk_17 {X : hp_X} (S : hp_S) (i1 : Int32) : hp_K 17 [.ref 0, .int i1] (hp_mem X S) (hp_is X) (hq_17 S i1) := by
  refine hp_mk (q := hzq_17) rfl (by decide) (L := [some (.ref 0), some (.int i1), none]) rfl (fun n => ?_)
  exact ht_17 S i1 n
/-! 18: HatsOfTheWind.allWear(I)I -/
def hq_18_18 (i1 : Int32) : Nat → hp_S → Int32 → Int32 → hp_S × Int32
  | 0, S, _, _ => (S, 0)
  | m + 1, S, v2, v3 => (if hz_cmp .ge v3 i1 = true then (S, v2) else (if hz_cmp .ne (hq_189 (hq_201 S 10) 10) 0 = true then hq_18_18 i1 m (hq_201 S 10) v2 (v3 + (Int32.ofInt 1)) else hq_18_18 i1 m (hq_201 S 10) (v2 + (Int32.ofInt 1)) (v3 + (Int32.ofInt 1))))
def hq_18 (S : hp_S) (i1 : Int32) : Int32 × hp_S := (if hz_cmp .ne (hq_50 S i1) 0 = true then ((hq_18_18 i1 ((i1.toInt - (Int32.ofInt 0).toInt).toNat + 1) (hq_55 S (Int32.ofInt 0)) ((Int32.ofInt 0)) ((Int32.ofInt 0))).2, (hq_18_18 i1 ((i1.toInt - (Int32.ofInt 0).toInt).toNat + 1) (hq_55 S (Int32.ofInt 0)) ((Int32.ofInt 0)) ((Int32.ofInt 0))).1) else ((Int32.ofInt (-1)), S))
theorem hf_18_18 {i1 : Int32} (j : Nat) (z0 : j ≠ (10 + 1)) (z1 : j ≠ 10) (z2 : j ≠ (10 + 2)) (z3 : j ≠ (10 + 3)) (z4 : j ≠ (10 + 4)) (z5 : j ≠ (10 + 5)) (z6 : j ≠ (10 + 6)) (z7 : j ≠ (10 + 7)) (z8 : j ≠ (10 + 8)) : ∀ (m : Nat) (S : hp_S) (v2 : Int32) (v3 : Int32), (hq_18_18 i1 m S v2 v3).1 j = S j := by
  intro m
  induction m with
  | zero => intros; rfl
  | succ m ih =>
    intro S v2 v3
    rw [hq_18_18]
    repeat' split
    all_goals simp [ih, hp_wo, hp_wgo, hp_cpo, hf_55, hf_201, z0, z1, z2, z3, z4, z5, z6, z7, z8]
theorem hf_18 (S : hp_S) (i1 : Int32) (j : Nat) (z0 : j ≠ (10 + 1)) (z1 : j ≠ 10) (z2 : j ≠ (10 + 2)) (z3 : j ≠ (10 + 3)) (z4 : j ≠ (10 + 4)) (z5 : j ≠ (10 + 5)) (z6 : j ≠ (10 + 6)) (z7 : j ≠ (10 + 7)) (z8 : j ≠ (10 + 8)) : (hq_18 S i1).2 j = S j := by
  unfold hq_18
  repeat' split
  all_goals simp [hp_wo, hp_wgo, hp_cpo, hf_55, hf_201, z0, z1, z2, z3, z4, z5, z6, z7, z8, hf_18_18]
set_option maxRecDepth 10000 in
theorem ht_18_18 {α : Type} {φ : α → Option Value × hzMem} {R : α} {X : hp_X} (N : Nat) (i1 : Int32) : ∀ (n : Nat), n ≤ N → ∀ (m : Nat) (S : hp_S) (v2 : Int32) (v3 : Int32) (Z : hp_S × Int32), (i1.toInt - v3.toInt).toNat < m → hq_18_18 i1 m S v2 v3 = Z → (∀ (x3 : Option Value), hp_T N 18 49 [some (.ref 0), some (.int i1), some (.int Z.2), x3] [] (hp_mem X Z.1) φ R) → hp_T n 18 18 [some (.ref 0), some (.int i1), some (.int v2), some (.int v3)] [] (hp_mem X S) φ R := by
  intro n
  induction n with
  | zero => intros; exact hp_0
  | succ n ih =>
    intro hN m S v2 v3 Z hm hZ kk
    cases m with
    | zero => exact absurd hm (Nat.not_lt_zero _)
    | succ m =>
      rw [hq_18_18] at hZ
      refine hp_sN [19, 20] (pc' := 20) (L' := [some (.ref 0), some (.int i1), some (.int v2), some (.int v3)]) (st' := [.int i1, .int v3]) rfl rfl ?_
      refine hp_ic2 (pc' := 23) rfl rfl (fun h1 => ?_) (fun h1 => ?_)
      · rw [if_pos h1] at hZ
        subst hZ
        exact hp_le hN (kk (some (.int v3)))
      · rw [if_neg (hp_nt h1)] at hZ
        refine hp_sN [24] (pc' := 24) (L' := [some (.ref 0), some (.int i1), some (.int v2), some (.int v3)]) (st' := [.ref 0]) rfl rfl ?_
        refine hp_gf (pc' := 27) rfl (by decide) (hp_c0 X _) rfl rfl ?_
        refine hp_iv (virt := true) (pc' := 30) (rv := none) (M1 := hp_mem X (hq_201 S 10)) rfl rfl (by decide) (hk_201 (Or.inr (Or.inl rfl)) S) rfl rfl ?_
        show hp_T _ 18 30 _ [] _ _ _
        refine hp_sN [31] (pc' := 31) (L' := [some (.ref 0), some (.int i1), some (.int v2), some (.int v3)]) (st' := [.ref 0]) rfl rfl ?_
        refine hp_gf (pc' := 34) rfl (by decide) (hp_c0 X _) rfl rfl ?_
        refine hp_iv (virt := true) (pc' := 37) (rv := some (.int (hq_189 (hq_201 S 10) 10))) (M1 := hp_mem X (hq_201 S 10)) rfl rfl (by decide) (hk_189 (Or.inr (Or.inl rfl)) (hq_201 S 10)) rfl rfl ?_
        show hp_T _ 18 37 _ [.int (hq_189 (hq_201 S 10) 10)] _ _ _
        refine hp_if2 (pc' := 40) rfl rfl (fun h2 => ?_) (fun h2 => ?_)
        · rw [if_pos h2] at hZ
          refine hp_sB 46 [18] (pc' := 18) (L' := [some (.ref 0), some (.int i1), some (.int v2), some (.int (v3 + (Int32.ofInt 1)))]) (st' := []) rfl rfl ?_
          exact ih (Nat.le_trans (Nat.le_succ n) hN) m (hq_201 S 10) (v2) ((v3 + (Int32.ofInt 1))) Z (hp_up h1 hm) hZ kk
        · rw [if_neg (hp_nt h2)] at hZ
          refine hp_sB 43 [46, 18] (pc' := 18) (L' := [some (.ref 0), some (.int i1), some (.int (v2 + (Int32.ofInt 1))), some (.int (v3 + (Int32.ofInt 1)))]) (st' := []) rfl rfl ?_
          exact ih (Nat.le_trans (Nat.le_succ n) hN) m (hq_201 S 10) ((v2 + (Int32.ofInt 1))) ((v3 + (Int32.ofInt 1))) Z (hp_up h1 hm) hZ kk
set_option maxRecDepth 10000 in
theorem ht_18 {X : hp_X} (S : hp_S) (i1 : Int32) (n : Nat) : hp_T n 18 0 [some (.ref 0), some (.int i1), none, none] [] (hp_mem X S) (hp_is X) (hq_18 S i1) := by
  unfold hq_18
  refine hp_sN [1] (pc' := 1) (L' := [some (.ref 0), some (.int i1), none, none]) (st' := [.int i1]) rfl rfl ?_
  refine hp_iv (virt := false) (pc' := 4) (rv := some (.int (hq_50 S i1))) (M1 := hp_mem X (S)) rfl rfl (by decide) (hk_50 S (i1)) rfl rfl ?_
  show hp_T _ 18 4 _ [.int (hq_50 S i1)] _ _ _
  refine hp_if (pc' := 7) rfl rfl (fun h1 => ?_) (fun h1 => ?_)
  · refine hp_sN [10, 11] (pc' := 11) (L' := [some (.ref 0), some (.int i1), none, none]) (st' := [.int (Int32.ofInt 0), .ref 0]) rfl rfl ?_
    refine hp_iv (virt := true) (pc' := 14) (rv := none) (M1 := hp_mem X (hq_55 S (Int32.ofInt 0))) rfl rfl (by decide) (hk_55 S ((Int32.ofInt 0))) rfl rfl ?_
    show hp_T _ 18 14 _ [] _ _ _
    refine hp_sN [15, 16, 17, 18] (pc' := 18) (L' := [some (.ref 0), some (.int i1), some (.int (Int32.ofInt 0)), some (.int (Int32.ofInt 0))]) (st' := []) rfl rfl ?_
    refine ht_18_18 n i1  n (Nat.le_refl _) ((i1.toInt - (Int32.ofInt 0).toInt).toNat + 1) (hq_55 S (Int32.ofInt 0)) ((Int32.ofInt 0)) ((Int32.ofInt 0))  _ (Nat.lt_succ_self _) rfl (fun x3_18 => ?_)
    show hp_T _ 18 49 [some (.ref 0), some (.int i1), some (.int (hq_18_18 i1 ((i1.toInt - (Int32.ofInt 0).toInt).toNat + 1) (hq_55 S (Int32.ofInt 0)) ((Int32.ofInt 0)) ((Int32.ofInt 0))).2), x3_18] _ (hp_mem X ((hq_18_18 i1 ((i1.toInt - (Int32.ofInt 0).toInt).toNat + 1) (hq_55 S (Int32.ofInt 0)) ((Int32.ofInt 0)) ((Int32.ofInt 0))).1)) _ _
    refine hp_sN [50] (pc' := 50) (L' := [some (.ref 0), some (.int i1), some (.int (hq_18_18 i1 ((i1.toInt - (Int32.ofInt 0).toInt).toNat + 1) (hq_55 S (Int32.ofInt 0)) ((Int32.ofInt 0)) ((Int32.ofInt 0))).2), x3_18]) (st' := [.int (hq_18_18 i1 ((i1.toInt - (Int32.ofInt 0).toInt).toNat + 1) (hq_55 S (Int32.ofInt 0)) ((Int32.ofInt 0)) ((Int32.ofInt 0))).2]) rfl rfl ?_
    exact hp_Ris rfl
  · refine hp_sN [8] (pc' := 8) (L' := [some (.ref 0), some (.int i1), none, none]) (st' := [.int (Int32.ofInt (-1))]) rfl rfl ?_
    exact hp_Ris rfl
theorem hk_18 {X : hp_X} (S : hp_S) (i1 : Int32) : hp_K 18 [.ref 0, .int i1] (hp_mem X S) (hp_is X) (hq_18 S i1) := by
  refine hp_mk (q := hzq_18) rfl (by decide) (L := [some (.ref 0), some (.int i1), none, none]) rfl (fun n => ?_)
  exact ht_18 S i1 n

/-! 57: HatsOfTheWind.hoursCovered(II)I -/
def hq_57_5 (i1 : Int32) (i2 : Int32) : Nat → hp_S → Int32 → Int32 → hp_S × Int32
  | 0, S, _, _ => (S, 0)
  | m + 1, S, v3, v4 => (if hz_cmp .ge v4 i2 = true then (S, v3) else (if hz_cmp .ne (hq_188 (hq_201 S 10) 10 i1) 0 = true then hq_57_5 i1 i2 m (hq_201 S 10) v3 (v4 + (Int32.ofInt 1)) else hq_57_5 i1 i2 m (hq_201 S 10) (v3 + (Int32.ofInt 1)) (v4 + (Int32.ofInt 1))))
def hq_57 (S : hp_S) (i1 : Int32) (i2 : Int32) : Int32 × hp_S := ((hq_57_5 i1 i2 ((i2.toInt - (Int32.ofInt 0).toInt).toNat + 1) S ((Int32.ofInt 0)) ((Int32.ofInt 0))).2, (hq_57_5 i1 i2 ((i2.toInt - (Int32.ofInt 0).toInt).toNat + 1) S ((Int32.ofInt 0)) ((Int32.ofInt 0))).1)
theorem hf_57_5 {i1 : Int32} {i2 : Int32} (j : Nat) (z0 : j ≠ (10 + 7)) (z1 : j ≠ (10 + 8)) (z2 : j ≠ (10 + 2)) (z3 : j ≠ 10) : ∀ (m : Nat) (S : hp_S) (v3 : Int32) (v4 : Int32), (hq_57_5 i1 i2 m S v3 v4).1 j = S j := by
  intro m
  induction m with
  | zero => intros; rfl
  | succ m ih =>
    intro S v3 v4
    rw [hq_57_5]
    repeat' split
    all_goals simp [ih, hp_wo, hp_wgo, hp_cpo, hf_201, z0, z1, z2, z3]
theorem hf_57 (S : hp_S) (i1 : Int32) (i2 : Int32) (j : Nat) (z0 : j ≠ (10 + 7)) (z1 : j ≠ (10 + 8)) (z2 : j ≠ (10 + 2)) (z3 : j ≠ 10) : (hq_57 S i1 i2).2 j = S j := by
  unfold hq_57
  repeat' split
  all_goals simp [hp_wo, hp_wgo, hp_cpo, hf_201, z0, z1, z2, z3, hf_57_5]
set_option maxRecDepth 10000 in
theorem ht_57_5 {α : Type} {φ : α → Option Value × hzMem} {R : α} {X : hp_X} (N : Nat) (i1 : Int32) (i2 : Int32) : ∀ (n : Nat), n ≤ N → ∀ (m : Nat) (S : hp_S) (v3 : Int32) (v4 : Int32) (Z : hp_S × Int32), (i2.toInt - v4.toInt).toNat < m → hq_57_5 i1 i2 m S v3 v4 = Z → (∀ (x4 : Option Value), hp_T N 57 38 [some (.ref 0), some (.int i1), some (.int i2), some (.int Z.2), x4] [] (hp_mem X Z.1) φ R) → hp_T n 57 5 [some (.ref 0), some (.int i1), some (.int i2), some (.int v3), some (.int v4)] [] (hp_mem X S) φ R := by
  intro n
  induction n with
  | zero => intros; exact hp_0
  | succ n ih =>
    intro hN m S v3 v4 Z hm hZ kk
    cases m with
    | zero => exact absurd hm (Nat.not_lt_zero _)
    | succ m =>
      rw [hq_57_5] at hZ
      refine hp_sN [7, 8] (pc' := 8) (L' := [some (.ref 0), some (.int i1), some (.int i2), some (.int v3), some (.int v4)]) (st' := [.int i2, .int v4]) rfl rfl ?_
      refine hp_ic2 (pc' := 11) rfl rfl (fun h1 => ?_) (fun h1 => ?_)
      · rw [if_pos h1] at hZ
        subst hZ
        exact hp_le hN (kk (some (.int v4)))
      · rw [if_neg (hp_nt h1)] at hZ
        refine hp_sN [12] (pc' := 12) (L' := [some (.ref 0), some (.int i1), some (.int i2), some (.int v3), some (.int v4)]) (st' := [.ref 0]) rfl rfl ?_
        refine hp_gf (pc' := 15) rfl (by decide) (hp_c0 X _) rfl rfl ?_
        refine hp_iv (virt := true) (pc' := 18) (rv := none) (M1 := hp_mem X (hq_201 S 10)) rfl rfl (by decide) (hk_201 (Or.inr (Or.inl rfl)) S) rfl rfl ?_
        show hp_T _ 57 18 _ [] _ _ _
        refine hp_sN [19] (pc' := 19) (L' := [some (.ref 0), some (.int i1), some (.int i2), some (.int v3), some (.int v4)]) (st' := [.ref 0]) rfl rfl ?_
        refine hp_gf (pc' := 22) rfl (by decide) (hp_c0 X _) rfl rfl ?_
        refine hp_sN [23] (pc' := 23) (L' := [some (.ref 0), some (.int i1), some (.int i2), some (.int v3), some (.int v4)]) (st' := [.int i1, .ref 10]) rfl rfl ?_
        refine hp_iv (virt := true) (pc' := 26) (rv := some (.int (hq_188 (hq_201 S 10) 10 i1))) (M1 := hp_mem X (hq_201 S 10)) rfl rfl (by decide) (hk_188 (Or.inr (Or.inl rfl)) (hq_201 S 10) (i1)) rfl rfl ?_
        show hp_T _ 57 26 _ [.int (hq_188 (hq_201 S 10) 10 i1)] _ _ _
        refine hp_if2 (pc' := 29) rfl rfl (fun h2 => ?_) (fun h2 => ?_)
        · rw [if_pos h2] at hZ
          refine hp_sB 35 [5] (pc' := 5) (L' := [some (.ref 0), some (.int i1), some (.int i2), some (.int v3), some (.int (v4 + (Int32.ofInt 1)))]) (st' := []) rfl rfl ?_
          exact ih (Nat.le_trans (Nat.le_succ n) hN) m (hq_201 S 10) (v3) ((v4 + (Int32.ofInt 1))) Z (hp_up h1 hm) hZ kk
        · rw [if_neg (hp_nt h2)] at hZ
          refine hp_sB 32 [35, 5] (pc' := 5) (L' := [some (.ref 0), some (.int i1), some (.int i2), some (.int (v3 + (Int32.ofInt 1))), some (.int (v4 + (Int32.ofInt 1)))]) (st' := []) rfl rfl ?_
          exact ih (Nat.le_trans (Nat.le_succ n) hN) m (hq_201 S 10) ((v3 + (Int32.ofInt 1))) ((v4 + (Int32.ofInt 1))) Z (hp_up h1 hm) hZ kk
set_option maxRecDepth 10000 in
theorem ht_57 {X : hp_X} (S : hp_S) (i1 : Int32) (i2 : Int32) (n : Nat) : hp_T n 57 0 [some (.ref 0), some (.int i1), some (.int i2), none, none] [] (hp_mem X S) (hp_is X) (hq_57 S i1 i2) := by
  unfold hq_57
  refine hp_sN [1, 2, 3, 5] (pc' := 5) (L' := [some (.ref 0), some (.int i1), some (.int i2), some (.int (Int32.ofInt 0)), some (.int (Int32.ofInt 0))]) (st' := []) rfl rfl ?_
  refine ht_57_5 n i1 i2  n (Nat.le_refl _) ((i2.toInt - (Int32.ofInt 0).toInt).toNat + 1) S ((Int32.ofInt 0)) ((Int32.ofInt 0))  _ (Nat.lt_succ_self _) rfl (fun x4_5 => ?_)
  show hp_T _ 57 38 [some (.ref 0), some (.int i1), some (.int i2), some (.int (hq_57_5 i1 i2 ((i2.toInt - (Int32.ofInt 0).toInt).toNat + 1) S ((Int32.ofInt 0)) ((Int32.ofInt 0))).2), x4_5] _ (hp_mem X ((hq_57_5 i1 i2 ((i2.toInt - (Int32.ofInt 0).toInt).toNat + 1) S ((Int32.ofInt 0)) ((Int32.ofInt 0))).1)) _ _
  refine hp_sN [39] (pc' := 39) (L' := [some (.ref 0), some (.int i1), some (.int i2), some (.int (hq_57_5 i1 i2 ((i2.toInt - (Int32.ofInt 0).toInt).toNat + 1) S ((Int32.ofInt 0)) ((Int32.ofInt 0))).2), x4_5]) (st' := [.int (hq_57_5 i1 i2 ((i2.toInt - (Int32.ofInt 0).toInt).toNat + 1) S ((Int32.ofInt 0)) ((Int32.ofInt 0))).2]) rfl rfl ?_
  exact hp_Ris rfl
theorem hk_57 {X : hp_X} (S : hp_S) (i1 : Int32) (i2 : Int32) : hp_K 57 [.ref 0, .int i1, .int i2] (hp_mem X S) (hp_is X) (hq_57 S i1 i2) := by
  refine hp_mk (q := hzq_57) rfl (by decide) (L := [some (.ref 0), some (.int i1), some (.int i2), none, none]) rfl (fun n => ?_)
  exact ht_57 S i1 i2 n
/-! 19: HatsOfTheWind.stand(III)I -/
def hq_19_36 (i1 : Int32) (i2 : Int32) (i3 : Int32) : Nat → hp_S → Int32 → Int32 → Int32 → hp_S × Int32 × Int32
  | 0, S, _, _, _ => (S, 0, 0)
  | m + 1, S, v4, v5, v6 => (if hz_cmp .ge v6 (Int32.ofInt 21) = true then (S, v4, v5) else (if hz_cmp .le (hq_57 (hp_w (hq_55 S (Int32.ofInt 0)) (10 + 2) i1.toNatClampNeg v6) i1 i2).1 v5 = true then hq_19_36 i1 i2 i3 m ((hq_57 (hp_w (hq_55 S (Int32.ofInt 0)) (10 + 2) i1.toNatClampNeg v6) i1 i2).2) v4 v5 (v6 + (Int32.ofInt 1)) else hq_19_36 i1 i2 i3 m ((hq_57 (hp_w (hq_55 S (Int32.ofInt 0)) (10 + 2) i1.toNatClampNeg v6) i1 i2).2) v6 (hq_57 (hp_w (hq_55 S (Int32.ofInt 0)) (10 + 2) i1.toNatClampNeg v6) i1 i2).1 (v6 + (Int32.ofInt 1))))
def hq_19 (S : hp_S) (i1 : Int32) (i2 : Int32) (i3 : Int32) : Int32 × hp_S := (if hz_cmp .eq (hq_181 S 1 i1) 0 = true then ((Int32.ofInt (-1)), S) else (if hz_cmp .eq (hq_50 S i2) 0 = true then ((Int32.ofInt (-1)), S) else (if hz_cmp .ne (hq_45 S i3) 0 = true then (if hz_cmp .ne i3 0 = true then ((hq_19_36 i1 i2 i3 (((Int32.ofInt 21).toInt - (Int32.ofInt 0).toInt).toNat + 1) S ((Int32.ofInt 0)) ((Int32.ofInt (-1))) ((Int32.ofInt 0))).2.2, (hq_19_36 i1 i2 i3 (((Int32.ofInt 21).toInt - (Int32.ofInt 0).toInt).toNat + 1) S ((Int32.ofInt 0)) ((Int32.ofInt (-1))) ((Int32.ofInt 0))).1) else ((hq_19_36 i1 i2 i3 (((Int32.ofInt 21).toInt - (Int32.ofInt 0).toInt).toNat + 1) S ((Int32.ofInt 0)) ((Int32.ofInt (-1))) ((Int32.ofInt 0))).2.1, (hq_19_36 i1 i2 i3 (((Int32.ofInt 21).toInt - (Int32.ofInt 0).toInt).toNat + 1) S ((Int32.ofInt 0)) ((Int32.ofInt (-1))) ((Int32.ofInt 0))).1)) else ((Int32.ofInt (-1)), S))))
theorem hf_19_36 {i1 : Int32} {i2 : Int32} {i3 : Int32} (j : Nat) (z0 : j ≠ (10 + 1)) (z1 : j ≠ 10) (z2 : j ≠ (10 + 2)) (z3 : j ≠ (10 + 3)) (z4 : j ≠ (10 + 4)) (z5 : j ≠ (10 + 5)) (z6 : j ≠ (10 + 6)) (z7 : j ≠ (10 + 7)) (z8 : j ≠ (10 + 8)) : ∀ (m : Nat) (S : hp_S) (v4 : Int32) (v5 : Int32) (v6 : Int32), (hq_19_36 i1 i2 i3 m S v4 v5 v6).1 j = S j := by
  intro m
  induction m with
  | zero => intros; rfl
  | succ m ih =>
    intro S v4 v5 v6
    rw [hq_19_36]
    repeat' split
    all_goals simp [ih, hp_wo, hp_wgo, hp_cpo, hf_55, hf_57, z0, z1, z2, z3, z4, z5, z6, z7, z8]
theorem hf_19 (S : hp_S) (i1 : Int32) (i2 : Int32) (i3 : Int32) (j : Nat) (z0 : j ≠ (10 + 1)) (z1 : j ≠ 10) (z2 : j ≠ (10 + 2)) (z3 : j ≠ (10 + 3)) (z4 : j ≠ (10 + 4)) (z5 : j ≠ (10 + 5)) (z6 : j ≠ (10 + 6)) (z7 : j ≠ (10 + 7)) (z8 : j ≠ (10 + 8)) : (hq_19 S i1 i2 i3).2 j = S j := by
  unfold hq_19
  repeat' split
  all_goals simp [hp_wo, hp_wgo, hp_cpo, hf_55, hf_57, z0, z1, z2, z3, z4, z5, z6, z7, z8, hf_19_36]
set_option maxRecDepth 10000 in
theorem ht_19_36 {α : Type} {φ : α → Option Value × hzMem} {R : α} {X : hp_X} (N : Nat) (i1 : Int32) (i2 : Int32) (i3 : Int32) : ∀ (n : Nat), n ≤ N → ∀ (m : Nat) (S : hp_S) (v4 : Int32) (v5 : Int32) (v6 : Int32) (x7 : Option Value) (Z : hp_S × Int32 × Int32), ((Int32.ofInt 21).toInt - v6.toInt).toNat < m → hq_19_36 i1 i2 i3 m S v4 v5 v6 = Z → (∀ (x7 : Option Value) (x6 : Option Value), hp_T N 19 88 [some (.ref 0), some (.int i1), some (.int i2), some (.int i3), some (.int Z.2.1), some (.int Z.2.2), x6, x7] [] (hp_mem X Z.1) φ R) → hp_T n 19 36 [some (.ref 0), some (.int i1), some (.int i2), some (.int i3), some (.int v4), some (.int v5), some (.int v6), x7] [] (hp_mem X S) φ R := by
  intro n
  induction n with
  | zero => intros; exact hp_0
  | succ n ih =>
    intro hN m S v4 v5 v6 x7 Z hm hZ kk
    cases m with
    | zero => exact absurd hm (Nat.not_lt_zero _)
    | succ m =>
      rw [hq_19_36] at hZ
      refine hp_sN [38, 40] (pc' := 40) (L' := [some (.ref 0), some (.int i1), some (.int i2), some (.int i3), some (.int v4), some (.int v5), some (.int v6), x7]) (st' := [.int (Int32.ofInt 21), .int v6]) rfl rfl ?_
      refine hp_ic2 (pc' := 43) rfl rfl (fun h1 => ?_) (fun h1 => ?_)
      · rw [if_pos h1] at hZ
        subst hZ
        exact hp_le hN (kk (x7) (some (.int v6)))
      · rw [if_neg (hp_nt h1)] at hZ
        refine hp_sN [44, 45] (pc' := 45) (L' := [some (.ref 0), some (.int i1), some (.int i2), some (.int i3), some (.int v4), some (.int v5), some (.int v6), x7]) (st' := [.int (Int32.ofInt 0), .ref 0]) rfl rfl ?_
        refine hp_iv (virt := true) (pc' := 48) (rv := none) (M1 := hp_mem X (hq_55 S (Int32.ofInt 0))) rfl rfl (by decide) (hk_55 S ((Int32.ofInt 0))) rfl rfl ?_
        show hp_T _ 19 48 _ [] _ _ _
        refine hp_sN [49] (pc' := 49) (L' := [some (.ref 0), some (.int i1), some (.int i2), some (.int i3), some (.int v4), some (.int v5), some (.int v6), x7]) (st' := [.ref 0]) rfl rfl ?_
        refine hp_gf (pc' := 52) rfl (by decide) (hp_c0 X _) rfl rfl ?_
        refine hp_gf (pc' := 55) rfl (hp_bl (Or.inr (Or.inl rfl)) 0 (by decide)) (hp_b0 (Or.inr (Or.inl rfl)) X _) rfl rfl ?_
        refine hp_sN [56, 58] (pc' := 58) (L' := [some (.ref 0), some (.int i1), some (.int i2), some (.int i3), some (.int v4), some (.int v5), some (.int v6), x7]) (st' := [.int v6, .int i1, .ref (10 + 2)]) rfl rfl ?_
        refine hp_as (pc' := 59) rfl (hp_bl (Or.inr (Or.inl rfl)) 2 (by decide)) (fun _ => (hp_b2 (Or.inr (Or.inl rfl)) X _)) rfl ?_
        refine hp_sN [60, 61, 62] (pc' := 62) (L' := [some (.ref 0), some (.int i1), some (.int i2), some (.int i3), some (.int v4), some (.int v5), some (.int v6), x7]) (st' := [.int i2, .int i1, .ref 0]) rfl rfl ?_
        refine hp_iv (virt := true) (pc' := 65) (rv := some (.int (hq_57 (hp_w (hq_55 S (Int32.ofInt 0)) (10 + 2) i1.toNatClampNeg v6) i1 i2).1)) (M1 := hp_mem X ((hq_57 (hp_w (hq_55 S (Int32.ofInt 0)) (10 + 2) i1.toNatClampNeg v6) i1 i2).2)) rfl rfl (by decide) (hk_57 (hp_w (hq_55 S (Int32.ofInt 0)) (10 + 2) i1.toNatClampNeg v6) (i1) (i2)) rfl rfl ?_
        show hp_T _ 19 65 _ [.int (hq_57 (hp_w (hq_55 S (Int32.ofInt 0)) (10 + 2) i1.toNatClampNeg v6) i1 i2).1] _ _ _
        refine hp_sN [67, 69, 71] (pc' := 71) (L' := [some (.ref 0), some (.int i1), some (.int i2), some (.int i3), some (.int v4), some (.int v5), some (.int v6), some (.int (hq_57 (hp_w (hq_55 S (Int32.ofInt 0)) (10 + 2) i1.toNatClampNeg v6) i1 i2).1)]) (st' := [.int v5, .int (hq_57 (hp_w (hq_55 S (Int32.ofInt 0)) (10 + 2) i1.toNatClampNeg v6) i1 i2).1]) rfl rfl ?_
        refine hp_ic2 (pc' := 74) rfl rfl (fun h2 => ?_) (fun h2 => ?_)
        · rw [if_pos h2] at hZ
          refine hp_sB 85 [36] (pc' := 36) (L' := [some (.ref 0), some (.int i1), some (.int i2), some (.int i3), some (.int v4), some (.int v5), some (.int (v6 + (Int32.ofInt 1))), some (.int (hq_57 (hp_w (hq_55 S (Int32.ofInt 0)) (10 + 2) i1.toNatClampNeg v6) i1 i2).1)]) (st' := []) rfl rfl ?_
          exact ih (Nat.le_trans (Nat.le_succ n) hN) m ((hq_57 (hp_w (hq_55 S (Int32.ofInt 0)) (10 + 2) i1.toNatClampNeg v6) i1 i2).2) (v4) (v5) ((v6 + (Int32.ofInt 1))) (some (.int (hq_57 (hp_w (hq_55 S (Int32.ofInt 0)) (10 + 2) i1.toNatClampNeg v6) i1 i2).1)) Z (hp_up h1 hm) hZ kk
        · rw [if_neg (hp_nt h2)] at hZ
          refine hp_sB 76 [78, 80, 82, 85, 36] (pc' := 36) (L' := [some (.ref 0), some (.int i1), some (.int i2), some (.int i3), some (.int v6), some (.int (hq_57 (hp_w (hq_55 S (Int32.ofInt 0)) (10 + 2) i1.toNatClampNeg v6) i1 i2).1), some (.int (v6 + (Int32.ofInt 1))), some (.int (hq_57 (hp_w (hq_55 S (Int32.ofInt 0)) (10 + 2) i1.toNatClampNeg v6) i1 i2).1)]) (st' := []) rfl rfl ?_
          exact ih (Nat.le_trans (Nat.le_succ n) hN) m ((hq_57 (hp_w (hq_55 S (Int32.ofInt 0)) (10 + 2) i1.toNatClampNeg v6) i1 i2).2) (v6) ((hq_57 (hp_w (hq_55 S (Int32.ofInt 0)) (10 + 2) i1.toNatClampNeg v6) i1 i2).1) ((v6 + (Int32.ofInt 1))) (some (.int (hq_57 (hp_w (hq_55 S (Int32.ofInt 0)) (10 + 2) i1.toNatClampNeg v6) i1 i2).1)) Z (hp_up h1 hm) hZ kk
set_option maxRecDepth 10000 in
theorem ht_19 {X : hp_X} (S : hp_S) (i1 : Int32) (i2 : Int32) (i3 : Int32) (n : Nat) : hp_T n 19 0 [some (.ref 0), some (.int i1), some (.int i2), some (.int i3), none, none, none, none] [] (hp_mem X S) (hp_is X) (hq_19 S i1 i2 i3) := by
  unfold hq_19
  refine hp_sN [1] (pc' := 1) (L' := [some (.ref 0), some (.int i1), some (.int i2), some (.int i3), none, none, none, none]) (st' := [.ref 0]) rfl rfl ?_
  refine hp_gf (pc' := 4) rfl (by decide) (hp_c0 X _) rfl rfl ?_
  refine hp_sN [5] (pc' := 5) (L' := [some (.ref 0), some (.int i1), some (.int i2), some (.int i3), none, none, none, none]) (st' := [.int i1, .ref 1]) rfl rfl ?_
  refine hp_iv (virt := true) (pc' := 8) (rv := some (.int (hq_181 S 1 i1))) (M1 := hp_mem X (S)) rfl rfl (by decide) (hk_181 (Or.inl rfl) S (i1)) rfl rfl ?_
  show hp_T _ 19 8 _ [.int (hq_181 S 1 i1)] _ _ _
  refine hp_if (pc' := 11) rfl rfl (fun h1 => ?_) (fun h1 => ?_)
  · refine hp_sN [26] (pc' := 26) (L' := [some (.ref 0), some (.int i1), some (.int i2), some (.int i3), none, none, none, none]) (st' := [.int (Int32.ofInt (-1))]) rfl rfl ?_
    exact hp_Ris rfl
  · refine hp_sN [12] (pc' := 12) (L' := [some (.ref 0), some (.int i1), some (.int i2), some (.int i3), none, none, none, none]) (st' := [.int i2]) rfl rfl ?_
    refine hp_iv (virt := false) (pc' := 15) (rv := some (.int (hq_50 S i2))) (M1 := hp_mem X (S)) rfl rfl (by decide) (hk_50 S (i2)) rfl rfl ?_
    show hp_T _ 19 15 _ [.int (hq_50 S i2)] _ _ _
    refine hp_if (pc' := 18) rfl rfl (fun h2 => ?_) (fun h2 => ?_)
    · refine hp_sN [26] (pc' := 26) (L' := [some (.ref 0), some (.int i1), some (.int i2), some (.int i3), none, none, none, none]) (st' := [.int (Int32.ofInt (-1))]) rfl rfl ?_
      exact hp_Ris rfl
    · refine hp_sN [19] (pc' := 19) (L' := [some (.ref 0), some (.int i1), some (.int i2), some (.int i3), none, none, none, none]) (st' := [.int i3]) rfl rfl ?_
      refine hp_iv (virt := false) (pc' := 22) (rv := some (.int (hq_45 S i3))) (M1 := hp_mem X (S)) rfl rfl (by decide) (hk_45 S (i3)) rfl rfl ?_
      show hp_T _ 19 22 _ [.int (hq_45 S i3)] _ _ _
      refine hp_if (pc' := 25) rfl rfl (fun h3 => ?_) (fun h3 => ?_)
      · refine hp_sN [28, 30, 31, 33, 34, 36] (pc' := 36) (L' := [some (.ref 0), some (.int i1), some (.int i2), some (.int i3), some (.int (Int32.ofInt 0)), some (.int (Int32.ofInt (-1))), some (.int (Int32.ofInt 0)), none]) (st' := []) rfl rfl ?_
        refine ht_19_36 n i1 i2 i3  n (Nat.le_refl _) (((Int32.ofInt 21).toInt - (Int32.ofInt 0).toInt).toNat + 1) S ((Int32.ofInt 0)) ((Int32.ofInt (-1))) ((Int32.ofInt 0)) (none) _ (Nat.lt_succ_self _) rfl (fun x7_36 x6_36 => ?_)
        show hp_T _ 19 88 [some (.ref 0), some (.int i1), some (.int i2), some (.int i3), some (.int (hq_19_36 i1 i2 i3 (((Int32.ofInt 21).toInt - (Int32.ofInt 0).toInt).toNat + 1) S ((Int32.ofInt 0)) ((Int32.ofInt (-1))) ((Int32.ofInt 0))).2.1), some (.int (hq_19_36 i1 i2 i3 (((Int32.ofInt 21).toInt - (Int32.ofInt 0).toInt).toNat + 1) S ((Int32.ofInt 0)) ((Int32.ofInt (-1))) ((Int32.ofInt 0))).2.2), x6_36, x7_36] _ (hp_mem X ((hq_19_36 i1 i2 i3 (((Int32.ofInt 21).toInt - (Int32.ofInt 0).toInt).toNat + 1) S ((Int32.ofInt 0)) ((Int32.ofInt (-1))) ((Int32.ofInt 0))).1)) _ _
        refine hp_sN [89] (pc' := 89) (L' := [some (.ref 0), some (.int i1), some (.int i2), some (.int i3), some (.int (hq_19_36 i1 i2 i3 (((Int32.ofInt 21).toInt - (Int32.ofInt 0).toInt).toNat + 1) S ((Int32.ofInt 0)) ((Int32.ofInt (-1))) ((Int32.ofInt 0))).2.1), some (.int (hq_19_36 i1 i2 i3 (((Int32.ofInt 21).toInt - (Int32.ofInt 0).toInt).toNat + 1) S ((Int32.ofInt 0)) ((Int32.ofInt (-1))) ((Int32.ofInt 0))).2.2), x6_36, x7_36]) (st' := [.int i3]) rfl rfl ?_
        refine hp_if (pc' := 92) rfl rfl (fun h4 => ?_) (fun h4 => ?_)
        · refine hp_sN [99] (pc' := 99) (L' := [some (.ref 0), some (.int i1), some (.int i2), some (.int i3), some (.int (hq_19_36 i1 i2 i3 (((Int32.ofInt 21).toInt - (Int32.ofInt 0).toInt).toNat + 1) S ((Int32.ofInt 0)) ((Int32.ofInt (-1))) ((Int32.ofInt 0))).2.1), some (.int (hq_19_36 i1 i2 i3 (((Int32.ofInt 21).toInt - (Int32.ofInt 0).toInt).toNat + 1) S ((Int32.ofInt 0)) ((Int32.ofInt (-1))) ((Int32.ofInt 0))).2.2), x6_36, x7_36]) (st' := [.int (hq_19_36 i1 i2 i3 (((Int32.ofInt 21).toInt - (Int32.ofInt 0).toInt).toNat + 1) S ((Int32.ofInt 0)) ((Int32.ofInt (-1))) ((Int32.ofInt 0))).2.2]) rfl rfl ?_
          exact hp_Ris rfl
        · refine hp_sN [94, 99] (pc' := 99) (L' := [some (.ref 0), some (.int i1), some (.int i2), some (.int i3), some (.int (hq_19_36 i1 i2 i3 (((Int32.ofInt 21).toInt - (Int32.ofInt 0).toInt).toNat + 1) S ((Int32.ofInt 0)) ((Int32.ofInt (-1))) ((Int32.ofInt 0))).2.1), some (.int (hq_19_36 i1 i2 i3 (((Int32.ofInt 21).toInt - (Int32.ofInt 0).toInt).toNat + 1) S ((Int32.ofInt 0)) ((Int32.ofInt (-1))) ((Int32.ofInt 0))).2.2), x6_36, x7_36]) (st' := [.int (hq_19_36 i1 i2 i3 (((Int32.ofInt 21).toInt - (Int32.ofInt 0).toInt).toNat + 1) S ((Int32.ofInt 0)) ((Int32.ofInt (-1))) ((Int32.ofInt 0))).2.1]) rfl rfl ?_
          exact hp_Ris rfl
      · refine hp_sN [26] (pc' := 26) (L' := [some (.ref 0), some (.int i1), some (.int i2), some (.int i3), none, none, none, none]) (st' := [.int (Int32.ofInt (-1))]) rfl rfl ?_
        exact hp_Ris rfl
theorem hk_19 {X : hp_X} (S : hp_S) (i1 : Int32) (i2 : Int32) (i3 : Int32) : hp_K 19 [.ref 0, .int i1, .int i2, .int i3] (hp_mem X S) (hp_is X) (hq_19 S i1 i2 i3) := by
  refine hp_mk (q := hzq_19) rfl (by decide) (L := [some (.ref 0), some (.int i1), some (.int i2), some (.int i3), none, none, none, none]) rfl (fun n => ?_)
  exact ht_19 S i1 i2 i3 n
/-! 198: HatsOfTheWind$Street.giveHat(II)V -/
def hq_198 (S : hp_S) (b : Nat) (i1 : Int32) (i2 : Int32) : hp_S := (if hz_cmp .eq (hq_182 S b (hq_187 S b i2)) 0 = true then hp_w S (b + 7) i1.toNatClampNeg i2 else hp_w (hp_w (hp_w S (b + 7) (hq_187 S b i2).toNatClampNeg (Int32.ofInt 9)) (b + 8) (hq_187 S b i2).toNatClampNeg (hp_w S (b + 7) (hq_187 S b i2).toNatClampNeg (Int32.ofInt 9) (b + 2) i2.toNatClampNeg)) (b + 7) i1.toNatClampNeg i2)
theorem hf_198 {b : Nat} (S : hp_S) (i1 : Int32) (i2 : Int32) (j : Nat) (z0 : j ≠ (b + 7)) (z1 : j ≠ (b + 8)) : (hq_198 S b i1 i2) j = S j := by
  unfold hq_198
  repeat' split
  all_goals simp [hp_wo, hp_wgo, hp_cpo, z0, z1]
set_option maxRecDepth 10000 in
theorem ht_198 {X : hp_X} {b : Nat} (hb : hp_b b) (S : hp_S) (i1 : Int32) (i2 : Int32) (n : Nat) : hp_T n 198 0 [some (.ref b), some (.int i1), some (.int i2), none] [] (hp_mem X S) (hp_v X) (hq_198 S b i1 i2) := by
  unfold hq_198
  refine hp_sN [1, 2] (pc' := 2) (L' := [some (.ref b), some (.int i1), some (.int i2), none]) (st' := [.int i2, .ref b]) rfl rfl ?_
  refine hp_iv (virt := true) (pc' := 5) (rv := some (.int (hq_187 S b i2))) (M1 := hp_mem X (S)) rfl rfl (by decide) (hk_187 hb S (i2)) rfl rfl ?_
  show hp_T _ 198 5 _ [.int (hq_187 S b i2)] _ _ _
  refine hp_sN [6, 7, 8] (pc' := 8) (L' := [some (.ref b), some (.int i1), some (.int i2), some (.int (hq_187 S b i2))]) (st' := [.int (hq_187 S b i2), .ref b]) rfl rfl ?_
  refine hp_iv (virt := true) (pc' := 11) (rv := some (.int (hq_182 S b (hq_187 S b i2)))) (M1 := hp_mem X (S)) rfl rfl (by decide) (hk_182 hb S ((hq_187 S b i2))) rfl rfl ?_
  show hp_T _ 198 11 _ [.int (hq_182 S b (hq_187 S b i2))] _ _ _
  refine hp_if (pc' := 14) rfl rfl (fun h1 => ?_) (fun h1 => ?_)
  · refine hp_sN [35] (pc' := 35) (L' := [some (.ref b), some (.int i1), some (.int i2), some (.int (hq_187 S b i2))]) (st' := [.ref b]) rfl rfl ?_
    refine hp_gf (pc' := 38) rfl (hp_bl hb 0 (by decide)) (hp_b0 hb X _) rfl rfl ?_
    refine hp_sN [39, 40] (pc' := 40) (L' := [some (.ref b), some (.int i1), some (.int i2), some (.int (hq_187 S b i2))]) (st' := [.int i2, .int i1, .ref (b + 7)]) rfl rfl ?_
    refine hp_as (pc' := 41) rfl (hp_bl hb 7 (by decide)) (fun _ => (hp_b7 hb X _)) rfl ?_
    exact hp_Rv rfl
  · refine hp_sN [15] (pc' := 15) (L' := [some (.ref b), some (.int i1), some (.int i2), some (.int (hq_187 S b i2))]) (st' := [.ref b]) rfl rfl ?_
    refine hp_gf (pc' := 18) rfl (hp_bl hb 0 (by decide)) (hp_b0 hb X _) rfl rfl ?_
    refine hp_sN [19, 21] (pc' := 21) (L' := [some (.ref b), some (.int i1), some (.int i2), some (.int (hq_187 S b i2))]) (st' := [.int (Int32.ofInt 9), .int (hq_187 S b i2), .ref (b + 7)]) rfl rfl ?_
    refine hp_as (pc' := 22) rfl (hp_bl hb 7 (by decide)) (fun _ => (hp_b7 hb X _)) rfl ?_
    refine hp_sN [23] (pc' := 23) (L' := [some (.ref b), some (.int i1), some (.int i2), some (.int (hq_187 S b i2))]) (st' := [.ref b]) rfl rfl ?_
    refine hp_gf (pc' := 26) rfl (hp_bl hb 0 (by decide)) (hp_b0 hb X _) rfl rfl ?_
    refine hp_sN [27, 28] (pc' := 28) (L' := [some (.ref b), some (.int i1), some (.int i2), some (.int (hq_187 S b i2))]) (st' := [.ref b, .int (hq_187 S b i2), .ref (b + 8)]) rfl rfl ?_
    refine hp_gf (pc' := 31) rfl (hp_bl hb 0 (by decide)) (hp_b0 hb X _) rfl rfl ?_
    refine hp_sN [32] (pc' := 32) (L' := [some (.ref b), some (.int i1), some (.int i2), some (.int (hq_187 S b i2))]) (st' := [.int i2, .ref (b + 2), .int (hq_187 S b i2), .ref (b + 8)]) rfl rfl ?_
    refine hp_al (pc' := 33) rfl (hp_bl hb 2 (by decide)) (hp_b2 hb X _) rfl ?_
    refine hp_as (pc' := 34) rfl (hp_bl hb 8 (by decide)) (fun _ => (hp_b8 hb X _)) rfl ?_
    refine hp_sN [35] (pc' := 35) (L' := [some (.ref b), some (.int i1), some (.int i2), some (.int (hq_187 S b i2))]) (st' := [.ref b]) rfl rfl ?_
    refine hp_gf (pc' := 38) rfl (hp_bl hb 0 (by decide)) (hp_b0 hb X _) rfl rfl ?_
    refine hp_sN [39, 40] (pc' := 40) (L' := [some (.ref b), some (.int i1), some (.int i2), some (.int (hq_187 S b i2))]) (st' := [.int i2, .int i1, .ref (b + 7)]) rfl rfl ?_
    refine hp_as (pc' := 41) rfl (hp_bl hb 7 (by decide)) (fun _ => (hp_b7 hb X _)) rfl ?_
    exact hp_Rv rfl
theorem hk_198 {X : hp_X} {b : Nat} (hb : hp_b b) (S : hp_S) (i1 : Int32) (i2 : Int32) : hp_K 198 [.ref b, .int i1, .int i2] (hp_mem X S) (hp_v X) (hq_198 S b i1 i2) := by
  refine hp_mk (q := hzq_198) rfl (by decide) (L := [some (.ref b), some (.int i1), some (.int i2), none]) rfl (fun n => ?_)
  exact ht_198 hb S i1 i2 n
/-! 58: HatsOfTheWind.hoursWorn(III)I -/
def hq_58_6 (i1 : Int32) (i2 : Int32) (i3 : Int32) : Nat → hp_S → Int32 → Int32 → hp_S × Int32
  | 0, S, _, _ => (S, 0)
  | m + 1, S, v4, v5 => (if hz_cmp .ge v5 i3 = true then (S, v4) else (if hz_cmp .ne (hq_201 S 10 (10 + 7) i1.toNatClampNeg) i2 = true then hq_58_6 i1 i2 i3 m (hq_201 S 10) v4 (v5 + (Int32.ofInt 1)) else hq_58_6 i1 i2 i3 m (hq_201 S 10) (v4 + (Int32.ofInt 1)) (v5 + (Int32.ofInt 1))))
def hq_58 (S : hp_S) (i1 : Int32) (i2 : Int32) (i3 : Int32) : Int32 × hp_S := ((hq_58_6 i1 i2 i3 ((i3.toInt - (Int32.ofInt 0).toInt).toNat + 1) S ((Int32.ofInt 0)) ((Int32.ofInt 0))).2, (hq_58_6 i1 i2 i3 ((i3.toInt - (Int32.ofInt 0).toInt).toNat + 1) S ((Int32.ofInt 0)) ((Int32.ofInt 0))).1)
theorem hf_58_6 {i1 : Int32} {i2 : Int32} {i3 : Int32} (j : Nat) (z0 : j ≠ (10 + 7)) (z1 : j ≠ (10 + 8)) (z2 : j ≠ (10 + 2)) (z3 : j ≠ 10) : ∀ (m : Nat) (S : hp_S) (v4 : Int32) (v5 : Int32), (hq_58_6 i1 i2 i3 m S v4 v5).1 j = S j := by
  intro m
  induction m with
  | zero => intros; rfl
  | succ m ih =>
    intro S v4 v5
    rw [hq_58_6]
    repeat' split
    all_goals simp [ih, hp_wo, hp_wgo, hp_cpo, hf_201, z0, z1, z2, z3]
theorem hf_58 (S : hp_S) (i1 : Int32) (i2 : Int32) (i3 : Int32) (j : Nat) (z0 : j ≠ (10 + 7)) (z1 : j ≠ (10 + 8)) (z2 : j ≠ (10 + 2)) (z3 : j ≠ 10) : (hq_58 S i1 i2 i3).2 j = S j := by
  unfold hq_58
  repeat' split
  all_goals simp [hp_wo, hp_wgo, hp_cpo, hf_201, z0, z1, z2, z3, hf_58_6]
set_option maxRecDepth 10000 in
theorem ht_58_6 {α : Type} {φ : α → Option Value × hzMem} {R : α} {X : hp_X} (N : Nat) (i1 : Int32) (i2 : Int32) (i3 : Int32) : ∀ (n : Nat), n ≤ N → ∀ (m : Nat) (S : hp_S) (v4 : Int32) (v5 : Int32) (Z : hp_S × Int32), (i3.toInt - v5.toInt).toNat < m → hq_58_6 i1 i2 i3 m S v4 v5 = Z → (∀ (x5 : Option Value), hp_T N 58 41 [some (.ref 0), some (.int i1), some (.int i2), some (.int i3), some (.int Z.2), x5] [] (hp_mem X Z.1) φ R) → hp_T n 58 6 [some (.ref 0), some (.int i1), some (.int i2), some (.int i3), some (.int v4), some (.int v5)] [] (hp_mem X S) φ R := by
  intro n
  induction n with
  | zero => intros; exact hp_0
  | succ n ih =>
    intro hN m S v4 v5 Z hm hZ kk
    cases m with
    | zero => exact absurd hm (Nat.not_lt_zero _)
    | succ m =>
      rw [hq_58_6] at hZ
      refine hp_sN [8, 9] (pc' := 9) (L' := [some (.ref 0), some (.int i1), some (.int i2), some (.int i3), some (.int v4), some (.int v5)]) (st' := [.int i3, .int v5]) rfl rfl ?_
      refine hp_ic2 (pc' := 12) rfl rfl (fun h1 => ?_) (fun h1 => ?_)
      · rw [if_pos h1] at hZ
        subst hZ
        exact hp_le hN (kk (some (.int v5)))
      · rw [if_neg (hp_nt h1)] at hZ
        refine hp_sN [13] (pc' := 13) (L' := [some (.ref 0), some (.int i1), some (.int i2), some (.int i3), some (.int v4), some (.int v5)]) (st' := [.ref 0]) rfl rfl ?_
        refine hp_gf (pc' := 16) rfl (by decide) (hp_c0 X _) rfl rfl ?_
        refine hp_iv (virt := true) (pc' := 19) (rv := none) (M1 := hp_mem X (hq_201 S 10)) rfl rfl (by decide) (hk_201 (Or.inr (Or.inl rfl)) S) rfl rfl ?_
        show hp_T _ 58 19 _ [] _ _ _
        refine hp_sN [20] (pc' := 20) (L' := [some (.ref 0), some (.int i1), some (.int i2), some (.int i3), some (.int v4), some (.int v5)]) (st' := [.ref 0]) rfl rfl ?_
        refine hp_gf (pc' := 23) rfl (by decide) (hp_c0 X _) rfl rfl ?_
        refine hp_gf (pc' := 26) rfl (hp_bl (Or.inr (Or.inl rfl)) 0 (by decide)) (hp_b0 (Or.inr (Or.inl rfl)) X _) rfl rfl ?_
        refine hp_sN [27] (pc' := 27) (L' := [some (.ref 0), some (.int i1), some (.int i2), some (.int i3), some (.int v4), some (.int v5)]) (st' := [.int i1, .ref (10 + 7)]) rfl rfl ?_
        refine hp_al (pc' := 28) rfl (hp_bl (Or.inr (Or.inl rfl)) 7 (by decide)) (hp_b7 (Or.inr (Or.inl rfl)) X _) rfl ?_
        refine hp_sN [29] (pc' := 29) (L' := [some (.ref 0), some (.int i1), some (.int i2), some (.int i3), some (.int v4), some (.int v5)]) (st' := [.int i2, .int (hq_201 S 10 (10 + 7) i1.toNatClampNeg)]) rfl rfl ?_
        refine hp_ic2 (pc' := 32) rfl rfl (fun h2 => ?_) (fun h2 => ?_)
        · rw [if_pos h2] at hZ
          refine hp_sB 38 [6] (pc' := 6) (L' := [some (.ref 0), some (.int i1), some (.int i2), some (.int i3), some (.int v4), some (.int (v5 + (Int32.ofInt 1)))]) (st' := []) rfl rfl ?_
          exact ih (Nat.le_trans (Nat.le_succ n) hN) m (hq_201 S 10) (v4) ((v5 + (Int32.ofInt 1))) Z (hp_up h1 hm) hZ kk
        · rw [if_neg (hp_nt h2)] at hZ
          refine hp_sB 35 [38, 6] (pc' := 6) (L' := [some (.ref 0), some (.int i1), some (.int i2), some (.int i3), some (.int (v4 + (Int32.ofInt 1))), some (.int (v5 + (Int32.ofInt 1)))]) (st' := []) rfl rfl ?_
          exact ih (Nat.le_trans (Nat.le_succ n) hN) m (hq_201 S 10) ((v4 + (Int32.ofInt 1))) ((v5 + (Int32.ofInt 1))) Z (hp_up h1 hm) hZ kk
set_option maxRecDepth 10000 in
theorem ht_58 {X : hp_X} (S : hp_S) (i1 : Int32) (i2 : Int32) (i3 : Int32) (n : Nat) : hp_T n 58 0 [some (.ref 0), some (.int i1), some (.int i2), some (.int i3), none, none] [] (hp_mem X S) (hp_is X) (hq_58 S i1 i2 i3) := by
  unfold hq_58
  refine hp_sN [1, 3, 4, 6] (pc' := 6) (L' := [some (.ref 0), some (.int i1), some (.int i2), some (.int i3), some (.int (Int32.ofInt 0)), some (.int (Int32.ofInt 0))]) (st' := []) rfl rfl ?_
  refine ht_58_6 n i1 i2 i3  n (Nat.le_refl _) ((i3.toInt - (Int32.ofInt 0).toInt).toNat + 1) S ((Int32.ofInt 0)) ((Int32.ofInt 0))  _ (Nat.lt_succ_self _) rfl (fun x5_6 => ?_)
  show hp_T _ 58 41 [some (.ref 0), some (.int i1), some (.int i2), some (.int i3), some (.int (hq_58_6 i1 i2 i3 ((i3.toInt - (Int32.ofInt 0).toInt).toNat + 1) S ((Int32.ofInt 0)) ((Int32.ofInt 0))).2), x5_6] _ (hp_mem X ((hq_58_6 i1 i2 i3 ((i3.toInt - (Int32.ofInt 0).toInt).toNat + 1) S ((Int32.ofInt 0)) ((Int32.ofInt 0))).1)) _ _
  refine hp_sN [43] (pc' := 43) (L' := [some (.ref 0), some (.int i1), some (.int i2), some (.int i3), some (.int (hq_58_6 i1 i2 i3 ((i3.toInt - (Int32.ofInt 0).toInt).toNat + 1) S ((Int32.ofInt 0)) ((Int32.ofInt 0))).2), x5_6]) (st' := [.int (hq_58_6 i1 i2 i3 ((i3.toInt - (Int32.ofInt 0).toInt).toNat + 1) S ((Int32.ofInt 0)) ((Int32.ofInt 0))).2]) rfl rfl ?_
  exact hp_Ris rfl
theorem hk_58 {X : hp_X} (S : hp_S) (i1 : Int32) (i2 : Int32) (i3 : Int32) : hp_K 58 [.ref 0, .int i1, .int i2, .int i3] (hp_mem X S) (hp_is X) (hq_58 S i1 i2 i3) := by
  refine hp_mk (q := hzq_58) rfl (by decide) (L := [some (.ref 0), some (.int i1), some (.int i2), some (.int i3), none, none]) rfl (fun n => ?_)
  exact ht_58 S i1 i2 i3 n
/-! 20: HatsOfTheWind.wear(II)I -/
def hq_20_29 (i1 : Int32) (i2 : Int32) : Nat → hp_S → Int32 → Int32 → Int32 → hp_S × Int32
  | 0, S, _, _, _ => (S, 0)
  | m + 1, S, v3, v4, v5 => (if hz_cmp .ge v5 (S 1 8) = true then (S, v3) else (if hz_cmp .eq (hq_185 S 1 v5) 0 = true then (if hz_cmp .le (hq_58 (hq_198 (hq_55 S (Int32.ofInt 0)) 10 v5 i1) v5 i1 i2).1 v4 = true then hq_20_29 i1 i2 m ((hq_58 (hq_198 (hq_55 S (Int32.ofInt 0)) 10 v5 i1) v5 i1 i2).2) v3 v4 (v5 + (Int32.ofInt 1)) else hq_20_29 i1 i2 m ((hq_58 (hq_198 (hq_55 S (Int32.ofInt 0)) 10 v5 i1) v5 i1 i2).2) v5 (hq_58 (hq_198 (hq_55 S (Int32.ofInt 0)) 10 v5 i1) v5 i1 i2).1 (v5 + (Int32.ofInt 1))) else hq_20_29 i1 i2 m S v3 v4 (v5 + (Int32.ofInt 1))))
def hq_20 (S : hp_S) (i1 : Int32) (i2 : Int32) : Int32 × hp_S := (if hz_cmp .eq (hq_181 S 1 i1) 0 = true then ((Int32.ofInt (-1)), S) else (if hz_cmp .ne (hq_50 S i2) 0 = true then ((hq_20_29 i1 i2 (((S 1 8).toInt - (Int32.ofInt 0).toInt).toNat + 1) S ((Int32.ofInt (-4))) ((Int32.ofInt (-1))) ((Int32.ofInt 0))).2, (hq_20_29 i1 i2 (((S 1 8).toInt - (Int32.ofInt 0).toInt).toNat + 1) S ((Int32.ofInt (-4))) ((Int32.ofInt (-1))) ((Int32.ofInt 0))).1) else ((Int32.ofInt (-1)), S)))
theorem hf_20_29 {i1 : Int32} {i2 : Int32} (j : Nat) (z0 : j ≠ (10 + 1)) (z1 : j ≠ 10) (z2 : j ≠ (10 + 2)) (z3 : j ≠ (10 + 3)) (z4 : j ≠ (10 + 4)) (z5 : j ≠ (10 + 5)) (z6 : j ≠ (10 + 6)) (z7 : j ≠ (10 + 7)) (z8 : j ≠ (10 + 8)) : ∀ (m : Nat) (S : hp_S) (v3 : Int32) (v4 : Int32) (v5 : Int32), (hq_20_29 i1 i2 m S v3 v4 v5).1 j = S j := by
  intro m
  induction m with
  | zero => intros; rfl
  | succ m ih =>
    intro S v3 v4 v5
    rw [hq_20_29]
    repeat' split
    all_goals simp [ih, hp_wo, hp_wgo, hp_cpo, hf_55, hf_58, hf_198, z0, z1, z2, z3, z4, z5, z6, z7, z8]
theorem hf_20 (S : hp_S) (i1 : Int32) (i2 : Int32) (j : Nat) (z0 : j ≠ (10 + 1)) (z1 : j ≠ 10) (z2 : j ≠ (10 + 2)) (z3 : j ≠ (10 + 3)) (z4 : j ≠ (10 + 4)) (z5 : j ≠ (10 + 5)) (z6 : j ≠ (10 + 6)) (z7 : j ≠ (10 + 7)) (z8 : j ≠ (10 + 8)) : (hq_20 S i1 i2).2 j = S j := by
  unfold hq_20
  repeat' split
  all_goals simp [hp_wo, hp_wgo, hp_cpo, hf_55, hf_58, hf_198, z0, z1, z2, z3, z4, z5, z6, z7, z8, hf_20_29]
set_option maxRecDepth 10000 in
theorem ht_20_29 {α : Type} {φ : α → Option Value × hzMem} {R : α} {X : hp_X} (N : Nat) (i1 : Int32) (i2 : Int32) : ∀ (n : Nat), n ≤ N → ∀ (m : Nat) (S : hp_S) (v3 : Int32) (v4 : Int32) (v5 : Int32) (x6 : Option Value) (Z : hp_S × Int32), ((S 1 8).toInt - v5.toInt).toNat < m → hq_20_29 i1 i2 m S v3 v4 v5 = Z → (∀ (x6 : Option Value) (x4 : Option Value) (x5 : Option Value), hp_T N 20 101 [some (.ref 0), some (.int i1), some (.int i2), some (.int Z.2), x4, x5, x6] [] (hp_mem X Z.1) φ R) → hp_T n 20 29 [some (.ref 0), some (.int i1), some (.int i2), some (.int v3), some (.int v4), some (.int v5), x6] [] (hp_mem X S) φ R := by
  intro n
  induction n with
  | zero => intros; exact hp_0
  | succ n ih =>
    intro hN m S v3 v4 v5 x6 Z hm hZ kk
    cases m with
    | zero => exact absurd hm (Nat.not_lt_zero _)
    | succ m =>
      rw [hq_20_29] at hZ
      refine hp_sN [31, 32] (pc' := 32) (L' := [some (.ref 0), some (.int i1), some (.int i2), some (.int v3), some (.int v4), some (.int v5), x6]) (st' := [.ref 0, .int v5]) rfl rfl ?_
      refine hp_gf (pc' := 35) rfl (by decide) (hp_c0 X _) rfl rfl ?_
      refine hp_gf (pc' := 38) rfl (hp_bl (Or.inl rfl) 0 (by decide)) (hp_b0 (Or.inl rfl) X _) rfl rfl ?_
      refine hp_ic2 (pc' := 41) rfl rfl (fun h1 => ?_) (fun h1 => ?_)
      · rw [if_pos h1] at hZ
        subst hZ
        exact hp_le hN (kk (x6) (some (.int v4)) (some (.int v5)))
      · rw [if_neg (hp_nt h1)] at hZ
        refine hp_sN [42] (pc' := 42) (L' := [some (.ref 0), some (.int i1), some (.int i2), some (.int v3), some (.int v4), some (.int v5), x6]) (st' := [.ref 0]) rfl rfl ?_
        refine hp_gf (pc' := 45) rfl (by decide) (hp_c0 X _) rfl rfl ?_
        refine hp_sN [47] (pc' := 47) (L' := [some (.ref 0), some (.int i1), some (.int i2), some (.int v3), some (.int v4), some (.int v5), x6]) (st' := [.int v5, .ref 1]) rfl rfl ?_
        refine hp_iv (virt := true) (pc' := 50) (rv := some (.int (hq_185 S 1 v5))) (M1 := hp_mem X (S)) rfl rfl (by decide) (hk_185 (Or.inl rfl) S (v5)) rfl rfl ?_
        show hp_T _ 20 50 _ [.int (hq_185 S 1 v5)] _ _ _
        refine hp_if2 (pc' := 53) rfl rfl (fun h2 => ?_) (fun h2 => ?_)
        · rw [if_pos h2] at hZ
          refine hp_sN [57, 58] (pc' := 58) (L' := [some (.ref 0), some (.int i1), some (.int i2), some (.int v3), some (.int v4), some (.int v5), x6]) (st' := [.int (Int32.ofInt 0), .ref 0]) rfl rfl ?_
          refine hp_iv (virt := true) (pc' := 61) (rv := none) (M1 := hp_mem X (hq_55 S (Int32.ofInt 0))) rfl rfl (by decide) (hk_55 S ((Int32.ofInt 0))) rfl rfl ?_
          show hp_T _ 20 61 _ [] _ _ _
          refine hp_sN [62] (pc' := 62) (L' := [some (.ref 0), some (.int i1), some (.int i2), some (.int v3), some (.int v4), some (.int v5), x6]) (st' := [.ref 0]) rfl rfl ?_
          refine hp_gf (pc' := 65) rfl (by decide) (hp_c0 X _) rfl rfl ?_
          refine hp_sN [67, 68] (pc' := 68) (L' := [some (.ref 0), some (.int i1), some (.int i2), some (.int v3), some (.int v4), some (.int v5), x6]) (st' := [.int i1, .int v5, .ref 10]) rfl rfl ?_
          refine hp_iv (virt := true) (pc' := 71) (rv := none) (M1 := hp_mem X (hq_198 (hq_55 S (Int32.ofInt 0)) 10 v5 i1)) rfl rfl (by decide) (hk_198 (Or.inr (Or.inl rfl)) (hq_55 S (Int32.ofInt 0)) (v5) (i1)) rfl rfl ?_
          show hp_T _ 20 71 _ [] _ _ _
          refine hp_sN [72, 74, 75, 76] (pc' := 76) (L' := [some (.ref 0), some (.int i1), some (.int i2), some (.int v3), some (.int v4), some (.int v5), x6]) (st' := [.int i2, .int i1, .int v5, .ref 0]) rfl rfl ?_
          refine hp_iv (virt := true) (pc' := 79) (rv := some (.int (hq_58 (hq_198 (hq_55 S (Int32.ofInt 0)) 10 v5 i1) v5 i1 i2).1)) (M1 := hp_mem X ((hq_58 (hq_198 (hq_55 S (Int32.ofInt 0)) 10 v5 i1) v5 i1 i2).2)) rfl rfl (by decide) (hk_58 (hq_198 (hq_55 S (Int32.ofInt 0)) 10 v5 i1) (v5) (i1) (i2)) rfl rfl ?_
          show hp_T _ 20 79 _ [.int (hq_58 (hq_198 (hq_55 S (Int32.ofInt 0)) 10 v5 i1) v5 i1 i2).1] _ _ _
          refine hp_sN [81, 83, 85] (pc' := 85) (L' := [some (.ref 0), some (.int i1), some (.int i2), some (.int v3), some (.int v4), some (.int v5), some (.int (hq_58 (hq_198 (hq_55 S (Int32.ofInt 0)) 10 v5 i1) v5 i1 i2).1)]) (st' := [.int v4, .int (hq_58 (hq_198 (hq_55 S (Int32.ofInt 0)) 10 v5 i1) v5 i1 i2).1]) rfl rfl ?_
          refine hp_ic2 (pc' := 88) rfl rfl (fun h3 => ?_) (fun h3 => ?_)
          · rw [if_pos h3] at hZ
            refine hp_sB 98 [29] (pc' := 29) (L' := [some (.ref 0), some (.int i1), some (.int i2), some (.int v3), some (.int v4), some (.int (v5 + (Int32.ofInt 1))), some (.int (hq_58 (hq_198 (hq_55 S (Int32.ofInt 0)) 10 v5 i1) v5 i1 i2).1)]) (st' := []) rfl rfl ?_
            exact ih (Nat.le_trans (Nat.le_succ n) hN) m ((hq_58 (hq_198 (hq_55 S (Int32.ofInt 0)) 10 v5 i1) v5 i1 i2).2) (v3) (v4) ((v5 + (Int32.ofInt 1))) (some (.int (hq_58 (hq_198 (hq_55 S (Int32.ofInt 0)) 10 v5 i1) v5 i1 i2).1)) Z (by rw [show (((hq_58 (hq_198 (hq_55 S (Int32.ofInt 0)) 10 v5 i1) v5 i1 i2).2) 1 8) = (S 1 8) from by simp (disch := omega) [hp_wo, hp_wgo, hp_cpo, hf_55, hf_58, hf_198]]; exact (hp_up h1 hm)) hZ kk
          · rw [if_neg (hp_nt h3)] at hZ
            refine hp_sB 90 [91, 93, 95, 98, 29] (pc' := 29) (L' := [some (.ref 0), some (.int i1), some (.int i2), some (.int v5), some (.int (hq_58 (hq_198 (hq_55 S (Int32.ofInt 0)) 10 v5 i1) v5 i1 i2).1), some (.int (v5 + (Int32.ofInt 1))), some (.int (hq_58 (hq_198 (hq_55 S (Int32.ofInt 0)) 10 v5 i1) v5 i1 i2).1)]) (st' := []) rfl rfl ?_
            exact ih (Nat.le_trans (Nat.le_succ n) hN) m ((hq_58 (hq_198 (hq_55 S (Int32.ofInt 0)) 10 v5 i1) v5 i1 i2).2) (v5) ((hq_58 (hq_198 (hq_55 S (Int32.ofInt 0)) 10 v5 i1) v5 i1 i2).1) ((v5 + (Int32.ofInt 1))) (some (.int (hq_58 (hq_198 (hq_55 S (Int32.ofInt 0)) 10 v5 i1) v5 i1 i2).1)) Z (by rw [show (((hq_58 (hq_198 (hq_55 S (Int32.ofInt 0)) 10 v5 i1) v5 i1 i2).2) 1 8) = (S 1 8) from by simp (disch := omega) [hp_wo, hp_wgo, hp_cpo, hf_55, hf_58, hf_198]]; exact (hp_up h1 hm)) hZ kk
        · rw [if_neg (hp_nt h2)] at hZ
          refine hp_sB 95 [98, 29] (pc' := 29) (L' := [some (.ref 0), some (.int i1), some (.int i2), some (.int v3), some (.int v4), some (.int (v5 + (Int32.ofInt 1))), x6]) (st' := []) rfl rfl ?_
          exact ih (Nat.le_trans (Nat.le_succ n) hN) m S (v3) (v4) ((v5 + (Int32.ofInt 1))) (x6) Z (hp_up h1 hm) hZ kk
set_option maxRecDepth 10000 in
theorem ht_20 {X : hp_X} (S : hp_S) (i1 : Int32) (i2 : Int32) (n : Nat) : hp_T n 20 0 [some (.ref 0), some (.int i1), some (.int i2), none, none, none, none] [] (hp_mem X S) (hp_is X) (hq_20 S i1 i2) := by
  unfold hq_20
  refine hp_sN [1] (pc' := 1) (L' := [some (.ref 0), some (.int i1), some (.int i2), none, none, none, none]) (st' := [.ref 0]) rfl rfl ?_
  refine hp_gf (pc' := 4) rfl (by decide) (hp_c0 X _) rfl rfl ?_
  refine hp_sN [5] (pc' := 5) (L' := [some (.ref 0), some (.int i1), some (.int i2), none, none, none, none]) (st' := [.int i1, .ref 1]) rfl rfl ?_
  refine hp_iv (virt := true) (pc' := 8) (rv := some (.int (hq_181 S 1 i1))) (M1 := hp_mem X (S)) rfl rfl (by decide) (hk_181 (Or.inl rfl) S (i1)) rfl rfl ?_
  show hp_T _ 20 8 _ [.int (hq_181 S 1 i1)] _ _ _
  refine hp_if (pc' := 11) rfl rfl (fun h1 => ?_) (fun h1 => ?_)
  · refine hp_sN [19] (pc' := 19) (L' := [some (.ref 0), some (.int i1), some (.int i2), none, none, none, none]) (st' := [.int (Int32.ofInt (-1))]) rfl rfl ?_
    exact hp_Ris rfl
  · refine hp_sN [12] (pc' := 12) (L' := [some (.ref 0), some (.int i1), some (.int i2), none, none, none, none]) (st' := [.int i2]) rfl rfl ?_
    refine hp_iv (virt := false) (pc' := 15) (rv := some (.int (hq_50 S i2))) (M1 := hp_mem X (S)) rfl rfl (by decide) (hk_50 S (i2)) rfl rfl ?_
    show hp_T _ 20 15 _ [.int (hq_50 S i2)] _ _ _
    refine hp_if (pc' := 18) rfl rfl (fun h2 => ?_) (fun h2 => ?_)
    · refine hp_sN [22, 23, 24, 26, 27, 29] (pc' := 29) (L' := [some (.ref 0), some (.int i1), some (.int i2), some (.int (Int32.ofInt (-4))), some (.int (Int32.ofInt (-1))), some (.int (Int32.ofInt 0)), none]) (st' := []) rfl rfl ?_
      refine ht_20_29 n i1 i2  n (Nat.le_refl _) (((S 1 8).toInt - (Int32.ofInt 0).toInt).toNat + 1) S ((Int32.ofInt (-4))) ((Int32.ofInt (-1))) ((Int32.ofInt 0)) (none) _ (Nat.lt_succ_self _) rfl (fun x6_29 x4_29 x5_29 => ?_)
      show hp_T _ 20 101 [some (.ref 0), some (.int i1), some (.int i2), some (.int (hq_20_29 i1 i2 (((S 1 8).toInt - (Int32.ofInt 0).toInt).toNat + 1) S ((Int32.ofInt (-4))) ((Int32.ofInt (-1))) ((Int32.ofInt 0))).2), x4_29, x5_29, x6_29] _ (hp_mem X ((hq_20_29 i1 i2 (((S 1 8).toInt - (Int32.ofInt 0).toInt).toNat + 1) S ((Int32.ofInt (-4))) ((Int32.ofInt (-1))) ((Int32.ofInt 0))).1)) _ _
      refine hp_sN [102] (pc' := 102) (L' := [some (.ref 0), some (.int i1), some (.int i2), some (.int (hq_20_29 i1 i2 (((S 1 8).toInt - (Int32.ofInt 0).toInt).toNat + 1) S ((Int32.ofInt (-4))) ((Int32.ofInt (-1))) ((Int32.ofInt 0))).2), x4_29, x5_29, x6_29]) (st' := [.int (hq_20_29 i1 i2 (((S 1 8).toInt - (Int32.ofInt 0).toInt).toNat + 1) S ((Int32.ofInt (-4))) ((Int32.ofInt (-1))) ((Int32.ofInt 0))).2]) rfl rfl ?_
      exact hp_Ris rfl
    · refine hp_sN [19] (pc' := 19) (L' := [some (.ref 0), some (.int i1), some (.int i2), none, none, none, none]) (st' := [.int (Int32.ofInt (-1))]) rfl rfl ?_
      exact hp_Ris rfl
theorem hk_20 {X : hp_X} (S : hp_S) (i1 : Int32) (i2 : Int32) : hp_K 20 [.ref 0, .int i1, .int i2] (hp_mem X S) (hp_is X) (hq_20 S i1 i2) := by
  refine hp_mk (q := hzq_20) rfl (by decide) (L := [some (.ref 0), some (.int i1), some (.int i2), none, none, none, none]) rfl (fun n => ?_)
  exact ht_20 S i1 i2 n
/-! 59: HatsOfTheWind.windOfThree(I)I -/
def hq_59 (S : hp_S) (i1 : Int32) : Int32 := (((S (1 + 1) (i1 - i1 / (Int32.ofInt 24) * (Int32.ofInt 24)).toNatClampNeg) + (S (1 + 1) ((i1 + (Int32.ofInt 1)) - (i1 + (Int32.ofInt 1)) / (Int32.ofInt 24) * (Int32.ofInt 24)).toNatClampNeg)) + (S (1 + 1) ((i1 + (Int32.ofInt 2)) - (i1 + (Int32.ofInt 2)) / (Int32.ofInt 24) * (Int32.ofInt 24)).toNatClampNeg))
set_option maxRecDepth 10000 in
theorem ht_59 {X : hp_X} (S : hp_S) (i1 : Int32) (n : Nat) : hp_T n 59 0 [some (.ref 0), some (.int i1)] [] (hp_mem X S) (hp_i X S) (hq_59 S i1) := by
  unfold hq_59
  refine hp_sN [1] (pc' := 1) (L' := [some (.ref 0), some (.int i1)]) (st' := [.ref 0]) rfl rfl ?_
  refine hp_gf (pc' := 4) rfl (by decide) (hp_c0 X _) rfl rfl ?_
  refine hp_gf (pc' := 7) rfl (hp_bl (Or.inl rfl) 0 (by decide)) (hp_b0 (Or.inl rfl) X _) rfl rfl ?_
  refine hp_sN [8, 10] (pc' := 10) (L' := [some (.ref 0), some (.int i1)]) (st' := [.int (Int32.ofInt 24), .int i1, .ref (1 + 1)]) rfl rfl ?_
  refine hp_ri2 (pc' := 11) rfl rfl ?_
  refine hp_al (pc' := 12) rfl (hp_bl (Or.inl rfl) 1 (by decide)) (hp_b1 (Or.inl rfl) X _) rfl ?_
  refine hp_sN [13] (pc' := 13) (L' := [some (.ref 0), some (.int i1)]) (st' := [.ref 0, .int (S (1 + 1) (i1 - i1 / (Int32.ofInt 24) * (Int32.ofInt 24)).toNatClampNeg)]) rfl rfl ?_
  refine hp_gf (pc' := 16) rfl (by decide) (hp_c0 X _) rfl rfl ?_
  refine hp_gf (pc' := 19) rfl (hp_bl (Or.inl rfl) 0 (by decide)) (hp_b0 (Or.inl rfl) X _) rfl rfl ?_
  refine hp_sN [20, 21, 22, 24] (pc' := 24) (L' := [some (.ref 0), some (.int i1)]) (st' := [.int (Int32.ofInt 24), .int (i1 + (Int32.ofInt 1)), .ref (1 + 1), .int (S (1 + 1) (i1 - i1 / (Int32.ofInt 24) * (Int32.ofInt 24)).toNatClampNeg)]) rfl rfl ?_
  refine hp_ri2 (pc' := 25) rfl rfl ?_
  refine hp_al (pc' := 26) rfl (hp_bl (Or.inl rfl) 1 (by decide)) (hp_b1 (Or.inl rfl) X _) rfl ?_
  refine hp_sN [27, 28] (pc' := 28) (L' := [some (.ref 0), some (.int i1)]) (st' := [.ref 0, .int ((S (1 + 1) (i1 - i1 / (Int32.ofInt 24) * (Int32.ofInt 24)).toNatClampNeg) + (S (1 + 1) ((i1 + (Int32.ofInt 1)) - (i1 + (Int32.ofInt 1)) / (Int32.ofInt 24) * (Int32.ofInt 24)).toNatClampNeg))]) rfl rfl ?_
  refine hp_gf (pc' := 31) rfl (by decide) (hp_c0 X _) rfl rfl ?_
  refine hp_gf (pc' := 34) rfl (hp_bl (Or.inl rfl) 0 (by decide)) (hp_b0 (Or.inl rfl) X _) rfl rfl ?_
  refine hp_sN [35, 36, 37, 39] (pc' := 39) (L' := [some (.ref 0), some (.int i1)]) (st' := [.int (Int32.ofInt 24), .int (i1 + (Int32.ofInt 2)), .ref (1 + 1), .int ((S (1 + 1) (i1 - i1 / (Int32.ofInt 24) * (Int32.ofInt 24)).toNatClampNeg) + (S (1 + 1) ((i1 + (Int32.ofInt 1)) - (i1 + (Int32.ofInt 1)) / (Int32.ofInt 24) * (Int32.ofInt 24)).toNatClampNeg))]) rfl rfl ?_
  refine hp_ri2 (pc' := 40) rfl rfl ?_
  refine hp_al (pc' := 41) rfl (hp_bl (Or.inl rfl) 1 (by decide)) (hp_b1 (Or.inl rfl) X _) rfl ?_
  refine hp_sN [42] (pc' := 42) (L' := [some (.ref 0), some (.int i1)]) (st' := [.int (((S (1 + 1) (i1 - i1 / (Int32.ofInt 24) * (Int32.ofInt 24)).toNatClampNeg) + (S (1 + 1) ((i1 + (Int32.ofInt 1)) - (i1 + (Int32.ofInt 1)) / (Int32.ofInt 24) * (Int32.ofInt 24)).toNatClampNeg)) + (S (1 + 1) ((i1 + (Int32.ofInt 2)) - (i1 + (Int32.ofInt 2)) / (Int32.ofInt 24) * (Int32.ofInt 24)).toNatClampNeg))]) rfl rfl ?_
  exact hp_Ri rfl
theorem hk_59 {X : hp_X} (S : hp_S) (i1 : Int32) : hp_K 59 [.ref 0, .int i1] (hp_mem X S) (hp_i X S) (hq_59 S i1) := by
  refine hp_mk (q := hzq_59) rfl (by decide) (L := [some (.ref 0), some (.int i1)]) rfl (fun n => ?_)
  exact ht_59 S i1 n
/-! 60: HatsOfTheWind.calmestHour()I -/
def hq_60_4 : Nat → hp_S → Int32 → Int32 → Int32
  | 0, S, _, _ => 0
  | m + 1, S, v1, v2 => (if hz_cmp .ge v2 (Int32.ofInt 24) = true then v1 else (if hz_cmp .ge (hq_59 S v2) (hq_59 S v1) = true then hq_60_4 m S v1 (v2 + (Int32.ofInt 1)) else hq_60_4 m S v2 (v2 + (Int32.ofInt 1))))
def hq_60 (S : hp_S) : Int32 := (hq_60_4 (((Int32.ofInt 24).toInt - (Int32.ofInt 1).toInt).toNat + 1) S ((Int32.ofInt 0)) ((Int32.ofInt 1)))
set_option maxRecDepth 10000 in
theorem ht_60_4 {α : Type} {φ : α → Option Value × hzMem} {R : α} {X : hp_X} (N : Nat) (S : hp_S) : ∀ (n : Nat), n ≤ N → ∀ (m : Nat) (v1 : Int32) (v2 : Int32) (Z : Int32), ((Int32.ofInt 24).toInt - v2.toInt).toNat < m → hq_60_4 m S v1 v2 = Z → (∀ (x2 : Option Value), hp_T N 60 31 [some (.ref 0), some (.int Z), x2] [] (hp_mem X S) φ R) → hp_T n 60 4 [some (.ref 0), some (.int v1), some (.int v2)] [] (hp_mem X S) φ R := by
  intro n
  induction n with
  | zero => intros; exact hp_0
  | succ n ih =>
    intro hN m v1 v2 Z hm hZ kk
    cases m with
    | zero => exact absurd hm (Nat.not_lt_zero _)
    | succ m =>
      rw [hq_60_4] at hZ
      refine hp_sN [5, 7] (pc' := 7) (L' := [some (.ref 0), some (.int v1), some (.int v2)]) (st' := [.int (Int32.ofInt 24), .int v2]) rfl rfl ?_
      refine hp_ic2 (pc' := 10) rfl rfl (fun h1 => ?_) (fun h1 => ?_)
      · rw [if_pos h1] at hZ
        subst hZ
        exact hp_le hN (kk (some (.int v2)))
      · rw [if_neg (hp_nt h1)] at hZ
        refine hp_sN [11, 12] (pc' := 12) (L' := [some (.ref 0), some (.int v1), some (.int v2)]) (st' := [.int v2, .ref 0]) rfl rfl ?_
        refine hp_iv (virt := true) (pc' := 15) (rv := some (.int (hq_59 S v2))) (M1 := hp_mem X (S)) rfl rfl (by decide) (hk_59 S (v2)) rfl rfl ?_
        show hp_T _ 60 15 _ [.int (hq_59 S v2)] _ _ _
        refine hp_sN [16, 17] (pc' := 17) (L' := [some (.ref 0), some (.int v1), some (.int v2)]) (st' := [.int v1, .ref 0, .int (hq_59 S v2)]) rfl rfl ?_
        refine hp_iv (virt := true) (pc' := 20) (rv := some (.int (hq_59 S v1))) (M1 := hp_mem X (S)) rfl rfl (by decide) (hk_59 S (v1)) rfl rfl ?_
        show hp_T _ 60 20 _ [.int (hq_59 S v1), .int (hq_59 S v2)] _ _ _
        refine hp_ic2 (pc' := 23) rfl rfl (fun h2 => ?_) (fun h2 => ?_)
        · rw [if_pos h2] at hZ
          refine hp_sB 28 [4] (pc' := 4) (L' := [some (.ref 0), some (.int v1), some (.int (v2 + (Int32.ofInt 1)))]) (st' := []) rfl rfl ?_
          exact ih (Nat.le_trans (Nat.le_succ n) hN) m (v1) ((v2 + (Int32.ofInt 1))) Z (hp_up h1 hm) hZ kk
        · rw [if_neg (hp_nt h2)] at hZ
          refine hp_sB 24 [25, 28, 4] (pc' := 4) (L' := [some (.ref 0), some (.int v2), some (.int (v2 + (Int32.ofInt 1)))]) (st' := []) rfl rfl ?_
          exact ih (Nat.le_trans (Nat.le_succ n) hN) m (v2) ((v2 + (Int32.ofInt 1))) Z (hp_up h1 hm) hZ kk
set_option maxRecDepth 10000 in
theorem ht_60 {X : hp_X} (S : hp_S) (n : Nat) : hp_T n 60 0 [some (.ref 0), none, none] [] (hp_mem X S) (hp_i X S) (hq_60 S) := by
  unfold hq_60
  refine hp_sN [1, 2, 3, 4] (pc' := 4) (L' := [some (.ref 0), some (.int (Int32.ofInt 0)), some (.int (Int32.ofInt 1))]) (st' := []) rfl rfl ?_
  refine ht_60_4 n S n (Nat.le_refl _) (((Int32.ofInt 24).toInt - (Int32.ofInt 1).toInt).toNat + 1)  ((Int32.ofInt 0)) ((Int32.ofInt 1))  _ (Nat.lt_succ_self _) rfl (fun x2_4 => ?_)
  show hp_T _ 60 31 [some (.ref 0), some (.int (hq_60_4 (((Int32.ofInt 24).toInt - (Int32.ofInt 1).toInt).toNat + 1) S ((Int32.ofInt 0)) ((Int32.ofInt 1)))), x2_4] _ (hp_mem X S) _ _
  refine hp_sN [32] (pc' := 32) (L' := [some (.ref 0), some (.int (hq_60_4 (((Int32.ofInt 24).toInt - (Int32.ofInt 1).toInt).toNat + 1) S ((Int32.ofInt 0)) ((Int32.ofInt 1)))), x2_4]) (st' := [.int (hq_60_4 (((Int32.ofInt 24).toInt - (Int32.ofInt 1).toInt).toNat + 1) S ((Int32.ofInt 0)) ((Int32.ofInt 1)))]) rfl rfl ?_
  exact hp_Ri rfl
theorem hk_60 {X : hp_X} (S : hp_S) : hp_K 60 [.ref 0] (hp_mem X S) (hp_i X S) (hq_60 S) := by
  refine hp_mk (q := hzq_60) rfl (by decide) (L := [some (.ref 0), none, none]) rfl (fun n => ?_)
  exact ht_60 S n
/-! 61: HatsOfTheWind.windiestHour()I -/
def hq_61_4 : Nat → hp_S → Int32 → Int32 → Int32
  | 0, S, _, _ => 0
  | m + 1, S, v1, v2 => (if hz_cmp .ge v2 (Int32.ofInt 24) = true then v1 else (if hz_cmp .le (S (1 + 1) v2.toNatClampNeg) (S (1 + 1) v1.toNatClampNeg) = true then hq_61_4 m S v1 (v2 + (Int32.ofInt 1)) else hq_61_4 m S v2 (v2 + (Int32.ofInt 1))))
def hq_61 (S : hp_S) : Int32 := (hq_61_4 (((Int32.ofInt 24).toInt - (Int32.ofInt 1).toInt).toNat + 1) S ((Int32.ofInt 0)) ((Int32.ofInt 1)))
set_option maxRecDepth 10000 in
theorem ht_61_4 {α : Type} {φ : α → Option Value × hzMem} {R : α} {X : hp_X} (N : Nat) (S : hp_S) : ∀ (n : Nat), n ≤ N → ∀ (m : Nat) (v1 : Int32) (v2 : Int32) (Z : Int32), ((Int32.ofInt 24).toInt - v2.toInt).toNat < m → hq_61_4 m S v1 v2 = Z → (∀ (x2 : Option Value), hp_T N 61 39 [some (.ref 0), some (.int Z), x2] [] (hp_mem X S) φ R) → hp_T n 61 4 [some (.ref 0), some (.int v1), some (.int v2)] [] (hp_mem X S) φ R := by
  intro n
  induction n with
  | zero => intros; exact hp_0
  | succ n ih =>
    intro hN m v1 v2 Z hm hZ kk
    cases m with
    | zero => exact absurd hm (Nat.not_lt_zero _)
    | succ m =>
      rw [hq_61_4] at hZ
      refine hp_sN [5, 7] (pc' := 7) (L' := [some (.ref 0), some (.int v1), some (.int v2)]) (st' := [.int (Int32.ofInt 24), .int v2]) rfl rfl ?_
      refine hp_ic2 (pc' := 10) rfl rfl (fun h1 => ?_) (fun h1 => ?_)
      · rw [if_pos h1] at hZ
        subst hZ
        exact hp_le hN (kk (some (.int v2)))
      · rw [if_neg (hp_nt h1)] at hZ
        refine hp_sN [11] (pc' := 11) (L' := [some (.ref 0), some (.int v1), some (.int v2)]) (st' := [.ref 0]) rfl rfl ?_
        refine hp_gf (pc' := 14) rfl (by decide) (hp_c0 X _) rfl rfl ?_
        refine hp_gf (pc' := 17) rfl (hp_bl (Or.inl rfl) 0 (by decide)) (hp_b0 (Or.inl rfl) X _) rfl rfl ?_
        refine hp_sN [18] (pc' := 18) (L' := [some (.ref 0), some (.int v1), some (.int v2)]) (st' := [.int v2, .ref (1 + 1)]) rfl rfl ?_
        refine hp_al (pc' := 19) rfl (hp_bl (Or.inl rfl) 1 (by decide)) (hp_b1 (Or.inl rfl) X _) rfl ?_
        refine hp_sN [20] (pc' := 20) (L' := [some (.ref 0), some (.int v1), some (.int v2)]) (st' := [.ref 0, .int (S (1 + 1) v2.toNatClampNeg)]) rfl rfl ?_
        refine hp_gf (pc' := 23) rfl (by decide) (hp_c0 X _) rfl rfl ?_
        refine hp_gf (pc' := 26) rfl (hp_bl (Or.inl rfl) 0 (by decide)) (hp_b0 (Or.inl rfl) X _) rfl rfl ?_
        refine hp_sN [27] (pc' := 27) (L' := [some (.ref 0), some (.int v1), some (.int v2)]) (st' := [.int v1, .ref (1 + 1), .int (S (1 + 1) v2.toNatClampNeg)]) rfl rfl ?_
        refine hp_al (pc' := 28) rfl (hp_bl (Or.inl rfl) 1 (by decide)) (hp_b1 (Or.inl rfl) X _) rfl ?_
        refine hp_ic2 (pc' := 31) rfl rfl (fun h2 => ?_) (fun h2 => ?_)
        · rw [if_pos h2] at hZ
          refine hp_sB 36 [4] (pc' := 4) (L' := [some (.ref 0), some (.int v1), some (.int (v2 + (Int32.ofInt 1)))]) (st' := []) rfl rfl ?_
          exact ih (Nat.le_trans (Nat.le_succ n) hN) m (v1) ((v2 + (Int32.ofInt 1))) Z (hp_up h1 hm) hZ kk
        · rw [if_neg (hp_nt h2)] at hZ
          refine hp_sB 32 [33, 36, 4] (pc' := 4) (L' := [some (.ref 0), some (.int v2), some (.int (v2 + (Int32.ofInt 1)))]) (st' := []) rfl rfl ?_
          exact ih (Nat.le_trans (Nat.le_succ n) hN) m (v2) ((v2 + (Int32.ofInt 1))) Z (hp_up h1 hm) hZ kk
set_option maxRecDepth 10000 in
theorem ht_61 {X : hp_X} (S : hp_S) (n : Nat) : hp_T n 61 0 [some (.ref 0), none, none] [] (hp_mem X S) (hp_i X S) (hq_61 S) := by
  unfold hq_61
  refine hp_sN [1, 2, 3, 4] (pc' := 4) (L' := [some (.ref 0), some (.int (Int32.ofInt 0)), some (.int (Int32.ofInt 1))]) (st' := []) rfl rfl ?_
  refine ht_61_4 n S n (Nat.le_refl _) (((Int32.ofInt 24).toInt - (Int32.ofInt 1).toInt).toNat + 1)  ((Int32.ofInt 0)) ((Int32.ofInt 1))  _ (Nat.lt_succ_self _) rfl (fun x2_4 => ?_)
  show hp_T _ 61 39 [some (.ref 0), some (.int (hq_61_4 (((Int32.ofInt 24).toInt - (Int32.ofInt 1).toInt).toNat + 1) S ((Int32.ofInt 0)) ((Int32.ofInt 1)))), x2_4] _ (hp_mem X S) _ _
  refine hp_sN [40] (pc' := 40) (L' := [some (.ref 0), some (.int (hq_61_4 (((Int32.ofInt 24).toInt - (Int32.ofInt 1).toInt).toNat + 1) S ((Int32.ofInt 0)) ((Int32.ofInt 1)))), x2_4]) (st' := [.int (hq_61_4 (((Int32.ofInt 24).toInt - (Int32.ofInt 1).toInt).toNat + 1) S ((Int32.ofInt 0)) ((Int32.ofInt 1)))]) rfl rfl ?_
  exact hp_Ri rfl
theorem hk_61 {X : hp_X} (S : hp_S) : hp_K 61 [.ref 0] (hp_mem X S) (hp_i X S) (hq_61 S) := by
  refine hp_mk (q := hzq_61) rfl (by decide) (L := [some (.ref 0), none, none]) rfl (fun n => ?_)
  exact ht_61 S n
/-! 21: HatsOfTheWind.calm(I)I -/
def hq_21 (S : hp_S) (i1 : Int32) : Int32 := (if i1 = (Int32.ofInt 0) then (hq_60 S) else (if i1 = (Int32.ofInt 1) then (hq_59 S (hq_60 S)) else (if i1 = (Int32.ofInt 2) then (hq_61 S) else (Int32.ofInt (-1)))))
set_option maxRecDepth 10000 in
theorem ht_21 {X : hp_X} (S : hp_S) (i1 : Int32) (n : Nat) : hp_T n 21 0 [some (.ref 0), some (.int i1)] [] (hp_mem X S) (hp_i X S) (hq_21 S i1) := by
  unfold hq_21
  refine hp_sN [1] (pc' := 1) (L' := [some (.ref 0), some (.int i1)]) (st' := [.int i1]) rfl rfl ?_
  refine hp_st (c := 0) (t := 28) rfl (by decide) (by decide) rfl (fun h1 => ?_) (fun h2 => ?_)
  · refine hp_sN [29] (pc' := 29) (L' := [some (.ref 0), some (.int i1)]) (st' := [.ref 0]) rfl rfl ?_
    refine hp_iv (virt := true) (pc' := 32) (rv := some (.int (hq_60 S))) (M1 := hp_mem X (S)) rfl rfl (by decide) (hk_60 S) rfl rfl ?_
    show hp_T _ 21 32 _ [.int (hq_60 S)] _ _ _
    exact hp_Ri rfl
  refine hp_st (c := 1) (t := 33) rfl (by decide) (by decide) rfl (fun h3 => ?_) (fun h4 => ?_)
  · refine hp_sN [34, 35] (pc' := 35) (L' := [some (.ref 0), some (.int i1)]) (st' := [.ref 0, .ref 0]) rfl rfl ?_
    refine hp_iv (virt := true) (pc' := 38) (rv := some (.int (hq_60 S))) (M1 := hp_mem X (S)) rfl rfl (by decide) (hk_60 S) rfl rfl ?_
    show hp_T _ 21 38 _ [.int (hq_60 S), .ref 0] _ _ _
    refine hp_iv (virt := true) (pc' := 41) (rv := some (.int (hq_59 S (hq_60 S)))) (M1 := hp_mem X (S)) rfl rfl (by decide) (hk_59 S ((hq_60 S))) rfl rfl ?_
    show hp_T _ 21 41 _ [.int (hq_59 S (hq_60 S))] _ _ _
    exact hp_Ri rfl
  refine hp_st (c := 2) (t := 42) rfl (by decide) (by decide) rfl (fun h5 => ?_) (fun h6 => ?_)
  · refine hp_sN [43] (pc' := 43) (L' := [some (.ref 0), some (.int i1)]) (st' := [.ref 0]) rfl rfl ?_
    refine hp_iv (virt := true) (pc' := 46) (rv := some (.int (hq_61 S))) (M1 := hp_mem X (S)) rfl rfl (by decide) (hk_61 S) rfl rfl ?_
    show hp_T _ 21 46 _ [.int (hq_61 S)] _ _ _
    exact hp_Ri rfl
  refine hp_td (t := 47) [0, 1, 2] rfl rfl rfl (by decide) (fun c q => ?_) ?_
  · simp only [List.mem_cons, List.not_mem_nil, or_false] at q
    omega
  refine hp_sN [48] (pc' := 48) (L' := [some (.ref 0), some (.int i1)]) (st' := [.int (Int32.ofInt (-1))]) rfl rfl ?_
  exact hp_Ri rfl
theorem hk_21 {X : hp_X} (S : hp_S) (i1 : Int32) : hp_K 21 [.ref 0, .int i1] (hp_mem X S) (hp_i X S) (hq_21 S i1) := by
  refine hp_mk (q := hzq_21) rfl (by decide) (L := [some (.ref 0), some (.int i1)]) rfl (fun n => ?_)
  exact ht_21 S i1 n
/-! 22: HatsOfTheWind.fewestPins(II)I -/
def hq_22_49 (i1 : Int32) (i2 : Int32) : Nat → hp_S → Int32 → Int32 → Int32 × hp_S
  | 0, S, _, _ => (0, S)
  | m + 1, S, v3, v4 => (if hz_cmp .gt v4 (Int32.ofInt 9) = true then ((Int32.ofInt (-4)), S) else (if hz_cmp .ne (hq_56 (hp_w (hq_55 S (Int32.ofInt 0)) (10 + 4) i1.toNatClampNeg v4) v3 i2).1 (Int32.ofInt (-4)) = true then hq_22_49 i1 i2 m ((hq_56 (hp_w (hq_55 S (Int32.ofInt 0)) (10 + 4) i1.toNatClampNeg v4) v3 i2).2) v3 (v4 + (Int32.ofInt 1)) else (v4, (hq_56 (hp_w (hq_55 S (Int32.ofInt 0)) (10 + 4) i1.toNatClampNeg v4) v3 i2).2)))
def hq_22 (S : hp_S) (i1 : Int32) (i2 : Int32) : Int32 × hp_S := (if hz_cmp .eq (hq_181 S 1 i1) 0 = true then ((Int32.ofInt (-1)), S) else (if hz_cmp .ne (hq_44 S i2 (Int32.ofInt 1) (Int32.ofInt 99)) 0 = true then (if hz_cmp .ne (hq_182 S 1 (hq_187 S 1 i1)) 0 = true then (hq_22_49 i1 i2 (((Int32.ofInt 9).toInt + 1 - (Int32.ofInt 0).toInt).toNat + 1) S ((hq_187 S 1 i1)) ((Int32.ofInt 0))) else ((Int32.ofInt (-4)), S)) else ((Int32.ofInt (-1)), S)))
theorem hf_22_49 {i1 : Int32} {i2 : Int32} (j : Nat) (z0 : j ≠ (10 + 1)) (z1 : j ≠ 10) (z2 : j ≠ (10 + 2)) (z3 : j ≠ (10 + 3)) (z4 : j ≠ (10 + 4)) (z5 : j ≠ (10 + 5)) (z6 : j ≠ (10 + 6)) (z7 : j ≠ (10 + 7)) (z8 : j ≠ (10 + 8)) : ∀ (m : Nat) (S : hp_S) (v3 : Int32) (v4 : Int32), (hq_22_49 i1 i2 m S v3 v4).2 j = S j := by
  intro m
  induction m with
  | zero => intros; rfl
  | succ m ih =>
    intro S v3 v4
    rw [hq_22_49]
    repeat' split
    all_goals simp [ih, hp_wo, hp_wgo, hp_cpo, hf_55, hf_56, z0, z1, z2, z3, z4, z5, z6, z7, z8]
theorem hf_22 (S : hp_S) (i1 : Int32) (i2 : Int32) (j : Nat) (z0 : j ≠ (10 + 1)) (z1 : j ≠ 10) (z2 : j ≠ (10 + 2)) (z3 : j ≠ (10 + 3)) (z4 : j ≠ (10 + 4)) (z5 : j ≠ (10 + 5)) (z6 : j ≠ (10 + 6)) (z7 : j ≠ (10 + 7)) (z8 : j ≠ (10 + 8)) : (hq_22 S i1 i2).2 j = S j := by
  unfold hq_22
  repeat' split
  all_goals simp [hp_wo, hp_wgo, hp_cpo, hf_55, hf_56, z0, z1, z2, z3, z4, z5, z6, z7, z8, hf_22_49]
theorem hp_nz1 {v : Int32} (h : hz_cmp .ne v 0 = true) : v ≠ 0 := by simpa [hz_cmp] using h
theorem hp_nz0 {v : Int32} (h : hz_cmp .eq v 0 = false) : v ≠ 0 := by simpa [hz_cmp] using h
theorem hp_isin44 {S : hp_S} {i : Int32} (h : hq_44 S i (Int32.ofInt 1) (Int32.ofInt 99) ≠ 0) : i.toInt < 2147483647 := by
  unfold hq_44 at h
  split at h
  · exact absurd rfl h
  · split at h
    · exact absurd rfl h
    · rename_i h1 h2
      have e : (Int32.ofInt 99).toInt = 99 := by decide
      simp only [hz_cmp, decide_eq_true_eq, Int32.lt_iff_toInt_lt] at h2
      omega
set_option maxRecDepth 10000 in
theorem ht_22_49 {X : hp_X} (i1 : Int32) (i2 : Int32) (hn : i2.toInt < 2147483647) : ∀ (n m : Nat) (S : hp_S) (v3 : Int32) (v4 : Int32), ((Int32.ofInt 9).toInt + 1 - v4.toInt).toNat < m → hp_T n 22 49 [some (.ref 0), some (.int i1), some (.int i2), some (.int v3), some (.int v4)] [] (hp_mem X S) (hp_is X) (hq_22_49 i1 i2 m S v3 v4) := by
  intro n
  induction n with
  | zero => intros; exact hp_0
  | succ n ih =>
    intro m S v3 v4 hm
    cases m with
    | zero => exact absurd hm (Nat.not_lt_zero _)
    | succ m =>
      rw [hq_22_49]
      refine hp_sN [51, 53] (pc' := 53) (L' := [some (.ref 0), some (.int i1), some (.int i2), some (.int v3), some (.int v4)]) (st' := [.int (Int32.ofInt 9), .int v4]) rfl rfl ?_
      refine hp_ic (pc' := 56) rfl rfl (fun h1 => ?_) (fun h1 => ?_)
      · refine hp_sN [94] (pc' := 94) (L' := [some (.ref 0), some (.int i1), some (.int i2), some (.int v3), some (.int v4)]) (st' := [.int (Int32.ofInt (-4))]) rfl rfl ?_
        exact hp_Ris rfl
      · refine hp_sN [57, 58] (pc' := 58) (L' := [some (.ref 0), some (.int i1), some (.int i2), some (.int v3), some (.int v4)]) (st' := [.int (Int32.ofInt 0), .ref 0]) rfl rfl ?_
        refine hp_iv (virt := true) (pc' := 61) (rv := none) (M1 := hp_mem X (hq_55 S (Int32.ofInt 0))) rfl rfl (by decide) (hk_55 S ((Int32.ofInt 0))) rfl rfl ?_
        show hp_T _ 22 61 _ [] _ _ _
        refine hp_sN [62] (pc' := 62) (L' := [some (.ref 0), some (.int i1), some (.int i2), some (.int v3), some (.int v4)]) (st' := [.ref 0]) rfl rfl ?_
        refine hp_gf (pc' := 65) rfl (by decide) (hp_c0 X _) rfl rfl ?_
        refine hp_gf (pc' := 68) rfl (hp_bl (Or.inr (Or.inl rfl)) 0 (by decide)) (hp_b0 (Or.inr (Or.inl rfl)) X _) rfl rfl ?_
        refine hp_sN [69, 71] (pc' := 71) (L' := [some (.ref 0), some (.int i1), some (.int i2), some (.int v3), some (.int v4)]) (st' := [.int v4, .int i1, .ref (10 + 4)]) rfl rfl ?_
        refine hp_as (pc' := 72) rfl (hp_bl (Or.inr (Or.inl rfl)) 4 (by decide)) (fun _ => (hp_b4 (Or.inr (Or.inl rfl)) X _)) rfl ?_
        refine hp_sN [73, 74, 75] (pc' := 75) (L' := [some (.ref 0), some (.int i1), some (.int i2), some (.int v3), some (.int v4)]) (st' := [.int i2, .int v3, .ref 0]) rfl rfl ?_
        refine hp_iv (virt := true) (pc' := 78) (rv := some (.int (hq_56 (hp_w (hq_55 S (Int32.ofInt 0)) (10 + 4) i1.toNatClampNeg v4) v3 i2).1)) (M1 := hp_mem X ((hq_56 (hp_w (hq_55 S (Int32.ofInt 0)) (10 + 4) i1.toNatClampNeg v4) v3 i2).2)) rfl rfl (by decide) (hk_56 (hp_w (hq_55 S (Int32.ofInt 0)) (10 + 4) i1.toNatClampNeg v4) (v3) (i2) hn) rfl rfl ?_
        show hp_T _ 22 78 _ [.int (hq_56 (hp_w (hq_55 S (Int32.ofInt 0)) (10 + 4) i1.toNatClampNeg v4) v3 i2).1] _ _ _
        refine hp_sN [80] (pc' := 80) (L' := [some (.ref 0), some (.int i1), some (.int i2), some (.int v3), some (.int v4)]) (st' := [.int (Int32.ofInt (-4)), .int (hq_56 (hp_w (hq_55 S (Int32.ofInt 0)) (10 + 4) i1.toNatClampNeg v4) v3 i2).1]) rfl rfl ?_
        refine hp_ic (pc' := 83) rfl rfl (fun h2 => ?_) (fun h2 => ?_)
        · refine hp_sB 89 [49] (pc' := 49) (L' := [some (.ref 0), some (.int i1), some (.int i2), some (.int v3), some (.int (v4 + (Int32.ofInt 1)))]) (st' := []) rfl rfl ?_
          exact ih m ((hq_56 (hp_w (hq_55 S (Int32.ofInt 0)) (10 + 4) i1.toNatClampNeg v4) v3 i2).2) (v3) ((v4 + (Int32.ofInt 1))) (hp_up2 h1 hm (by decide))
        · refine hp_sN [85] (pc' := 85) (L' := [some (.ref 0), some (.int i1), some (.int i2), some (.int v3), some (.int v4)]) (st' := [.int v4]) rfl rfl ?_
          exact hp_Ris rfl
set_option maxRecDepth 10000 in
theorem ht_22 {X : hp_X} (S : hp_S) (i1 : Int32) (i2 : Int32) (n : Nat) : hp_T n 22 0 [some (.ref 0), some (.int i1), some (.int i2), none, none] [] (hp_mem X S) (hp_is X) (hq_22 S i1 i2) := by
  unfold hq_22
  refine hp_sN [1] (pc' := 1) (L' := [some (.ref 0), some (.int i1), some (.int i2), none, none]) (st' := [.ref 0]) rfl rfl ?_
  refine hp_gf (pc' := 4) rfl (by decide) (hp_c0 X _) rfl rfl ?_
  refine hp_sN [5] (pc' := 5) (L' := [some (.ref 0), some (.int i1), some (.int i2), none, none]) (st' := [.int i1, .ref 1]) rfl rfl ?_
  refine hp_iv (virt := true) (pc' := 8) (rv := some (.int (hq_181 S 1 i1))) (M1 := hp_mem X (S)) rfl rfl (by decide) (hk_181 (Or.inl rfl) S (i1)) rfl rfl ?_
  show hp_T _ 22 8 _ [.int (hq_181 S 1 i1)] _ _ _
  refine hp_if (pc' := 11) rfl rfl (fun h1 => ?_) (fun h1 => ?_)
  · refine hp_sN [22] (pc' := 22) (L' := [some (.ref 0), some (.int i1), some (.int i2), none, none]) (st' := [.int (Int32.ofInt (-1))]) rfl rfl ?_
    exact hp_Ris rfl
  · refine hp_sN [12, 13, 15] (pc' := 15) (L' := [some (.ref 0), some (.int i1), some (.int i2), none, none]) (st' := [.int (Int32.ofInt 99), .int (Int32.ofInt 1), .int i2]) rfl rfl ?_
    refine hp_iv (virt := false) (pc' := 18) (rv := some (.int (hq_44 S i2 (Int32.ofInt 1) (Int32.ofInt 99)))) (M1 := hp_mem X (S)) rfl rfl (by decide) (hk_44 S (i2) ((Int32.ofInt 1)) ((Int32.ofInt 99))) rfl rfl ?_
    show hp_T _ 22 18 _ [.int (hq_44 S i2 (Int32.ofInt 1) (Int32.ofInt 99))] _ _ _
    refine hp_if (pc' := 21) rfl rfl (fun h2 => ?_) (fun h2 => ?_)
    · refine hp_sN [24] (pc' := 24) (L' := [some (.ref 0), some (.int i1), some (.int i2), none, none]) (st' := [.ref 0]) rfl rfl ?_
      refine hp_gf (pc' := 27) rfl (by decide) (hp_c0 X _) rfl rfl ?_
      refine hp_sN [28] (pc' := 28) (L' := [some (.ref 0), some (.int i1), some (.int i2), none, none]) (st' := [.int i1, .ref 1]) rfl rfl ?_
      refine hp_iv (virt := true) (pc' := 31) (rv := some (.int (hq_187 S 1 i1))) (M1 := hp_mem X (S)) rfl rfl (by decide) (hk_187 (Or.inl rfl) S (i1)) rfl rfl ?_
      show hp_T _ 22 31 _ [.int (hq_187 S 1 i1)] _ _ _
      refine hp_sN [32, 33] (pc' := 33) (L' := [some (.ref 0), some (.int i1), some (.int i2), some (.int (hq_187 S 1 i1)), none]) (st' := [.ref 0]) rfl rfl ?_
      refine hp_gf (pc' := 36) rfl (by decide) (hp_c0 X _) rfl rfl ?_
      refine hp_sN [37] (pc' := 37) (L' := [some (.ref 0), some (.int i1), some (.int i2), some (.int (hq_187 S 1 i1)), none]) (st' := [.int (hq_187 S 1 i1), .ref 1]) rfl rfl ?_
      refine hp_iv (virt := true) (pc' := 40) (rv := some (.int (hq_182 S 1 (hq_187 S 1 i1)))) (M1 := hp_mem X (S)) rfl rfl (by decide) (hk_182 (Or.inl rfl) S ((hq_187 S 1 i1))) rfl rfl ?_
      show hp_T _ 22 40 _ [.int (hq_182 S 1 (hq_187 S 1 i1))] _ _ _
      refine hp_if (pc' := 43) rfl rfl (fun h3 => ?_) (fun h3 => ?_)
      · refine hp_sN [47, 49] (pc' := 49) (L' := [some (.ref 0), some (.int i1), some (.int i2), some (.int (hq_187 S 1 i1)), some (.int (Int32.ofInt 0))]) (st' := []) rfl rfl ?_
        exact ht_22_49 i1 i2 (hp_isin44 (hp_nz1 h2))  n (((Int32.ofInt 9).toInt + 1 - (Int32.ofInt 0).toInt).toNat + 1) S ((hq_187 S 1 i1)) ((Int32.ofInt 0))  (Nat.lt_succ_self _)
      · refine hp_sN [45] (pc' := 45) (L' := [some (.ref 0), some (.int i1), some (.int i2), some (.int (hq_187 S 1 i1)), none]) (st' := [.int (Int32.ofInt (-4))]) rfl rfl ?_
        exact hp_Ris rfl
    · refine hp_sN [22] (pc' := 22) (L' := [some (.ref 0), some (.int i1), some (.int i2), none, none]) (st' := [.int (Int32.ofInt (-1))]) rfl rfl ?_
      exact hp_Ris rfl
theorem hk_22 {X : hp_X} (S : hp_S) (i1 : Int32) (i2 : Int32) : hp_K 22 [.ref 0, .int i1, .int i2] (hp_mem X S) (hp_is X) (hq_22 S i1 i2) := by
  refine hp_mk (q := hzq_22) rfl (by decide) (L := [some (.ref 0), some (.int i1), some (.int i2), none, none]) rfl (fun n => ?_)
  exact ht_22 S i1 i2 n

