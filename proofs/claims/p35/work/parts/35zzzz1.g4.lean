/-! 96: HatsOfTheWindModel.bareIn([I)I -/
def hq_96_4 (c : Nat) : Nat → hp_S → Int32 → Int32 → Int32
  | 0, S, _, _ => 0
  | m + 1, S, v1, v2 => (if hz_cmp .ge v2 (S c (Int32.ofInt 0).toNatClampNeg) = true then v1 else (if hz_cmp .ne (hq_88 S c v2) (Int32.ofInt 9) = true then hq_96_4 c m S (v1 ||| (Int32.ofInt 0)) (v2 + (Int32.ofInt 1)) else hq_96_4 c m S (v1 ||| ((Int32.ofInt 1) <<< (v2 &&& 31))) (v2 + (Int32.ofInt 1))))
def hq_96 (S : hp_S) (c : Nat) : Int32 := (hq_96_4 c (((S c (Int32.ofInt 0).toNatClampNeg).toInt - (Int32.ofInt 0).toInt).toNat + 1) S ((Int32.ofInt 0)) ((Int32.ofInt 0)))
set_option maxRecDepth 10000 in
theorem ht_96_4 {α : Type} {φ : α → Option Value × hzMem} {R : α} {X : hp_X} (N : Nat) {c : Nat} (hc : hp_c c) (S : hp_S) : ∀ (n : Nat), n ≤ N → ∀ (m : Nat) (v1 : Int32) (v2 : Int32) (Z : Int32), ((S c (Int32.ofInt 0).toNatClampNeg).toInt - v2.toInt).toNat < m → hq_96_4 c m S v1 v2 = Z → (∀ (x2 : Option Value), hp_T N 96 37 [some (.ref c), some (.int Z), x2] [] (hp_mem X S) φ R) → hp_T n 96 4 [some (.ref c), some (.int v1), some (.int v2)] [] (hp_mem X S) φ R := by
  intro n
  induction n with
  | zero => intros; exact hp_0
  | succ n ih =>
    intro hN m v1 v2 Z hm hZ kk
    cases m with
    | zero => exact absurd hm (Nat.not_lt_zero _)
    | succ m =>
      rw [hq_96_4] at hZ
      refine hp_sN [5, 6, 7] (pc' := 7) (L' := [some (.ref c), some (.int v1), some (.int v2)]) (st' := [.int (Int32.ofInt 0), .ref c, .int v2]) rfl rfl ?_
      refine hp_al (pc' := 8) rfl (hp_cl hc) (hp_cc hc X _) rfl ?_
      refine hp_ic2 (pc' := 11) rfl rfl (fun h1 => ?_) (fun h1 => ?_)
      · rw [if_pos h1] at hZ
        subst hZ
        exact hp_le hN (kk (some (.int v2)))
      · rw [if_neg (hp_nt h1)] at hZ
        refine hp_sN [12, 13, 14] (pc' := 14) (L' := [some (.ref c), some (.int v1), some (.int v2)]) (st' := [.int v2, .ref c, .int v1]) rfl rfl ?_
        refine hp_iv (virt := false) (pc' := 17) (rv := some (.int (hq_88 S c v2))) (M1 := hp_mem X (S)) rfl rfl (by decide) (hk_88 hc S (v2)) rfl rfl ?_
        show hp_T _ 96 17 _ [.int (hq_88 S c v2), .int v1] _ _ _
        refine hp_sN [19] (pc' := 19) (L' := [some (.ref c), some (.int v1), some (.int v2)]) (st' := [.int (Int32.ofInt 9), .int (hq_88 S c v2), .int v1]) rfl rfl ?_
        refine hp_ic2 (pc' := 22) rfl rfl (fun h2 => ?_) (fun h2 => ?_)
        · rw [if_pos h2] at hZ
          refine hp_sB 29 [30, 31, 34, 4] (pc' := 4) (L' := [some (.ref c), some (.int (v1 ||| (Int32.ofInt 0))), some (.int (v2 + (Int32.ofInt 1)))]) (st' := []) rfl rfl ?_
          exact ih (Nat.le_trans (Nat.le_succ n) hN) m ((v1 ||| (Int32.ofInt 0))) ((v2 + (Int32.ofInt 1))) Z (hp_up h1 hm) hZ kk
        · rw [if_neg (hp_nt h2)] at hZ
          refine hp_sB 23 [24, 25, 29, 30, 31, 34, 4] (pc' := 4) (L' := [some (.ref c), some (.int (v1 ||| ((Int32.ofInt 1) <<< (v2 &&& 31)))), some (.int (v2 + (Int32.ofInt 1)))]) (st' := []) rfl rfl ?_
          exact ih (Nat.le_trans (Nat.le_succ n) hN) m ((v1 ||| ((Int32.ofInt 1) <<< (v2 &&& 31)))) ((v2 + (Int32.ofInt 1))) Z (hp_up h1 hm) hZ kk
set_option maxRecDepth 10000 in
theorem ht_96 {X : hp_X} {c : Nat} (hc : hp_c c) (S : hp_S) (n : Nat) : hp_T n 96 0 [some (.ref c), none, none] [] (hp_mem X S) (hp_i X S) (hq_96 S c) := by
  unfold hq_96
  refine hp_sN [1, 2, 3, 4] (pc' := 4) (L' := [some (.ref c), some (.int (Int32.ofInt 0)), some (.int (Int32.ofInt 0))]) (st' := []) rfl rfl ?_
  refine ht_96_4 n hc S n (Nat.le_refl _) (((S c (Int32.ofInt 0).toNatClampNeg).toInt - (Int32.ofInt 0).toInt).toNat + 1)  ((Int32.ofInt 0)) ((Int32.ofInt 0))  _ (Nat.lt_succ_self _) rfl (fun x2_4 => ?_)
  show hp_T _ 96 37 [some (.ref c), some (.int (hq_96_4 c (((S c (Int32.ofInt 0).toNatClampNeg).toInt - (Int32.ofInt 0).toInt).toNat + 1) S ((Int32.ofInt 0)) ((Int32.ofInt 0)))), x2_4] _ (hp_mem X S) _ _
  refine hp_sN [38] (pc' := 38) (L' := [some (.ref c), some (.int (hq_96_4 c (((S c (Int32.ofInt 0).toNatClampNeg).toInt - (Int32.ofInt 0).toInt).toNat + 1) S ((Int32.ofInt 0)) ((Int32.ofInt 0)))), x2_4]) (st' := [.int (hq_96_4 c (((S c (Int32.ofInt 0).toNatClampNeg).toInt - (Int32.ofInt 0).toInt).toNat + 1) S ((Int32.ofInt 0)) ((Int32.ofInt 0)))]) rfl rfl ?_
  exact hp_Ri rfl
theorem hk_96 {X : hp_X} {c : Nat} (hc : hp_c c) (S : hp_S) : hp_K 96 [.ref c] (hp_mem X S) (hp_i X S) (hq_96 S c) := by
  refine hp_mk (q := hzq_96) rfl (by decide) (L := [some (.ref c), none, none]) rfl (fun n => ?_)
  exact ht_96 hc S n
/-! 97: HatsOfTheWindModel.isLost([II)Z -/
def hq_97 (S : hp_S) (c : Nat) (i2 : Int32) : Int32 := (if hz_cmp .ne (hq_85 S c i2) 0 = true then (Int32.ofInt 0) else (if hz_cmp .ne (S c (hq_75 S i2 (Int32.ofInt 3)).toNatClampNeg) (Int32.ofInt 21) = true then (Int32.ofInt 0) else (Int32.ofInt 1)))
set_option maxRecDepth 10000 in
theorem ht_97 {X : hp_X} {c : Nat} (hc : hp_c c) (S : hp_S) (i2 : Int32) (n : Nat) : hp_T n 97 0 [some (.ref c), some (.int i2)] [] (hp_mem X S) (hp_i X S) (hq_97 S c i2) := by
  unfold hq_97
  refine hp_sN [1, 2] (pc' := 2) (L' := [some (.ref c), some (.int i2)]) (st' := [.int i2, .ref c]) rfl rfl ?_
  refine hp_iv (virt := false) (pc' := 5) (rv := some (.int (hq_85 S c i2))) (M1 := hp_mem X (S)) rfl rfl (by decide) (hk_85 hc S (i2)) rfl rfl ?_
  show hp_T _ 97 5 _ [.int (hq_85 S c i2)] _ _ _
  refine hp_if (pc' := 8) rfl rfl (fun h1 => ?_) (fun h1 => ?_)
  · refine hp_sN [25] (pc' := 25) (L' := [some (.ref c), some (.int i2)]) (st' := [.int (Int32.ofInt 0)]) rfl rfl ?_
    exact hp_Ri rfl
  · refine hp_sN [9, 10, 11] (pc' := 11) (L' := [some (.ref c), some (.int i2)]) (st' := [.int (Int32.ofInt 3), .int i2, .ref c]) rfl rfl ?_
    refine hp_iv (virt := false) (pc' := 14) (rv := some (.int (hq_75 S i2 (Int32.ofInt 3)))) (M1 := hp_mem X (S)) rfl rfl (by decide) (hk_75 S (i2) ((Int32.ofInt 3))) rfl rfl ?_
    show hp_T _ 97 14 _ [.int (hq_75 S i2 (Int32.ofInt 3)), .ref c] _ _ _
    refine hp_al (pc' := 15) rfl (hp_cl hc) (hp_cc hc X _) rfl ?_
    refine hp_sN [17] (pc' := 17) (L' := [some (.ref c), some (.int i2)]) (st' := [.int (Int32.ofInt 21), .int (S c (hq_75 S i2 (Int32.ofInt 3)).toNatClampNeg)]) rfl rfl ?_
    refine hp_ic (pc' := 20) rfl rfl (fun h2 => ?_) (fun h2 => ?_)
    · refine hp_sN [25] (pc' := 25) (L' := [some (.ref c), some (.int i2)]) (st' := [.int (Int32.ofInt 0)]) rfl rfl ?_
      exact hp_Ri rfl
    · refine hp_sN [21, 25] (pc' := 25) (L' := [some (.ref c), some (.int i2)]) (st' := [.int (Int32.ofInt 1)]) rfl rfl ?_
      exact hp_Ri rfl
theorem hk_97 {X : hp_X} {c : Nat} (hc : hp_c c) (S : hp_S) (i2 : Int32) : hp_K 97 [.ref c, .int i2] (hp_mem X S) (hp_i X S) (hq_97 S c i2) := by
  refine hp_mk (q := hzq_97) rfl (by decide) (L := [some (.ref c), some (.int i2)]) rfl (fun n => ?_)
  exact ht_97 hc S i2 n
/-! 98: HatsOfTheWindModel.lostIn([I)I -/
def hq_98_4 (c : Nat) : Nat → hp_S → Int32 → Int32 → Int32
  | 0, S, _, _ => 0
  | m + 1, S, v1, v2 => (if hz_cmp .ge v2 (S c (Int32.ofInt 1).toNatClampNeg) = true then v1 else (if hz_cmp .eq (hq_97 S c v2) 0 = true then hq_98_4 c m S (v1 ||| (Int32.ofInt 0)) (v2 + (Int32.ofInt 1)) else hq_98_4 c m S (v1 ||| ((Int32.ofInt 1) <<< (v2 &&& 31))) (v2 + (Int32.ofInt 1))))
def hq_98 (S : hp_S) (c : Nat) : Int32 := (hq_98_4 c (((S c (Int32.ofInt 1).toNatClampNeg).toInt - (Int32.ofInt 0).toInt).toNat + 1) S ((Int32.ofInt 0)) ((Int32.ofInt 0)))
set_option maxRecDepth 10000 in
theorem ht_98_4 {α : Type} {φ : α → Option Value × hzMem} {R : α} {X : hp_X} (N : Nat) {c : Nat} (hc : hp_c c) (S : hp_S) : ∀ (n : Nat), n ≤ N → ∀ (m : Nat) (v1 : Int32) (v2 : Int32) (Z : Int32), ((S c (Int32.ofInt 1).toNatClampNeg).toInt - v2.toInt).toNat < m → hq_98_4 c m S v1 v2 = Z → (∀ (x2 : Option Value), hp_T N 98 35 [some (.ref c), some (.int Z), x2] [] (hp_mem X S) φ R) → hp_T n 98 4 [some (.ref c), some (.int v1), some (.int v2)] [] (hp_mem X S) φ R := by
  intro n
  induction n with
  | zero => intros; exact hp_0
  | succ n ih =>
    intro hN m v1 v2 Z hm hZ kk
    cases m with
    | zero => exact absurd hm (Nat.not_lt_zero _)
    | succ m =>
      rw [hq_98_4] at hZ
      refine hp_sN [5, 6, 7] (pc' := 7) (L' := [some (.ref c), some (.int v1), some (.int v2)]) (st' := [.int (Int32.ofInt 1), .ref c, .int v2]) rfl rfl ?_
      refine hp_al (pc' := 8) rfl (hp_cl hc) (hp_cc hc X _) rfl ?_
      refine hp_ic2 (pc' := 11) rfl rfl (fun h1 => ?_) (fun h1 => ?_)
      · rw [if_pos h1] at hZ
        subst hZ
        exact hp_le hN (kk (some (.int v2)))
      · rw [if_neg (hp_nt h1)] at hZ
        refine hp_sN [12, 13, 14] (pc' := 14) (L' := [some (.ref c), some (.int v1), some (.int v2)]) (st' := [.int v2, .ref c, .int v1]) rfl rfl ?_
        refine hp_iv (virt := false) (pc' := 17) (rv := some (.int (hq_97 S c v2))) (M1 := hp_mem X (S)) rfl rfl (by decide) (hk_97 hc S (v2)) rfl rfl ?_
        show hp_T _ 98 17 _ [.int (hq_97 S c v2), .int v1] _ _ _
        refine hp_if2 (pc' := 20) rfl rfl (fun h2 => ?_) (fun h2 => ?_)
        · rw [if_pos h2] at hZ
          refine hp_sB 27 [28, 29, 32, 4] (pc' := 4) (L' := [some (.ref c), some (.int (v1 ||| (Int32.ofInt 0))), some (.int (v2 + (Int32.ofInt 1)))]) (st' := []) rfl rfl ?_
          exact ih (Nat.le_trans (Nat.le_succ n) hN) m ((v1 ||| (Int32.ofInt 0))) ((v2 + (Int32.ofInt 1))) Z (hp_up h1 hm) hZ kk
        · rw [if_neg (hp_nt h2)] at hZ
          refine hp_sB 21 [22, 23, 27, 28, 29, 32, 4] (pc' := 4) (L' := [some (.ref c), some (.int (v1 ||| ((Int32.ofInt 1) <<< (v2 &&& 31)))), some (.int (v2 + (Int32.ofInt 1)))]) (st' := []) rfl rfl ?_
          exact ih (Nat.le_trans (Nat.le_succ n) hN) m ((v1 ||| ((Int32.ofInt 1) <<< (v2 &&& 31)))) ((v2 + (Int32.ofInt 1))) Z (hp_up h1 hm) hZ kk
set_option maxRecDepth 10000 in
theorem ht_98 {X : hp_X} {c : Nat} (hc : hp_c c) (S : hp_S) (n : Nat) : hp_T n 98 0 [some (.ref c), none, none] [] (hp_mem X S) (hp_i X S) (hq_98 S c) := by
  unfold hq_98
  refine hp_sN [1, 2, 3, 4] (pc' := 4) (L' := [some (.ref c), some (.int (Int32.ofInt 0)), some (.int (Int32.ofInt 0))]) (st' := []) rfl rfl ?_
  refine ht_98_4 n hc S n (Nat.le_refl _) (((S c (Int32.ofInt 1).toNatClampNeg).toInt - (Int32.ofInt 0).toInt).toNat + 1)  ((Int32.ofInt 0)) ((Int32.ofInt 0))  _ (Nat.lt_succ_self _) rfl (fun x2_4 => ?_)
  show hp_T _ 98 35 [some (.ref c), some (.int (hq_98_4 c (((S c (Int32.ofInt 1).toNatClampNeg).toInt - (Int32.ofInt 0).toInt).toNat + 1) S ((Int32.ofInt 0)) ((Int32.ofInt 0)))), x2_4] _ (hp_mem X S) _ _
  refine hp_sN [36] (pc' := 36) (L' := [some (.ref c), some (.int (hq_98_4 c (((S c (Int32.ofInt 1).toNatClampNeg).toInt - (Int32.ofInt 0).toInt).toNat + 1) S ((Int32.ofInt 0)) ((Int32.ofInt 0)))), x2_4]) (st' := [.int (hq_98_4 c (((S c (Int32.ofInt 1).toNatClampNeg).toInt - (Int32.ofInt 0).toInt).toNat + 1) S ((Int32.ofInt 0)) ((Int32.ofInt 0)))]) rfl rfl ?_
  exact hp_Ri rfl
theorem hk_98 {X : hp_X} {c : Nat} (hc : hp_c c) (S : hp_S) : hp_K 98 [.ref c] (hp_mem X S) (hp_i X S) (hq_98 S c) := by
  refine hp_mk (q := hzq_98) rfl (by decide) (L := [some (.ref c), none, none]) rfl (fun n => ?_)
  exact ht_98 hc S n
/-! 99: HatsOfTheWindModel.worthOf([II)I -/
def hq_99 (S : hp_S) (c : Nat) (i2 : Int32) : Int32 := (hq_83 S (S c (hq_75 S i2 (Int32.ofInt 0)).toNatClampNeg) (S c (hq_75 S i2 (Int32.ofInt 1)).toNatClampNeg))
set_option maxRecDepth 10000 in
theorem ht_99 {X : hp_X} {c : Nat} (hc : hp_c c) (S : hp_S) (i2 : Int32) (n : Nat) : hp_T n 99 0 [some (.ref c), some (.int i2)] [] (hp_mem X S) (hp_i X S) (hq_99 S c i2) := by
  unfold hq_99
  refine hp_sN [1, 2, 3] (pc' := 3) (L' := [some (.ref c), some (.int i2)]) (st' := [.int (Int32.ofInt 0), .int i2, .ref c]) rfl rfl ?_
  refine hp_iv (virt := false) (pc' := 6) (rv := some (.int (hq_75 S i2 (Int32.ofInt 0)))) (M1 := hp_mem X (S)) rfl rfl (by decide) (hk_75 S (i2) ((Int32.ofInt 0))) rfl rfl ?_
  show hp_T _ 99 6 _ [.int (hq_75 S i2 (Int32.ofInt 0)), .ref c] _ _ _
  refine hp_al (pc' := 7) rfl (hp_cl hc) (hp_cc hc X _) rfl ?_
  refine hp_sN [8, 9, 10] (pc' := 10) (L' := [some (.ref c), some (.int i2)]) (st' := [.int (Int32.ofInt 1), .int i2, .ref c, .int (S c (hq_75 S i2 (Int32.ofInt 0)).toNatClampNeg)]) rfl rfl ?_
  refine hp_iv (virt := false) (pc' := 13) (rv := some (.int (hq_75 S i2 (Int32.ofInt 1)))) (M1 := hp_mem X (S)) rfl rfl (by decide) (hk_75 S (i2) ((Int32.ofInt 1))) rfl rfl ?_
  show hp_T _ 99 13 _ [.int (hq_75 S i2 (Int32.ofInt 1)), .ref c, .int (S c (hq_75 S i2 (Int32.ofInt 0)).toNatClampNeg)] _ _ _
  refine hp_al (pc' := 14) rfl (hp_cl hc) (hp_cc hc X _) rfl ?_
  refine hp_iv (virt := false) (pc' := 17) (rv := some (.int (hq_83 S (S c (hq_75 S i2 (Int32.ofInt 0)).toNatClampNeg) (S c (hq_75 S i2 (Int32.ofInt 1)).toNatClampNeg)))) (M1 := hp_mem X (S)) rfl rfl (by decide) (hk_83 S ((S c (hq_75 S i2 (Int32.ofInt 0)).toNatClampNeg)) ((S c (hq_75 S i2 (Int32.ofInt 1)).toNatClampNeg))) rfl rfl ?_
  show hp_T _ 99 17 _ [.int (hq_83 S (S c (hq_75 S i2 (Int32.ofInt 0)).toNatClampNeg) (S c (hq_75 S i2 (Int32.ofInt 1)).toNatClampNeg))] _ _ _
  exact hp_Ri rfl
theorem hk_99 {X : hp_X} {c : Nat} (hc : hp_c c) (S : hp_S) (i2 : Int32) : hp_K 99 [.ref c, .int i2] (hp_mem X S) (hp_i X S) (hq_99 S c i2) := by
  refine hp_mk (q := hzq_99) rfl (by decide) (L := [some (.ref c), some (.int i2)]) rfl (fun n => ?_)
  exact ht_99 hc S i2 n
/-! 100: HatsOfTheWindModel.here()I -/
def hq_100 (S : hp_S) : Int32 := (if hz_cmp .ge (S 47 5) (S 47 7) = true then (Int32.ofInt (-1)) else ((S 58 ((S 47 6) + (S 47 5)).toNatClampNeg) &&& (Int32.ofInt 255)))
set_option maxRecDepth 10000 in
theorem ht_100 {X : hp_X} (S : hp_S) (n : Nat) : hp_T n 100 0 [some (.ref 47)] [] (hp_mem X S) (hp_i X S) (hq_100 S) := by
  unfold hq_100
  refine hp_sN [1] (pc' := 1) (L' := [some (.ref 47)]) (st' := [.ref 47]) rfl rfl ?_
  refine hp_gf (pc' := 4) rfl (by decide) (hp_c47 X _) rfl rfl ?_
  refine hp_sN [5] (pc' := 5) (L' := [some (.ref 47)]) (st' := [.ref 47, .int (S 47 5)]) rfl rfl ?_
  refine hp_gf (pc' := 8) rfl (by decide) (hp_c47 X _) rfl rfl ?_
  refine hp_ic (pc' := 11) rfl rfl (fun h1 => ?_) (fun h1 => ?_)
  · refine hp_sN [33] (pc' := 33) (L' := [some (.ref 47)]) (st' := [.int (Int32.ofInt (-1))]) rfl rfl ?_
    exact hp_Ri rfl
  · refine hp_sN [12] (pc' := 12) (L' := [some (.ref 47)]) (st' := [.ref 47]) rfl rfl ?_
    refine hp_gf (pc' := 15) rfl (by decide) (hp_c47 X _) rfl rfl ?_
    refine hp_sN [16] (pc' := 16) (L' := [some (.ref 47)]) (st' := [.ref 47, .ref 58]) rfl rfl ?_
    refine hp_gf (pc' := 19) rfl (by decide) (hp_c47 X _) rfl rfl ?_
    refine hp_sN [20] (pc' := 20) (L' := [some (.ref 47)]) (st' := [.ref 47, .int (S 47 6), .ref 58]) rfl rfl ?_
    refine hp_gf (pc' := 23) rfl (by decide) (hp_c47 X _) rfl rfl ?_
    refine hp_sN [24] (pc' := 24) (L' := [some (.ref 47)]) (st' := [.int ((S 47 6) + (S 47 5)), .ref 58]) rfl rfl ?_
    refine hp_al (pc' := 25) rfl (by decide) rfl rfl ?_
    refine hp_sN [28, 29, 33] (pc' := 33) (L' := [some (.ref 47)]) (st' := [.int ((S 58 ((S 47 6) + (S 47 5)).toNatClampNeg) &&& (Int32.ofInt 255))]) rfl rfl ?_
    exact hp_Ri rfl
theorem hk_100 {X : hp_X} (S : hp_S) : hp_K 100 [.ref 47] (hp_mem X S) (hp_i X S) (hq_100 S) := by
  refine hp_mk (q := hzq_100) rfl (by decide) (L := [some (.ref 47)]) rfl (fun n => ?_)
  exact ht_100 S n
/-! 101: HatsOfTheWindModel.readsNumber(II)Z -/
def hq_101_9 (i1 : Int32) (i2 : Int32) : Nat → hp_S → Int32 → Int32 × hp_S
  | 0, S, _ => (0, S)
  | m + 1, S, v3 => (if hz_cmp .ge v3 i2 = true then ((Int32.ofInt 1), S) else (if hz_cmp .ne (hq_70 S (hq_100 S) (Int32.ofInt 48) (Int32.ofInt 57)) 0 = true then hq_101_9 i1 i2 m (hp_w (hp_w S 52 i1.toNatClampNeg ((((Int32.ofInt 10) * (S 52 i1.toNatClampNeg)) + (hq_100 S)) - (Int32.ofInt 48))) 47 5 ((hp_w S 52 i1.toNatClampNeg ((((Int32.ofInt 10) * (S 52 i1.toNatClampNeg)) + (hq_100 S)) - (Int32.ofInt 48)) 47 5) + (Int32.ofInt 1))) (v3 + (Int32.ofInt 1)) else ((Int32.ofInt 0), S)))
def hq_101 (S : hp_S) (i1 : Int32) (i2 : Int32) : Int32 × hp_S := (hq_101_9 i1 i2 ((i2.toInt - (Int32.ofInt 0).toInt).toNat + 1) (hp_w S 52 i1.toNatClampNeg (Int32.ofInt 0)) ((Int32.ofInt 0)))
theorem hf_101_9 {i1 : Int32} {i2 : Int32} (j : Nat) (z0 : j ≠ 52) (z1 : j ≠ 47) : ∀ (m : Nat) (S : hp_S) (v3 : Int32), (hq_101_9 i1 i2 m S v3).2 j = S j := by
  intro m
  induction m with
  | zero => intros; rfl
  | succ m ih =>
    intro S v3
    rw [hq_101_9]
    repeat' split
    all_goals simp [ih, hp_wo, hp_wgo, hp_cpo, z0, z1]
theorem hf_101 (S : hp_S) (i1 : Int32) (i2 : Int32) (j : Nat) (z0 : j ≠ 52) (z1 : j ≠ 47) : (hq_101 S i1 i2).2 j = S j := by
  unfold hq_101
  repeat' split
  all_goals simp [hp_wo, hp_wgo, hp_cpo, z0, z1, hf_101_9]
set_option maxRecDepth 10000 in
theorem ht_101_9 {X : hp_X} (i1 : Int32) (i2 : Int32) : ∀ (n m : Nat) (S : hp_S) (v3 : Int32), (i2.toInt - v3.toInt).toNat < m → hp_T n 101 9 [some (.ref 47), some (.int i1), some (.int i2), some (.int v3)] [] (hp_mem X S) (hp_is X) (hq_101_9 i1 i2 m S v3) := by
  intro n
  induction n with
  | zero => intros; exact hp_0
  | succ n ih =>
    intro m S v3 hm
    cases m with
    | zero => exact absurd hm (Nat.not_lt_zero _)
    | succ m =>
      rw [hq_101_9]
      refine hp_sN [10, 11] (pc' := 11) (L' := [some (.ref 47), some (.int i1), some (.int i2), some (.int v3)]) (st' := [.int i2, .int v3]) rfl rfl ?_
      refine hp_ic (pc' := 14) rfl rfl (fun h1 => ?_) (fun h1 => ?_)
      · refine hp_sN [70] (pc' := 70) (L' := [some (.ref 47), some (.int i1), some (.int i2), some (.int v3)]) (st' := [.int (Int32.ofInt 1)]) rfl rfl ?_
        exact hp_Ris rfl
      · refine hp_sN [15] (pc' := 15) (L' := [some (.ref 47), some (.int i1), some (.int i2), some (.int v3)]) (st' := [.ref 47]) rfl rfl ?_
        refine hp_iv (virt := true) (pc' := 18) (rv := some (.int (hq_100 S))) (M1 := hp_mem X (S)) rfl rfl (by decide) (hk_100 S) rfl rfl ?_
        show hp_T _ 101 18 _ [.int (hq_100 S)] _ _ _
        refine hp_sN [20, 22] (pc' := 22) (L' := [some (.ref 47), some (.int i1), some (.int i2), some (.int v3)]) (st' := [.int (Int32.ofInt 57), .int (Int32.ofInt 48), .int (hq_100 S)]) rfl rfl ?_
        refine hp_iv (virt := false) (pc' := 25) (rv := some (.int (hq_70 S (hq_100 S) (Int32.ofInt 48) (Int32.ofInt 57)))) (M1 := hp_mem X (S)) rfl rfl (by decide) (hk_70 S ((hq_100 S)) ((Int32.ofInt 48)) ((Int32.ofInt 57))) rfl rfl ?_
        show hp_T _ 101 25 _ [.int (hq_70 S (hq_100 S) (Int32.ofInt 48) (Int32.ofInt 57))] _ _ _
        refine hp_if (pc' := 28) rfl rfl (fun h2 => ?_) (fun h2 => ?_)
        · refine hp_sN [31] (pc' := 31) (L' := [some (.ref 47), some (.int i1), some (.int i2), some (.int v3)]) (st' := [.ref 47]) rfl rfl ?_
          refine hp_gf (pc' := 34) rfl (by decide) (hp_c47 X _) rfl rfl ?_
          refine hp_sN [35, 37, 38] (pc' := 38) (L' := [some (.ref 47), some (.int i1), some (.int i2), some (.int v3)]) (st' := [.ref 47, .int (Int32.ofInt 10), .int i1, .ref 52]) rfl rfl ?_
          refine hp_gf (pc' := 41) rfl (by decide) (hp_c47 X _) rfl rfl ?_
          refine hp_sN [42] (pc' := 42) (L' := [some (.ref 47), some (.int i1), some (.int i2), some (.int v3)]) (st' := [.int i1, .ref 52, .int (Int32.ofInt 10), .int i1, .ref 52]) rfl rfl ?_
          refine hp_al (pc' := 43) rfl (by decide) rfl rfl ?_
          refine hp_sN [44, 45] (pc' := 45) (L' := [some (.ref 47), some (.int i1), some (.int i2), some (.int v3)]) (st' := [.ref 47, .int ((Int32.ofInt 10) * (S 52 i1.toNatClampNeg)), .int i1, .ref 52]) rfl rfl ?_
          refine hp_iv (virt := true) (pc' := 48) (rv := some (.int (hq_100 S))) (M1 := hp_mem X (S)) rfl rfl (by decide) (hk_100 S) rfl rfl ?_
          show hp_T _ 101 48 _ [.int (hq_100 S), .int ((Int32.ofInt 10) * (S 52 i1.toNatClampNeg)), .int i1, .ref 52] _ _ _
          refine hp_sN [49, 51, 52] (pc' := 52) (L' := [some (.ref 47), some (.int i1), some (.int i2), some (.int v3)]) (st' := [.int ((((Int32.ofInt 10) * (S 52 i1.toNatClampNeg)) + (hq_100 S)) - (Int32.ofInt 48)), .int i1, .ref 52]) rfl rfl ?_
          refine hp_as (pc' := 53) rfl (by decide) (fun _ => rfl) rfl ?_
          refine hp_sN [54, 55] (pc' := 55) (L' := [some (.ref 47), some (.int i1), some (.int i2), some (.int v3)]) (st' := [.ref 47, .ref 47]) rfl rfl ?_
          refine hp_gf (pc' := 58) rfl (by decide) (hp_c47 X _) rfl rfl ?_
          refine hp_sN [59, 60] (pc' := 60) (L' := [some (.ref 47), some (.int i1), some (.int i2), some (.int v3)]) (st' := [.int ((hp_w S 52 i1.toNatClampNeg ((((Int32.ofInt 10) * (S 52 i1.toNatClampNeg)) + (hq_100 S)) - (Int32.ofInt 48)) 47 5) + (Int32.ofInt 1)), .ref 47]) rfl rfl ?_
          refine hp_pf (pc' := 63) rfl (by decide) (hp_c47 X _) (hp_w47 X _ _ _ (by decide)) rfl ?_
          refine hp_sB 66 [9] (pc' := 9) (L' := [some (.ref 47), some (.int i1), some (.int i2), some (.int (v3 + (Int32.ofInt 1)))]) (st' := []) rfl rfl ?_
          exact ih m (hp_w (hp_w S 52 i1.toNatClampNeg ((((Int32.ofInt 10) * (S 52 i1.toNatClampNeg)) + (hq_100 S)) - (Int32.ofInt 48))) 47 5 ((hp_w S 52 i1.toNatClampNeg ((((Int32.ofInt 10) * (S 52 i1.toNatClampNeg)) + (hq_100 S)) - (Int32.ofInt 48)) 47 5) + (Int32.ofInt 1))) ((v3 + (Int32.ofInt 1))) (hp_up h1 hm)
        · refine hp_sN [29] (pc' := 29) (L' := [some (.ref 47), some (.int i1), some (.int i2), some (.int v3)]) (st' := [.int (Int32.ofInt 0)]) rfl rfl ?_
          exact hp_Ris rfl
set_option maxRecDepth 10000 in
theorem ht_101 {X : hp_X} (S : hp_S) (i1 : Int32) (i2 : Int32) (n : Nat) : hp_T n 101 0 [some (.ref 47), some (.int i1), some (.int i2), none] [] (hp_mem X S) (hp_is X) (hq_101 S i1 i2) := by
  unfold hq_101
  refine hp_sN [1] (pc' := 1) (L' := [some (.ref 47), some (.int i1), some (.int i2), none]) (st' := [.ref 47]) rfl rfl ?_
  refine hp_gf (pc' := 4) rfl (by decide) (hp_c47 X _) rfl rfl ?_
  refine hp_sN [5, 6] (pc' := 6) (L' := [some (.ref 47), some (.int i1), some (.int i2), none]) (st' := [.int (Int32.ofInt 0), .int i1, .ref 52]) rfl rfl ?_
  refine hp_as (pc' := 7) rfl (by decide) (fun _ => rfl) rfl ?_
  refine hp_sN [8, 9] (pc' := 9) (L' := [some (.ref 47), some (.int i1), some (.int i2), some (.int (Int32.ofInt 0))]) (st' := []) rfl rfl ?_
  exact ht_101_9 i1 i2  n ((i2.toInt - (Int32.ofInt 0).toInt).toNat + 1) (hp_w S 52 i1.toNatClampNeg (Int32.ofInt 0)) ((Int32.ofInt 0))  (Nat.lt_succ_self _)
theorem hk_101 {X : hp_X} (S : hp_S) (i1 : Int32) (i2 : Int32) : hp_K 101 [.ref 47, .int i1, .int i2] (hp_mem X S) (hp_is X) (hq_101 S i1 i2) := by
  refine hp_mk (q := hzq_101) rfl (by decide) (L := [some (.ref 47), some (.int i1), some (.int i2), none]) rfl (fun n => ?_)
  exact ht_101 S i1 i2 n
/-! 102: HatsOfTheWindModel.readsStatement()Z -/
def hq_102_208 (S : hp_S) (v1 : Int32) (v2 : Int32) : Int32 × hp_S := (if hz_cmp .eq v2 0 = true then ((Int32.ofInt 0), S) else (if hz_cmp .eq (hq_100 S) (Int32.ofInt 59) = true then ((Int32.ofInt 1), hp_w S 47 5 ((S 47 5) + (Int32.ofInt 1))) else ((Int32.ofInt 0), S)))
def hq_102 (S : hp_S) : Int32 × hp_S := (if (hq_100 S) = (Int32.ofInt 104) then (if hz_cmp .eq (hq_101 (hp_w S 47 5 ((S 47 5) + (Int32.ofInt 1))) (Int32.ofInt 0) (Int32.ofInt 1)).1 0 = true then (hq_102_208 ((hq_101 (hp_w S 47 5 ((S 47 5) + (Int32.ofInt 1))) (Int32.ofInt 0) (Int32.ofInt 1)).2) ((hq_100 S)) ((Int32.ofInt 0))) else (if hz_cmp .eq (hq_101 ((hq_101 (hp_w S 47 5 ((S 47 5) + (Int32.ofInt 1))) (Int32.ofInt 0) (Int32.ofInt 1)).2) (Int32.ofInt 1) (Int32.ofInt 1)).1 0 = true then (hq_102_208 ((hq_101 ((hq_101 (hp_w S 47 5 ((S 47 5) + (Int32.ofInt 1))) (Int32.ofInt 0) (Int32.ofInt 1)).2) (Int32.ofInt 1) (Int32.ofInt 1)).2) ((hq_100 S)) ((Int32.ofInt 0))) else (if hz_cmp .eq (hq_101 ((hq_101 ((hq_101 (hp_w S 47 5 ((S 47 5) + (Int32.ofInt 1))) (Int32.ofInt 0) (Int32.ofInt 1)).2) (Int32.ofInt 1) (Int32.ofInt 1)).2) (Int32.ofInt 2) (Int32.ofInt 1)).1 0 = true then (hq_102_208 ((hq_101 ((hq_101 ((hq_101 (hp_w S 47 5 ((S 47 5) + (Int32.ofInt 1))) (Int32.ofInt 0) (Int32.ofInt 1)).2) (Int32.ofInt 1) (Int32.ofInt 1)).2) (Int32.ofInt 2) (Int32.ofInt 1)).2) ((hq_100 S)) ((Int32.ofInt 0))) else (hq_102_208 ((hq_101 ((hq_101 ((hq_101 (hp_w S 47 5 ((S 47 5) + (Int32.ofInt 1))) (Int32.ofInt 0) (Int32.ofInt 1)).2) (Int32.ofInt 1) (Int32.ofInt 1)).2) (Int32.ofInt 2) (Int32.ofInt 1)).2) ((hq_100 S)) ((Int32.ofInt 1)))))) else (if (hq_100 S) = (Int32.ofInt 105) then (if hz_cmp .eq (hq_101 (hp_w S 47 5 ((S 47 5) + (Int32.ofInt 1))) (Int32.ofInt 0) (Int32.ofInt 1)).1 0 = true then (hq_102_208 ((hq_101 (hp_w S 47 5 ((S 47 5) + (Int32.ofInt 1))) (Int32.ofInt 0) (Int32.ofInt 1)).2) ((hq_100 S)) ((Int32.ofInt 0))) else (if hz_cmp .eq (hq_101 ((hq_101 (hp_w S 47 5 ((S 47 5) + (Int32.ofInt 1))) (Int32.ofInt 0) (Int32.ofInt 1)).2) (Int32.ofInt 1) (Int32.ofInt 1)).1 0 = true then (hq_102_208 ((hq_101 ((hq_101 (hp_w S 47 5 ((S 47 5) + (Int32.ofInt 1))) (Int32.ofInt 0) (Int32.ofInt 1)).2) (Int32.ofInt 1) (Int32.ofInt 1)).2) ((hq_100 S)) ((Int32.ofInt 0))) else (hq_102_208 ((hq_101 ((hq_101 (hp_w S 47 5 ((S 47 5) + (Int32.ofInt 1))) (Int32.ofInt 0) (Int32.ofInt 1)).2) (Int32.ofInt 1) (Int32.ofInt 1)).2) ((hq_100 S)) ((Int32.ofInt 1))))) else (if (hq_100 S) = (Int32.ofInt 108) then (hq_102_208 ((hq_101 (hp_w S 47 5 ((S 47 5) + (Int32.ofInt 1))) (Int32.ofInt 0) (Int32.ofInt 2)).2) ((hq_100 S)) ((hq_101 (hp_w S 47 5 ((S 47 5) + (Int32.ofInt 1))) (Int32.ofInt 0) (Int32.ofInt 2)).1)) else (if (hq_100 S) = (Int32.ofInt 112) then (if hz_cmp .eq (hq_101 (hp_w S 47 5 ((S 47 5) + (Int32.ofInt 1))) (Int32.ofInt 0) (Int32.ofInt 2)).1 0 = true then (hq_102_208 ((hq_101 (hp_w S 47 5 ((S 47 5) + (Int32.ofInt 1))) (Int32.ofInt 0) (Int32.ofInt 2)).2) ((hq_100 S)) ((Int32.ofInt 0))) else (if hz_cmp .eq (hq_101 ((hq_101 (hp_w S 47 5 ((S 47 5) + (Int32.ofInt 1))) (Int32.ofInt 0) (Int32.ofInt 2)).2) (Int32.ofInt 1) (Int32.ofInt 1)).1 0 = true then (hq_102_208 ((hq_101 ((hq_101 (hp_w S 47 5 ((S 47 5) + (Int32.ofInt 1))) (Int32.ofInt 0) (Int32.ofInt 2)).2) (Int32.ofInt 1) (Int32.ofInt 1)).2) ((hq_100 S)) ((Int32.ofInt 0))) else (hq_102_208 ((hq_101 ((hq_101 (hp_w S 47 5 ((S 47 5) + (Int32.ofInt 1))) (Int32.ofInt 0) (Int32.ofInt 2)).2) (Int32.ofInt 1) (Int32.ofInt 1)).2) ((hq_100 S)) ((Int32.ofInt 1))))) else (if (hq_100 S) = (Int32.ofInt 116) then (hq_102_208 ((hq_101 (hp_w S 47 5 ((S 47 5) + (Int32.ofInt 1))) (Int32.ofInt 0) (Int32.ofInt 2)).2) ((hq_100 S)) ((hq_101 (hp_w S 47 5 ((S 47 5) + (Int32.ofInt 1))) (Int32.ofInt 0) (Int32.ofInt 2)).1)) else (if (hq_100 S) = (Int32.ofInt 119) then (if hz_cmp .eq (hq_101 (hp_w S 47 5 ((S 47 5) + (Int32.ofInt 1))) (Int32.ofInt 0) (Int32.ofInt 2)).1 0 = true then (hq_102_208 ((hq_101 (hp_w S 47 5 ((S 47 5) + (Int32.ofInt 1))) (Int32.ofInt 0) (Int32.ofInt 2)).2) ((hq_100 S)) ((Int32.ofInt 0))) else (if hz_cmp .eq (hq_101 ((hq_101 (hp_w S 47 5 ((S 47 5) + (Int32.ofInt 1))) (Int32.ofInt 0) (Int32.ofInt 2)).2) (Int32.ofInt 1) (Int32.ofInt 1)).1 0 = true then (hq_102_208 ((hq_101 ((hq_101 (hp_w S 47 5 ((S 47 5) + (Int32.ofInt 1))) (Int32.ofInt 0) (Int32.ofInt 2)).2) (Int32.ofInt 1) (Int32.ofInt 1)).2) ((hq_100 S)) ((Int32.ofInt 0))) else (hq_102_208 ((hq_101 ((hq_101 (hp_w S 47 5 ((S 47 5) + (Int32.ofInt 1))) (Int32.ofInt 0) (Int32.ofInt 2)).2) (Int32.ofInt 1) (Int32.ofInt 1)).2) ((hq_100 S)) ((Int32.ofInt 1))))) else ((Int32.ofInt 0), hp_w (hp_w S 47 5 ((S 47 5) + (Int32.ofInt 1))) 47 5 ((hp_w S 47 5 ((S 47 5) + (Int32.ofInt 1)) 47 5) - (Int32.ofInt 1)))))))))
theorem hf_102_208 (S : hp_S) (v1 : Int32) (v2 : Int32) (j : Nat) (z0 : j ≠ 47) (z1 : j ≠ 52) : (hq_102_208 S v1 v2).2 j = S j := by
  unfold hq_102_208
  repeat' split
  all_goals simp [hp_wo, hp_wgo, hp_cpo, hf_101, z0, z1]
theorem hf_102 (S : hp_S) (j : Nat) (z0 : j ≠ 47) (z1 : j ≠ 52) : (hq_102 S).2 j = S j := by
  unfold hq_102
  repeat' split
  all_goals simp [hp_wo, hp_wgo, hp_cpo, hf_101, z0, z1, hf_102_208]
set_option maxRecDepth 10000 in
theorem ht_102_208 {X : hp_X} (S : hp_S) (v1 : Int32) (v2 : Int32) (n : Nat) : hp_T n 102 208 [some (.ref 47), some (.int v1), some (.int v2)] [] (hp_mem X S) (hp_is X) (hq_102_208 S v1 v2) := by
  unfold hq_102_208
  refine hp_sN [209] (pc' := 209) (L' := [some (.ref 47), some (.int v1), some (.int v2)]) (st' := [.int v2]) rfl rfl ?_
  refine hp_if (pc' := 212) rfl rfl (fun h1 => ?_) (fun h1 => ?_)
  · refine hp_sN [222] (pc' := 222) (L' := [some (.ref 47), some (.int v1), some (.int v2)]) (st' := [.int (Int32.ofInt 0)]) rfl rfl ?_
    exact hp_Ris rfl
  · refine hp_sN [213] (pc' := 213) (L' := [some (.ref 47), some (.int v1), some (.int v2)]) (st' := [.ref 47]) rfl rfl ?_
    refine hp_iv (virt := true) (pc' := 216) (rv := some (.int (hq_100 S))) (M1 := hp_mem X (S)) rfl rfl (by decide) (hk_100 S) rfl rfl ?_
    show hp_T _ 102 216 _ [.int (hq_100 S)] _ _ _
    refine hp_sN [218] (pc' := 218) (L' := [some (.ref 47), some (.int v1), some (.int v2)]) (st' := [.int (Int32.ofInt 59), .int (hq_100 S)]) rfl rfl ?_
    refine hp_ic (pc' := 221) rfl rfl (fun h2 => ?_) (fun h2 => ?_)
    · refine hp_sN [224, 225] (pc' := 225) (L' := [some (.ref 47), some (.int v1), some (.int v2)]) (st' := [.ref 47, .ref 47]) rfl rfl ?_
      refine hp_gf (pc' := 228) rfl (by decide) (hp_c47 X _) rfl rfl ?_
      refine hp_sN [229, 230] (pc' := 230) (L' := [some (.ref 47), some (.int v1), some (.int v2)]) (st' := [.int ((S 47 5) + (Int32.ofInt 1)), .ref 47]) rfl rfl ?_
      refine hp_pf (pc' := 233) rfl (by decide) (hp_c47 X _) (hp_w47 X _ _ _ (by decide)) rfl ?_
      refine hp_sN [234] (pc' := 234) (L' := [some (.ref 47), some (.int v1), some (.int v2)]) (st' := [.int (Int32.ofInt 1)]) rfl rfl ?_
      exact hp_Ris rfl
    · refine hp_sN [222] (pc' := 222) (L' := [some (.ref 47), some (.int v1), some (.int v2)]) (st' := [.int (Int32.ofInt 0)]) rfl rfl ?_
      exact hp_Ris rfl
set_option maxRecDepth 10000 in
theorem ht_102 {X : hp_X} (S : hp_S) (n : Nat) : hp_T n 102 0 [some (.ref 47), none, none] [] (hp_mem X S) (hp_is X) (hq_102 S) := by
  unfold hq_102
  refine hp_sN [1] (pc' := 1) (L' := [some (.ref 47), none, none]) (st' := [.ref 47]) rfl rfl ?_
  refine hp_iv (virt := true) (pc' := 4) (rv := some (.int (hq_100 S))) (M1 := hp_mem X (S)) rfl rfl (by decide) (hk_100 S) rfl rfl ?_
  show hp_T _ 102 4 _ [.int (hq_100 S)] _ _ _
  refine hp_sN [5, 6, 7] (pc' := 7) (L' := [some (.ref 47), some (.int (hq_100 S)), none]) (st' := [.ref 47, .ref 47]) rfl rfl ?_
  refine hp_gf (pc' := 10) rfl (by decide) (hp_c47 X _) rfl rfl ?_
  refine hp_sN [11, 12] (pc' := 12) (L' := [some (.ref 47), some (.int (hq_100 S)), none]) (st' := [.int ((S 47 5) + (Int32.ofInt 1)), .ref 47]) rfl rfl ?_
  refine hp_pf (pc' := 15) rfl (by decide) (hp_c47 X _) (hp_w47 X _ _ _ (by decide)) rfl ?_
  refine hp_sN [16] (pc' := 16) (L' := [some (.ref 47), some (.int (hq_100 S)), none]) (st' := [.int (hq_100 S)]) rfl rfl ?_
  refine hp_st (c := 104) (t := 123) rfl (by decide) (by decide) rfl (fun h1 => ?_) (fun h2 => ?_)
  · refine hp_sN [124, 125, 126] (pc' := 126) (L' := [some (.ref 47), some (.int (hq_100 S)), none]) (st' := [.int (Int32.ofInt 1), .int (Int32.ofInt 0), .ref 47]) rfl rfl ?_
    refine hp_iv (virt := true) (pc' := 129) (rv := some (.int (hq_101 (hp_w S 47 5 ((S 47 5) + (Int32.ofInt 1))) (Int32.ofInt 0) (Int32.ofInt 1)).1)) (M1 := hp_mem X ((hq_101 (hp_w S 47 5 ((S 47 5) + (Int32.ofInt 1))) (Int32.ofInt 0) (Int32.ofInt 1)).2)) rfl rfl (by decide) (hk_101 (hp_w S 47 5 ((S 47 5) + (Int32.ofInt 1))) ((Int32.ofInt 0)) ((Int32.ofInt 1))) rfl rfl ?_
    show hp_T _ 102 129 _ [.int (hq_101 (hp_w S 47 5 ((S 47 5) + (Int32.ofInt 1))) (Int32.ofInt 0) (Int32.ofInt 1)).1] _ _ _
    refine hp_if (pc' := 132) rfl rfl (fun h3 => ?_) (fun h3 => ?_)
    · refine hp_sN [155, 156, 208] (pc' := 208) (L' := [some (.ref 47), some (.int (hq_100 S)), some (.int (Int32.ofInt 0))]) (st' := []) rfl rfl ?_
      exact ht_102_208 ((hq_101 (hp_w S 47 5 ((S 47 5) + (Int32.ofInt 1))) (Int32.ofInt 0) (Int32.ofInt 1)).2) ((hq_100 S)) ((Int32.ofInt 0))  n
    · refine hp_sN [133, 134, 135] (pc' := 135) (L' := [some (.ref 47), some (.int (hq_100 S)), none]) (st' := [.int (Int32.ofInt 1), .int (Int32.ofInt 1), .ref 47]) rfl rfl ?_
      refine hp_iv (virt := true) (pc' := 138) (rv := some (.int (hq_101 ((hq_101 (hp_w S 47 5 ((S 47 5) + (Int32.ofInt 1))) (Int32.ofInt 0) (Int32.ofInt 1)).2) (Int32.ofInt 1) (Int32.ofInt 1)).1)) (M1 := hp_mem X ((hq_101 ((hq_101 (hp_w S 47 5 ((S 47 5) + (Int32.ofInt 1))) (Int32.ofInt 0) (Int32.ofInt 1)).2) (Int32.ofInt 1) (Int32.ofInt 1)).2)) rfl rfl (by decide) (hk_101 ((hq_101 (hp_w S 47 5 ((S 47 5) + (Int32.ofInt 1))) (Int32.ofInt 0) (Int32.ofInt 1)).2) ((Int32.ofInt 1)) ((Int32.ofInt 1))) rfl rfl ?_
      show hp_T _ 102 138 _ [.int (hq_101 ((hq_101 (hp_w S 47 5 ((S 47 5) + (Int32.ofInt 1))) (Int32.ofInt 0) (Int32.ofInt 1)).2) (Int32.ofInt 1) (Int32.ofInt 1)).1] _ _ _
      refine hp_if (pc' := 141) rfl rfl (fun h4 => ?_) (fun h4 => ?_)
      · refine hp_sN [155, 156, 208] (pc' := 208) (L' := [some (.ref 47), some (.int (hq_100 S)), some (.int (Int32.ofInt 0))]) (st' := []) rfl rfl ?_
        exact ht_102_208 ((hq_101 ((hq_101 (hp_w S 47 5 ((S 47 5) + (Int32.ofInt 1))) (Int32.ofInt 0) (Int32.ofInt 1)).2) (Int32.ofInt 1) (Int32.ofInt 1)).2) ((hq_100 S)) ((Int32.ofInt 0))  n
      · refine hp_sN [142, 143, 144] (pc' := 144) (L' := [some (.ref 47), some (.int (hq_100 S)), none]) (st' := [.int (Int32.ofInt 1), .int (Int32.ofInt 2), .ref 47]) rfl rfl ?_
        refine hp_iv (virt := true) (pc' := 147) (rv := some (.int (hq_101 ((hq_101 ((hq_101 (hp_w S 47 5 ((S 47 5) + (Int32.ofInt 1))) (Int32.ofInt 0) (Int32.ofInt 1)).2) (Int32.ofInt 1) (Int32.ofInt 1)).2) (Int32.ofInt 2) (Int32.ofInt 1)).1)) (M1 := hp_mem X ((hq_101 ((hq_101 ((hq_101 (hp_w S 47 5 ((S 47 5) + (Int32.ofInt 1))) (Int32.ofInt 0) (Int32.ofInt 1)).2) (Int32.ofInt 1) (Int32.ofInt 1)).2) (Int32.ofInt 2) (Int32.ofInt 1)).2)) rfl rfl (by decide) (hk_101 ((hq_101 ((hq_101 (hp_w S 47 5 ((S 47 5) + (Int32.ofInt 1))) (Int32.ofInt 0) (Int32.ofInt 1)).2) (Int32.ofInt 1) (Int32.ofInt 1)).2) ((Int32.ofInt 2)) ((Int32.ofInt 1))) rfl rfl ?_
        show hp_T _ 102 147 _ [.int (hq_101 ((hq_101 ((hq_101 (hp_w S 47 5 ((S 47 5) + (Int32.ofInt 1))) (Int32.ofInt 0) (Int32.ofInt 1)).2) (Int32.ofInt 1) (Int32.ofInt 1)).2) (Int32.ofInt 2) (Int32.ofInt 1)).1] _ _ _
        refine hp_if (pc' := 150) rfl rfl (fun h5 => ?_) (fun h5 => ?_)
        · refine hp_sN [155, 156, 208] (pc' := 208) (L' := [some (.ref 47), some (.int (hq_100 S)), some (.int (Int32.ofInt 0))]) (st' := []) rfl rfl ?_
          exact ht_102_208 ((hq_101 ((hq_101 ((hq_101 (hp_w S 47 5 ((S 47 5) + (Int32.ofInt 1))) (Int32.ofInt 0) (Int32.ofInt 1)).2) (Int32.ofInt 1) (Int32.ofInt 1)).2) (Int32.ofInt 2) (Int32.ofInt 1)).2) ((hq_100 S)) ((Int32.ofInt 0))  n
        · refine hp_sN [151, 155, 156, 208] (pc' := 208) (L' := [some (.ref 47), some (.int (hq_100 S)), some (.int (Int32.ofInt 1))]) (st' := []) rfl rfl ?_
          exact ht_102_208 ((hq_101 ((hq_101 ((hq_101 (hp_w S 47 5 ((S 47 5) + (Int32.ofInt 1))) (Int32.ofInt 0) (Int32.ofInt 1)).2) (Int32.ofInt 1) (Int32.ofInt 1)).2) (Int32.ofInt 2) (Int32.ofInt 1)).2) ((hq_100 S)) ((Int32.ofInt 1))  n
  refine hp_st (c := 105) (t := 169) rfl (by decide) (by decide) rfl (fun h6 => ?_) (fun h7 => ?_)
  · refine hp_sN [170, 171, 172] (pc' := 172) (L' := [some (.ref 47), some (.int (hq_100 S)), none]) (st' := [.int (Int32.ofInt 1), .int (Int32.ofInt 0), .ref 47]) rfl rfl ?_
    refine hp_iv (virt := true) (pc' := 175) (rv := some (.int (hq_101 (hp_w S 47 5 ((S 47 5) + (Int32.ofInt 1))) (Int32.ofInt 0) (Int32.ofInt 1)).1)) (M1 := hp_mem X ((hq_101 (hp_w S 47 5 ((S 47 5) + (Int32.ofInt 1))) (Int32.ofInt 0) (Int32.ofInt 1)).2)) rfl rfl (by decide) (hk_101 (hp_w S 47 5 ((S 47 5) + (Int32.ofInt 1))) ((Int32.ofInt 0)) ((Int32.ofInt 1))) rfl rfl ?_
    show hp_T _ 102 175 _ [.int (hq_101 (hp_w S 47 5 ((S 47 5) + (Int32.ofInt 1))) (Int32.ofInt 0) (Int32.ofInt 1)).1] _ _ _
    refine hp_if (pc' := 178) rfl rfl (fun h8 => ?_) (fun h8 => ?_)
    · refine hp_sN [192, 193, 208] (pc' := 208) (L' := [some (.ref 47), some (.int (hq_100 S)), some (.int (Int32.ofInt 0))]) (st' := []) rfl rfl ?_
      exact ht_102_208 ((hq_101 (hp_w S 47 5 ((S 47 5) + (Int32.ofInt 1))) (Int32.ofInt 0) (Int32.ofInt 1)).2) ((hq_100 S)) ((Int32.ofInt 0))  n
    · refine hp_sN [179, 180, 181] (pc' := 181) (L' := [some (.ref 47), some (.int (hq_100 S)), none]) (st' := [.int (Int32.ofInt 1), .int (Int32.ofInt 1), .ref 47]) rfl rfl ?_
      refine hp_iv (virt := true) (pc' := 184) (rv := some (.int (hq_101 ((hq_101 (hp_w S 47 5 ((S 47 5) + (Int32.ofInt 1))) (Int32.ofInt 0) (Int32.ofInt 1)).2) (Int32.ofInt 1) (Int32.ofInt 1)).1)) (M1 := hp_mem X ((hq_101 ((hq_101 (hp_w S 47 5 ((S 47 5) + (Int32.ofInt 1))) (Int32.ofInt 0) (Int32.ofInt 1)).2) (Int32.ofInt 1) (Int32.ofInt 1)).2)) rfl rfl (by decide) (hk_101 ((hq_101 (hp_w S 47 5 ((S 47 5) + (Int32.ofInt 1))) (Int32.ofInt 0) (Int32.ofInt 1)).2) ((Int32.ofInt 1)) ((Int32.ofInt 1))) rfl rfl ?_
      show hp_T _ 102 184 _ [.int (hq_101 ((hq_101 (hp_w S 47 5 ((S 47 5) + (Int32.ofInt 1))) (Int32.ofInt 0) (Int32.ofInt 1)).2) (Int32.ofInt 1) (Int32.ofInt 1)).1] _ _ _
      refine hp_if (pc' := 187) rfl rfl (fun h9 => ?_) (fun h9 => ?_)
      · refine hp_sN [192, 193, 208] (pc' := 208) (L' := [some (.ref 47), some (.int (hq_100 S)), some (.int (Int32.ofInt 0))]) (st' := []) rfl rfl ?_
        exact ht_102_208 ((hq_101 ((hq_101 (hp_w S 47 5 ((S 47 5) + (Int32.ofInt 1))) (Int32.ofInt 0) (Int32.ofInt 1)).2) (Int32.ofInt 1) (Int32.ofInt 1)).2) ((hq_100 S)) ((Int32.ofInt 0))  n
      · refine hp_sN [188, 192, 193, 208] (pc' := 208) (L' := [some (.ref 47), some (.int (hq_100 S)), some (.int (Int32.ofInt 1))]) (st' := []) rfl rfl ?_
        exact ht_102_208 ((hq_101 ((hq_101 (hp_w S 47 5 ((S 47 5) + (Int32.ofInt 1))) (Int32.ofInt 0) (Int32.ofInt 1)).2) (Int32.ofInt 1) (Int32.ofInt 1)).2) ((hq_100 S)) ((Int32.ofInt 1))  n
  refine hp_st (c := 108) (t := 159) rfl (by decide) (by decide) rfl (fun h10 => ?_) (fun h11 => ?_)
  · refine hp_sN [160, 161, 162] (pc' := 162) (L' := [some (.ref 47), some (.int (hq_100 S)), none]) (st' := [.int (Int32.ofInt 2), .int (Int32.ofInt 0), .ref 47]) rfl rfl ?_
    refine hp_iv (virt := true) (pc' := 165) (rv := some (.int (hq_101 (hp_w S 47 5 ((S 47 5) + (Int32.ofInt 1))) (Int32.ofInt 0) (Int32.ofInt 2)).1)) (M1 := hp_mem X ((hq_101 (hp_w S 47 5 ((S 47 5) + (Int32.ofInt 1))) (Int32.ofInt 0) (Int32.ofInt 2)).2)) rfl rfl (by decide) (hk_101 (hp_w S 47 5 ((S 47 5) + (Int32.ofInt 1))) ((Int32.ofInt 0)) ((Int32.ofInt 2))) rfl rfl ?_
    show hp_T _ 102 165 _ [.int (hq_101 (hp_w S 47 5 ((S 47 5) + (Int32.ofInt 1))) (Int32.ofInt 0) (Int32.ofInt 2)).1] _ _ _
    refine hp_sN [166, 208] (pc' := 208) (L' := [some (.ref 47), some (.int (hq_100 S)), some (.int (hq_101 (hp_w S 47 5 ((S 47 5) + (Int32.ofInt 1))) (Int32.ofInt 0) (Int32.ofInt 2)).1)]) (st' := []) rfl rfl ?_
    exact ht_102_208 ((hq_101 (hp_w S 47 5 ((S 47 5) + (Int32.ofInt 1))) (Int32.ofInt 0) (Int32.ofInt 2)).2) ((hq_100 S)) ((hq_101 (hp_w S 47 5 ((S 47 5) + (Int32.ofInt 1))) (Int32.ofInt 0) (Int32.ofInt 2)).1)  n
  refine hp_st (c := 112) (t := 96) rfl (by decide) (by decide) rfl (fun h12 => ?_) (fun h13 => ?_)
  · refine hp_sN [97, 98, 99] (pc' := 99) (L' := [some (.ref 47), some (.int (hq_100 S)), none]) (st' := [.int (Int32.ofInt 2), .int (Int32.ofInt 0), .ref 47]) rfl rfl ?_
    refine hp_iv (virt := true) (pc' := 102) (rv := some (.int (hq_101 (hp_w S 47 5 ((S 47 5) + (Int32.ofInt 1))) (Int32.ofInt 0) (Int32.ofInt 2)).1)) (M1 := hp_mem X ((hq_101 (hp_w S 47 5 ((S 47 5) + (Int32.ofInt 1))) (Int32.ofInt 0) (Int32.ofInt 2)).2)) rfl rfl (by decide) (hk_101 (hp_w S 47 5 ((S 47 5) + (Int32.ofInt 1))) ((Int32.ofInt 0)) ((Int32.ofInt 2))) rfl rfl ?_
    show hp_T _ 102 102 _ [.int (hq_101 (hp_w S 47 5 ((S 47 5) + (Int32.ofInt 1))) (Int32.ofInt 0) (Int32.ofInt 2)).1] _ _ _
    refine hp_if (pc' := 105) rfl rfl (fun h14 => ?_) (fun h14 => ?_)
    · refine hp_sN [119, 120, 208] (pc' := 208) (L' := [some (.ref 47), some (.int (hq_100 S)), some (.int (Int32.ofInt 0))]) (st' := []) rfl rfl ?_
      exact ht_102_208 ((hq_101 (hp_w S 47 5 ((S 47 5) + (Int32.ofInt 1))) (Int32.ofInt 0) (Int32.ofInt 2)).2) ((hq_100 S)) ((Int32.ofInt 0))  n
    · refine hp_sN [106, 107, 108] (pc' := 108) (L' := [some (.ref 47), some (.int (hq_100 S)), none]) (st' := [.int (Int32.ofInt 1), .int (Int32.ofInt 1), .ref 47]) rfl rfl ?_
      refine hp_iv (virt := true) (pc' := 111) (rv := some (.int (hq_101 ((hq_101 (hp_w S 47 5 ((S 47 5) + (Int32.ofInt 1))) (Int32.ofInt 0) (Int32.ofInt 2)).2) (Int32.ofInt 1) (Int32.ofInt 1)).1)) (M1 := hp_mem X ((hq_101 ((hq_101 (hp_w S 47 5 ((S 47 5) + (Int32.ofInt 1))) (Int32.ofInt 0) (Int32.ofInt 2)).2) (Int32.ofInt 1) (Int32.ofInt 1)).2)) rfl rfl (by decide) (hk_101 ((hq_101 (hp_w S 47 5 ((S 47 5) + (Int32.ofInt 1))) (Int32.ofInt 0) (Int32.ofInt 2)).2) ((Int32.ofInt 1)) ((Int32.ofInt 1))) rfl rfl ?_
      show hp_T _ 102 111 _ [.int (hq_101 ((hq_101 (hp_w S 47 5 ((S 47 5) + (Int32.ofInt 1))) (Int32.ofInt 0) (Int32.ofInt 2)).2) (Int32.ofInt 1) (Int32.ofInt 1)).1] _ _ _
      refine hp_if (pc' := 114) rfl rfl (fun h15 => ?_) (fun h15 => ?_)
      · refine hp_sN [119, 120, 208] (pc' := 208) (L' := [some (.ref 47), some (.int (hq_100 S)), some (.int (Int32.ofInt 0))]) (st' := []) rfl rfl ?_
        exact ht_102_208 ((hq_101 ((hq_101 (hp_w S 47 5 ((S 47 5) + (Int32.ofInt 1))) (Int32.ofInt 0) (Int32.ofInt 2)).2) (Int32.ofInt 1) (Int32.ofInt 1)).2) ((hq_100 S)) ((Int32.ofInt 0))  n
      · refine hp_sN [115, 119, 120, 208] (pc' := 208) (L' := [some (.ref 47), some (.int (hq_100 S)), some (.int (Int32.ofInt 1))]) (st' := []) rfl rfl ?_
        exact ht_102_208 ((hq_101 ((hq_101 (hp_w S 47 5 ((S 47 5) + (Int32.ofInt 1))) (Int32.ofInt 0) (Int32.ofInt 2)).2) (Int32.ofInt 1) (Int32.ofInt 1)).2) ((hq_100 S)) ((Int32.ofInt 1))  n
  refine hp_st (c := 116) (t := 159) rfl (by decide) (by decide) rfl (fun h16 => ?_) (fun h17 => ?_)
  · refine hp_sN [160, 161, 162] (pc' := 162) (L' := [some (.ref 47), some (.int (hq_100 S)), none]) (st' := [.int (Int32.ofInt 2), .int (Int32.ofInt 0), .ref 47]) rfl rfl ?_
    refine hp_iv (virt := true) (pc' := 165) (rv := some (.int (hq_101 (hp_w S 47 5 ((S 47 5) + (Int32.ofInt 1))) (Int32.ofInt 0) (Int32.ofInt 2)).1)) (M1 := hp_mem X ((hq_101 (hp_w S 47 5 ((S 47 5) + (Int32.ofInt 1))) (Int32.ofInt 0) (Int32.ofInt 2)).2)) rfl rfl (by decide) (hk_101 (hp_w S 47 5 ((S 47 5) + (Int32.ofInt 1))) ((Int32.ofInt 0)) ((Int32.ofInt 2))) rfl rfl ?_
    show hp_T _ 102 165 _ [.int (hq_101 (hp_w S 47 5 ((S 47 5) + (Int32.ofInt 1))) (Int32.ofInt 0) (Int32.ofInt 2)).1] _ _ _
    refine hp_sN [166, 208] (pc' := 208) (L' := [some (.ref 47), some (.int (hq_100 S)), some (.int (hq_101 (hp_w S 47 5 ((S 47 5) + (Int32.ofInt 1))) (Int32.ofInt 0) (Int32.ofInt 2)).1)]) (st' := []) rfl rfl ?_
    exact ht_102_208 ((hq_101 (hp_w S 47 5 ((S 47 5) + (Int32.ofInt 1))) (Int32.ofInt 0) (Int32.ofInt 2)).2) ((hq_100 S)) ((hq_101 (hp_w S 47 5 ((S 47 5) + (Int32.ofInt 1))) (Int32.ofInt 0) (Int32.ofInt 2)).1)  n
  refine hp_st (c := 119) (t := 96) rfl (by decide) (by decide) rfl (fun h18 => ?_) (fun h19 => ?_)
  · refine hp_sN [97, 98, 99] (pc' := 99) (L' := [some (.ref 47), some (.int (hq_100 S)), none]) (st' := [.int (Int32.ofInt 2), .int (Int32.ofInt 0), .ref 47]) rfl rfl ?_
    refine hp_iv (virt := true) (pc' := 102) (rv := some (.int (hq_101 (hp_w S 47 5 ((S 47 5) + (Int32.ofInt 1))) (Int32.ofInt 0) (Int32.ofInt 2)).1)) (M1 := hp_mem X ((hq_101 (hp_w S 47 5 ((S 47 5) + (Int32.ofInt 1))) (Int32.ofInt 0) (Int32.ofInt 2)).2)) rfl rfl (by decide) (hk_101 (hp_w S 47 5 ((S 47 5) + (Int32.ofInt 1))) ((Int32.ofInt 0)) ((Int32.ofInt 2))) rfl rfl ?_
    show hp_T _ 102 102 _ [.int (hq_101 (hp_w S 47 5 ((S 47 5) + (Int32.ofInt 1))) (Int32.ofInt 0) (Int32.ofInt 2)).1] _ _ _
    refine hp_if (pc' := 105) rfl rfl (fun h20 => ?_) (fun h20 => ?_)
    · refine hp_sN [119, 120, 208] (pc' := 208) (L' := [some (.ref 47), some (.int (hq_100 S)), some (.int (Int32.ofInt 0))]) (st' := []) rfl rfl ?_
      exact ht_102_208 ((hq_101 (hp_w S 47 5 ((S 47 5) + (Int32.ofInt 1))) (Int32.ofInt 0) (Int32.ofInt 2)).2) ((hq_100 S)) ((Int32.ofInt 0))  n
    · refine hp_sN [106, 107, 108] (pc' := 108) (L' := [some (.ref 47), some (.int (hq_100 S)), none]) (st' := [.int (Int32.ofInt 1), .int (Int32.ofInt 1), .ref 47]) rfl rfl ?_
      refine hp_iv (virt := true) (pc' := 111) (rv := some (.int (hq_101 ((hq_101 (hp_w S 47 5 ((S 47 5) + (Int32.ofInt 1))) (Int32.ofInt 0) (Int32.ofInt 2)).2) (Int32.ofInt 1) (Int32.ofInt 1)).1)) (M1 := hp_mem X ((hq_101 ((hq_101 (hp_w S 47 5 ((S 47 5) + (Int32.ofInt 1))) (Int32.ofInt 0) (Int32.ofInt 2)).2) (Int32.ofInt 1) (Int32.ofInt 1)).2)) rfl rfl (by decide) (hk_101 ((hq_101 (hp_w S 47 5 ((S 47 5) + (Int32.ofInt 1))) (Int32.ofInt 0) (Int32.ofInt 2)).2) ((Int32.ofInt 1)) ((Int32.ofInt 1))) rfl rfl ?_
      show hp_T _ 102 111 _ [.int (hq_101 ((hq_101 (hp_w S 47 5 ((S 47 5) + (Int32.ofInt 1))) (Int32.ofInt 0) (Int32.ofInt 2)).2) (Int32.ofInt 1) (Int32.ofInt 1)).1] _ _ _
      refine hp_if (pc' := 114) rfl rfl (fun h21 => ?_) (fun h21 => ?_)
      · refine hp_sN [119, 120, 208] (pc' := 208) (L' := [some (.ref 47), some (.int (hq_100 S)), some (.int (Int32.ofInt 0))]) (st' := []) rfl rfl ?_
        exact ht_102_208 ((hq_101 ((hq_101 (hp_w S 47 5 ((S 47 5) + (Int32.ofInt 1))) (Int32.ofInt 0) (Int32.ofInt 2)).2) (Int32.ofInt 1) (Int32.ofInt 1)).2) ((hq_100 S)) ((Int32.ofInt 0))  n
      · refine hp_sN [115, 119, 120, 208] (pc' := 208) (L' := [some (.ref 47), some (.int (hq_100 S)), some (.int (Int32.ofInt 1))]) (st' := []) rfl rfl ?_
        exact ht_102_208 ((hq_101 ((hq_101 (hp_w S 47 5 ((S 47 5) + (Int32.ofInt 1))) (Int32.ofInt 0) (Int32.ofInt 2)).2) (Int32.ofInt 1) (Int32.ofInt 1)).2) ((hq_100 S)) ((Int32.ofInt 1))  n
  refine hp_td (t := 196) [104, 105, 108, 112, 116, 119] rfl rfl rfl (by decide) (fun c q => ?_) ?_
  · simp only [List.mem_cons, List.not_mem_nil, or_false] at q
    omega
  refine hp_sN [197, 198] (pc' := 198) (L' := [some (.ref 47), some (.int (hq_100 S)), none]) (st' := [.ref 47, .ref 47]) rfl rfl ?_
  refine hp_gf (pc' := 201) rfl (by decide) (hp_c47 X _) rfl rfl ?_
  refine hp_sN [202, 203] (pc' := 203) (L' := [some (.ref 47), some (.int (hq_100 S)), none]) (st' := [.int ((hp_w S 47 5 ((S 47 5) + (Int32.ofInt 1)) 47 5) - (Int32.ofInt 1)), .ref 47]) rfl rfl ?_
  refine hp_pf (pc' := 206) rfl (by decide) (hp_c47 X _) (hp_w47 X _ _ _ (by decide)) rfl ?_
  refine hp_sN [207] (pc' := 207) (L' := [some (.ref 47), some (.int (hq_100 S)), none]) (st' := [.int (Int32.ofInt 0)]) rfl rfl ?_
  exact hp_Ris rfl
theorem hk_102 {X : hp_X} (S : hp_S) : hp_K 102 [.ref 47] (hp_mem X S) (hp_is X) (hq_102 S) := by
  refine hp_mk (q := hzq_102) rfl (by decide) (L := [some (.ref 47), none, none]) rfl (fun n => ?_)
  exact ht_102 S n
/-! 103: HatsOfTheWindModel.addsPerson(II)V -/
def hq_103_58 (i1 : Int32) (i2 : Int32) (S : hp_S) : hp_S := S
def hq_103_48 (i1 : Int32) (i2 : Int32) (S : hp_S) : hp_S := (hq_103_58 i1 i2 (hp_wg 80 S 48 (Int32.ofInt 0) ((S 48 (Int32.ofInt 0).toNatClampNeg) + (Int32.ofInt 1))) )
def hq_103_32 (i1 : Int32) (i2 : Int32) (S : hp_S) : hp_S := (hq_103_48 i1 i2 (hp_wg 80 S 48 (hq_74 S (S 48 (Int32.ofInt 0).toNatClampNeg) (Int32.ofInt 2)) (Int32.ofInt 0)) )
def hq_103_16 (i1 : Int32) (i2 : Int32) (S : hp_S) : hp_S := (hq_103_32 i1 i2 (hp_wg 80 S 48 (hq_74 S (S 48 (Int32.ofInt 0).toNatClampNeg) (Int32.ofInt 1)) i2) )
def hq_103 (S : hp_S) (i1 : Int32) (i2 : Int32) : hp_S := (hq_103_16 i1 i2 (hp_wg 80 S 48 (hq_74 S (S 48 (Int32.ofInt 0).toNatClampNeg) (Int32.ofInt 0)) i1) )
theorem hf_103_58 {i1 : Int32} {i2 : Int32} (S : hp_S) (j : Nat) (z0 : j ≠ 48) : (hq_103_58 i1 i2 S) j = S j := by
  unfold hq_103_58
  repeat' split
  all_goals simp [hp_wo, hp_wgo, hp_cpo, z0]
theorem hf_103_48 {i1 : Int32} {i2 : Int32} (S : hp_S) (j : Nat) (z0 : j ≠ 48) : (hq_103_48 i1 i2 S) j = S j := by
  unfold hq_103_48
  repeat' split
  all_goals simp [hp_wo, hp_wgo, hp_cpo, z0, hf_103_58]
theorem hf_103_32 {i1 : Int32} {i2 : Int32} (S : hp_S) (j : Nat) (z0 : j ≠ 48) : (hq_103_32 i1 i2 S) j = S j := by
  unfold hq_103_32
  repeat' split
  all_goals simp [hp_wo, hp_wgo, hp_cpo, z0, hf_103_58, hf_103_48]
theorem hf_103_16 {i1 : Int32} {i2 : Int32} (S : hp_S) (j : Nat) (z0 : j ≠ 48) : (hq_103_16 i1 i2 S) j = S j := by
  unfold hq_103_16
  repeat' split
  all_goals simp [hp_wo, hp_wgo, hp_cpo, z0, hf_103_58, hf_103_48, hf_103_32]
theorem hf_103 (S : hp_S) (i1 : Int32) (i2 : Int32) (j : Nat) (z0 : j ≠ 48) : (hq_103 S i1 i2) j = S j := by
  unfold hq_103
  repeat' split
  all_goals simp [hp_wo, hp_wgo, hp_cpo, z0, hf_103_58, hf_103_48, hf_103_32, hf_103_16]
set_option maxRecDepth 10000 in
theorem ht_103_58 {X : hp_X} (i1 : Int32) (i2 : Int32) (S : hp_S) (n : Nat) : hp_T n 103 58 [some (.ref 47), some (.int i1), some (.int i2)] [] (hp_mem X S) (hp_v X) (hq_103_58 i1 i2 S) := by
  unfold hq_103_58
  exact hp_Rv rfl
set_option maxRecDepth 10000 in
theorem ht_103_48 {X : hp_X} (i1 : Int32) (i2 : Int32) (S : hp_S) (n : Nat) : hp_T n 103 48 [some (.ref 47), some (.int i1), some (.int i2)] [] (hp_mem X S) (hp_v X) (hq_103_48 i1 i2 S) := by
  unfold hq_103_48
  refine hp_sN [49] (pc' := 49) (L' := [some (.ref 47), some (.int i1), some (.int i2)]) (st' := [.ref 47]) rfl rfl ?_
  refine hp_gf (pc' := 52) rfl (by decide) (hp_c47 X _) rfl rfl ?_
  refine hp_sN [53, 54] (pc' := 54) (L' := [some (.ref 47), some (.int i1), some (.int i2)]) (st' := [.int (Int32.ofInt 0), .ref 48, .int (Int32.ofInt 0), .ref 48]) rfl rfl ?_
  refine hp_al (pc' := 55) rfl (hp_cl (Or.inl rfl)) (hp_cc (Or.inl rfl) X _) rfl ?_
  refine hp_sN [56, 57] (pc' := 57) (L' := [some (.ref 47), some (.int i1), some (.int i2)]) (st' := [.int ((S 48 (Int32.ofInt 0).toNatClampNeg) + (Int32.ofInt 1)), .int (Int32.ofInt 0), .ref 48]) rfl rfl ?_
  refine hp_asg (pc' := 58) rfl (hp_cl (Or.inl rfl)) (fun _ => (hp_cc (Or.inl rfl) X _)) rfl ?_
  exact ht_103_58 i1 i2 (hp_wg 80 S 48 (Int32.ofInt 0) ((S 48 (Int32.ofInt 0).toNatClampNeg) + (Int32.ofInt 1)))   n
set_option maxRecDepth 10000 in
theorem ht_103_32 {X : hp_X} (i1 : Int32) (i2 : Int32) (S : hp_S) (n : Nat) : hp_T n 103 32 [some (.ref 47), some (.int i1), some (.int i2)] [] (hp_mem X S) (hp_v X) (hq_103_32 i1 i2 S) := by
  unfold hq_103_32
  refine hp_sN [33] (pc' := 33) (L' := [some (.ref 47), some (.int i1), some (.int i2)]) (st' := [.ref 47]) rfl rfl ?_
  refine hp_gf (pc' := 36) rfl (by decide) (hp_c47 X _) rfl rfl ?_
  refine hp_sN [37] (pc' := 37) (L' := [some (.ref 47), some (.int i1), some (.int i2)]) (st' := [.ref 47, .ref 48]) rfl rfl ?_
  refine hp_gf (pc' := 40) rfl (by decide) (hp_c47 X _) rfl rfl ?_
  refine hp_sN [41] (pc' := 41) (L' := [some (.ref 47), some (.int i1), some (.int i2)]) (st' := [.int (Int32.ofInt 0), .ref 48, .ref 48]) rfl rfl ?_
  refine hp_al (pc' := 42) rfl (hp_cl (Or.inl rfl)) (hp_cc (Or.inl rfl) X _) rfl ?_
  refine hp_sN [43] (pc' := 43) (L' := [some (.ref 47), some (.int i1), some (.int i2)]) (st' := [.int (Int32.ofInt 2), .int (S 48 (Int32.ofInt 0).toNatClampNeg), .ref 48]) rfl rfl ?_
  refine hp_iv (virt := false) (pc' := 46) (rv := some (.int (hq_74 S (S 48 (Int32.ofInt 0).toNatClampNeg) (Int32.ofInt 2)))) (M1 := hp_mem X (S)) rfl rfl (by decide) (hk_74 S ((S 48 (Int32.ofInt 0).toNatClampNeg)) ((Int32.ofInt 2))) rfl rfl ?_
  show hp_T _ 103 46 _ [.int (hq_74 S (S 48 (Int32.ofInt 0).toNatClampNeg) (Int32.ofInt 2)), .ref 48] _ _ _
  refine hp_sN [47] (pc' := 47) (L' := [some (.ref 47), some (.int i1), some (.int i2)]) (st' := [.int (Int32.ofInt 0), .int (hq_74 S (S 48 (Int32.ofInt 0).toNatClampNeg) (Int32.ofInt 2)), .ref 48]) rfl rfl ?_
  refine hp_asg (pc' := 48) rfl (hp_cl (Or.inl rfl)) (fun _ => (hp_cc (Or.inl rfl) X _)) rfl ?_
  exact ht_103_48 i1 i2 (hp_wg 80 S 48 (hq_74 S (S 48 (Int32.ofInt 0).toNatClampNeg) (Int32.ofInt 2)) (Int32.ofInt 0))   n
set_option maxRecDepth 10000 in
theorem ht_103_16 {X : hp_X} (i1 : Int32) (i2 : Int32) (S : hp_S) (n : Nat) : hp_T n 103 16 [some (.ref 47), some (.int i1), some (.int i2)] [] (hp_mem X S) (hp_v X) (hq_103_16 i1 i2 S) := by
  unfold hq_103_16
  refine hp_sN [17] (pc' := 17) (L' := [some (.ref 47), some (.int i1), some (.int i2)]) (st' := [.ref 47]) rfl rfl ?_
  refine hp_gf (pc' := 20) rfl (by decide) (hp_c47 X _) rfl rfl ?_
  refine hp_sN [21] (pc' := 21) (L' := [some (.ref 47), some (.int i1), some (.int i2)]) (st' := [.ref 47, .ref 48]) rfl rfl ?_
  refine hp_gf (pc' := 24) rfl (by decide) (hp_c47 X _) rfl rfl ?_
  refine hp_sN [25] (pc' := 25) (L' := [some (.ref 47), some (.int i1), some (.int i2)]) (st' := [.int (Int32.ofInt 0), .ref 48, .ref 48]) rfl rfl ?_
  refine hp_al (pc' := 26) rfl (hp_cl (Or.inl rfl)) (hp_cc (Or.inl rfl) X _) rfl ?_
  refine hp_sN [27] (pc' := 27) (L' := [some (.ref 47), some (.int i1), some (.int i2)]) (st' := [.int (Int32.ofInt 1), .int (S 48 (Int32.ofInt 0).toNatClampNeg), .ref 48]) rfl rfl ?_
  refine hp_iv (virt := false) (pc' := 30) (rv := some (.int (hq_74 S (S 48 (Int32.ofInt 0).toNatClampNeg) (Int32.ofInt 1)))) (M1 := hp_mem X (S)) rfl rfl (by decide) (hk_74 S ((S 48 (Int32.ofInt 0).toNatClampNeg)) ((Int32.ofInt 1))) rfl rfl ?_
  show hp_T _ 103 30 _ [.int (hq_74 S (S 48 (Int32.ofInt 0).toNatClampNeg) (Int32.ofInt 1)), .ref 48] _ _ _
  refine hp_sN [31] (pc' := 31) (L' := [some (.ref 47), some (.int i1), some (.int i2)]) (st' := [.int i2, .int (hq_74 S (S 48 (Int32.ofInt 0).toNatClampNeg) (Int32.ofInt 1)), .ref 48]) rfl rfl ?_
  refine hp_asg (pc' := 32) rfl (hp_cl (Or.inl rfl)) (fun _ => (hp_cc (Or.inl rfl) X _)) rfl ?_
  exact ht_103_32 i1 i2 (hp_wg 80 S 48 (hq_74 S (S 48 (Int32.ofInt 0).toNatClampNeg) (Int32.ofInt 1)) i2)   n
set_option maxRecDepth 10000 in
theorem ht_103 {X : hp_X} (S : hp_S) (i1 : Int32) (i2 : Int32) (n : Nat) : hp_T n 103 0 [some (.ref 47), some (.int i1), some (.int i2)] [] (hp_mem X S) (hp_v X) (hq_103 S i1 i2) := by
  unfold hq_103
  refine hp_sN [1] (pc' := 1) (L' := [some (.ref 47), some (.int i1), some (.int i2)]) (st' := [.ref 47]) rfl rfl ?_
  refine hp_gf (pc' := 4) rfl (by decide) (hp_c47 X _) rfl rfl ?_
  refine hp_sN [5] (pc' := 5) (L' := [some (.ref 47), some (.int i1), some (.int i2)]) (st' := [.ref 47, .ref 48]) rfl rfl ?_
  refine hp_gf (pc' := 8) rfl (by decide) (hp_c47 X _) rfl rfl ?_
  refine hp_sN [9] (pc' := 9) (L' := [some (.ref 47), some (.int i1), some (.int i2)]) (st' := [.int (Int32.ofInt 0), .ref 48, .ref 48]) rfl rfl ?_
  refine hp_al (pc' := 10) rfl (hp_cl (Or.inl rfl)) (hp_cc (Or.inl rfl) X _) rfl ?_
  refine hp_sN [11] (pc' := 11) (L' := [some (.ref 47), some (.int i1), some (.int i2)]) (st' := [.int (Int32.ofInt 0), .int (S 48 (Int32.ofInt 0).toNatClampNeg), .ref 48]) rfl rfl ?_
  refine hp_iv (virt := false) (pc' := 14) (rv := some (.int (hq_74 S (S 48 (Int32.ofInt 0).toNatClampNeg) (Int32.ofInt 0)))) (M1 := hp_mem X (S)) rfl rfl (by decide) (hk_74 S ((S 48 (Int32.ofInt 0).toNatClampNeg)) ((Int32.ofInt 0))) rfl rfl ?_
  show hp_T _ 103 14 _ [.int (hq_74 S (S 48 (Int32.ofInt 0).toNatClampNeg) (Int32.ofInt 0)), .ref 48] _ _ _
  refine hp_sN [15] (pc' := 15) (L' := [some (.ref 47), some (.int i1), some (.int i2)]) (st' := [.int i1, .int (hq_74 S (S 48 (Int32.ofInt 0).toNatClampNeg) (Int32.ofInt 0)), .ref 48]) rfl rfl ?_
  refine hp_asg (pc' := 16) rfl (hp_cl (Or.inl rfl)) (fun _ => (hp_cc (Or.inl rfl) X _)) rfl ?_
  exact ht_103_16 i1 i2 (hp_wg 80 S 48 (hq_74 S (S 48 (Int32.ofInt 0).toNatClampNeg) (Int32.ofInt 0)) i1)   n
theorem hk_103 {X : hp_X} (S : hp_S) (i1 : Int32) (i2 : Int32) : hp_K 103 [.ref 47, .int i1, .int i2] (hp_mem X S) (hp_v X) (hq_103 S i1 i2) := by
  refine hp_mk (q := hzq_103) rfl (by decide) (L := [some (.ref 47), some (.int i1), some (.int i2)]) rfl (fun n => ?_)
  exact ht_103 S i1 i2 n
/-! 104: HatsOfTheWindModel.addsHat(III)V -/
def hq_104_74 (i1 : Int32) (i2 : Int32) (i3 : Int32) (S : hp_S) : hp_S := S
def hq_104_64 (i1 : Int32) (i2 : Int32) (i3 : Int32) (S : hp_S) : hp_S := (hq_104_74 i1 i2 i3 (hp_wg 80 S 48 (Int32.ofInt 1) ((S 48 (Int32.ofInt 1).toNatClampNeg) + (Int32.ofInt 1))) )
def hq_104_48 (i1 : Int32) (i2 : Int32) (i3 : Int32) (S : hp_S) : hp_S := (hq_104_64 i1 i2 i3 (hp_wg 80 S 48 (hq_75 S (S 48 (Int32.ofInt 1).toNatClampNeg) (Int32.ofInt 3)) (Int32.ofInt 0)) )
def hq_104_32 (i1 : Int32) (i2 : Int32) (i3 : Int32) (S : hp_S) : hp_S := (hq_104_48 i1 i2 i3 (hp_wg 80 S 48 (hq_75 S (S 48 (Int32.ofInt 1).toNatClampNeg) (Int32.ofInt 2)) i3) )
def hq_104_16 (i1 : Int32) (i2 : Int32) (i3 : Int32) (S : hp_S) : hp_S := (hq_104_32 i1 i2 i3 (hp_wg 80 S 48 (hq_75 S (S 48 (Int32.ofInt 1).toNatClampNeg) (Int32.ofInt 1)) i2) )
def hq_104 (S : hp_S) (i1 : Int32) (i2 : Int32) (i3 : Int32) : hp_S := (hq_104_16 i1 i2 i3 (hp_wg 80 S 48 (hq_75 S (S 48 (Int32.ofInt 1).toNatClampNeg) (Int32.ofInt 0)) i1) )
theorem hf_104_74 {i1 : Int32} {i2 : Int32} {i3 : Int32} (S : hp_S) (j : Nat) (z0 : j ≠ 48) : (hq_104_74 i1 i2 i3 S) j = S j := by
  unfold hq_104_74
  repeat' split
  all_goals simp [hp_wo, hp_wgo, hp_cpo, z0]
theorem hf_104_64 {i1 : Int32} {i2 : Int32} {i3 : Int32} (S : hp_S) (j : Nat) (z0 : j ≠ 48) : (hq_104_64 i1 i2 i3 S) j = S j := by
  unfold hq_104_64
  repeat' split
  all_goals simp [hp_wo, hp_wgo, hp_cpo, z0, hf_104_74]
theorem hf_104_48 {i1 : Int32} {i2 : Int32} {i3 : Int32} (S : hp_S) (j : Nat) (z0 : j ≠ 48) : (hq_104_48 i1 i2 i3 S) j = S j := by
  unfold hq_104_48
  repeat' split
  all_goals simp [hp_wo, hp_wgo, hp_cpo, z0, hf_104_74, hf_104_64]
theorem hf_104_32 {i1 : Int32} {i2 : Int32} {i3 : Int32} (S : hp_S) (j : Nat) (z0 : j ≠ 48) : (hq_104_32 i1 i2 i3 S) j = S j := by
  unfold hq_104_32
  repeat' split
  all_goals simp [hp_wo, hp_wgo, hp_cpo, z0, hf_104_74, hf_104_64, hf_104_48]
theorem hf_104_16 {i1 : Int32} {i2 : Int32} {i3 : Int32} (S : hp_S) (j : Nat) (z0 : j ≠ 48) : (hq_104_16 i1 i2 i3 S) j = S j := by
  unfold hq_104_16
  repeat' split
  all_goals simp [hp_wo, hp_wgo, hp_cpo, z0, hf_104_74, hf_104_64, hf_104_48, hf_104_32]
theorem hf_104 (S : hp_S) (i1 : Int32) (i2 : Int32) (i3 : Int32) (j : Nat) (z0 : j ≠ 48) : (hq_104 S i1 i2 i3) j = S j := by
  unfold hq_104
  repeat' split
  all_goals simp [hp_wo, hp_wgo, hp_cpo, z0, hf_104_74, hf_104_64, hf_104_48, hf_104_32, hf_104_16]
set_option maxRecDepth 10000 in
theorem ht_104_74 {X : hp_X} (i1 : Int32) (i2 : Int32) (i3 : Int32) (S : hp_S) (n : Nat) : hp_T n 104 74 [some (.ref 47), some (.int i1), some (.int i2), some (.int i3)] [] (hp_mem X S) (hp_v X) (hq_104_74 i1 i2 i3 S) := by
  unfold hq_104_74
  exact hp_Rv rfl
set_option maxRecDepth 10000 in
theorem ht_104_64 {X : hp_X} (i1 : Int32) (i2 : Int32) (i3 : Int32) (S : hp_S) (n : Nat) : hp_T n 104 64 [some (.ref 47), some (.int i1), some (.int i2), some (.int i3)] [] (hp_mem X S) (hp_v X) (hq_104_64 i1 i2 i3 S) := by
  unfold hq_104_64
  refine hp_sN [65] (pc' := 65) (L' := [some (.ref 47), some (.int i1), some (.int i2), some (.int i3)]) (st' := [.ref 47]) rfl rfl ?_
  refine hp_gf (pc' := 68) rfl (by decide) (hp_c47 X _) rfl rfl ?_
  refine hp_sN [69, 70] (pc' := 70) (L' := [some (.ref 47), some (.int i1), some (.int i2), some (.int i3)]) (st' := [.int (Int32.ofInt 1), .ref 48, .int (Int32.ofInt 1), .ref 48]) rfl rfl ?_
  refine hp_al (pc' := 71) rfl (hp_cl (Or.inl rfl)) (hp_cc (Or.inl rfl) X _) rfl ?_
  refine hp_sN [72, 73] (pc' := 73) (L' := [some (.ref 47), some (.int i1), some (.int i2), some (.int i3)]) (st' := [.int ((S 48 (Int32.ofInt 1).toNatClampNeg) + (Int32.ofInt 1)), .int (Int32.ofInt 1), .ref 48]) rfl rfl ?_
  refine hp_asg (pc' := 74) rfl (hp_cl (Or.inl rfl)) (fun _ => (hp_cc (Or.inl rfl) X _)) rfl ?_
  exact ht_104_74 i1 i2 i3 (hp_wg 80 S 48 (Int32.ofInt 1) ((S 48 (Int32.ofInt 1).toNatClampNeg) + (Int32.ofInt 1)))   n
set_option maxRecDepth 10000 in
theorem ht_104_48 {X : hp_X} (i1 : Int32) (i2 : Int32) (i3 : Int32) (S : hp_S) (n : Nat) : hp_T n 104 48 [some (.ref 47), some (.int i1), some (.int i2), some (.int i3)] [] (hp_mem X S) (hp_v X) (hq_104_48 i1 i2 i3 S) := by
  unfold hq_104_48
  refine hp_sN [49] (pc' := 49) (L' := [some (.ref 47), some (.int i1), some (.int i2), some (.int i3)]) (st' := [.ref 47]) rfl rfl ?_
  refine hp_gf (pc' := 52) rfl (by decide) (hp_c47 X _) rfl rfl ?_
  refine hp_sN [53] (pc' := 53) (L' := [some (.ref 47), some (.int i1), some (.int i2), some (.int i3)]) (st' := [.ref 47, .ref 48]) rfl rfl ?_
  refine hp_gf (pc' := 56) rfl (by decide) (hp_c47 X _) rfl rfl ?_
  refine hp_sN [57] (pc' := 57) (L' := [some (.ref 47), some (.int i1), some (.int i2), some (.int i3)]) (st' := [.int (Int32.ofInt 1), .ref 48, .ref 48]) rfl rfl ?_
  refine hp_al (pc' := 58) rfl (hp_cl (Or.inl rfl)) (hp_cc (Or.inl rfl) X _) rfl ?_
  refine hp_sN [59] (pc' := 59) (L' := [some (.ref 47), some (.int i1), some (.int i2), some (.int i3)]) (st' := [.int (Int32.ofInt 3), .int (S 48 (Int32.ofInt 1).toNatClampNeg), .ref 48]) rfl rfl ?_
  refine hp_iv (virt := false) (pc' := 62) (rv := some (.int (hq_75 S (S 48 (Int32.ofInt 1).toNatClampNeg) (Int32.ofInt 3)))) (M1 := hp_mem X (S)) rfl rfl (by decide) (hk_75 S ((S 48 (Int32.ofInt 1).toNatClampNeg)) ((Int32.ofInt 3))) rfl rfl ?_
  show hp_T _ 104 62 _ [.int (hq_75 S (S 48 (Int32.ofInt 1).toNatClampNeg) (Int32.ofInt 3)), .ref 48] _ _ _
  refine hp_sN [63] (pc' := 63) (L' := [some (.ref 47), some (.int i1), some (.int i2), some (.int i3)]) (st' := [.int (Int32.ofInt 0), .int (hq_75 S (S 48 (Int32.ofInt 1).toNatClampNeg) (Int32.ofInt 3)), .ref 48]) rfl rfl ?_
  refine hp_asg (pc' := 64) rfl (hp_cl (Or.inl rfl)) (fun _ => (hp_cc (Or.inl rfl) X _)) rfl ?_
  exact ht_104_64 i1 i2 i3 (hp_wg 80 S 48 (hq_75 S (S 48 (Int32.ofInt 1).toNatClampNeg) (Int32.ofInt 3)) (Int32.ofInt 0))   n
set_option maxRecDepth 10000 in
theorem ht_104_32 {X : hp_X} (i1 : Int32) (i2 : Int32) (i3 : Int32) (S : hp_S) (n : Nat) : hp_T n 104 32 [some (.ref 47), some (.int i1), some (.int i2), some (.int i3)] [] (hp_mem X S) (hp_v X) (hq_104_32 i1 i2 i3 S) := by
  unfold hq_104_32
  refine hp_sN [33] (pc' := 33) (L' := [some (.ref 47), some (.int i1), some (.int i2), some (.int i3)]) (st' := [.ref 47]) rfl rfl ?_
  refine hp_gf (pc' := 36) rfl (by decide) (hp_c47 X _) rfl rfl ?_
  refine hp_sN [37] (pc' := 37) (L' := [some (.ref 47), some (.int i1), some (.int i2), some (.int i3)]) (st' := [.ref 47, .ref 48]) rfl rfl ?_
  refine hp_gf (pc' := 40) rfl (by decide) (hp_c47 X _) rfl rfl ?_
  refine hp_sN [41] (pc' := 41) (L' := [some (.ref 47), some (.int i1), some (.int i2), some (.int i3)]) (st' := [.int (Int32.ofInt 1), .ref 48, .ref 48]) rfl rfl ?_
  refine hp_al (pc' := 42) rfl (hp_cl (Or.inl rfl)) (hp_cc (Or.inl rfl) X _) rfl ?_
  refine hp_sN [43] (pc' := 43) (L' := [some (.ref 47), some (.int i1), some (.int i2), some (.int i3)]) (st' := [.int (Int32.ofInt 2), .int (S 48 (Int32.ofInt 1).toNatClampNeg), .ref 48]) rfl rfl ?_
  refine hp_iv (virt := false) (pc' := 46) (rv := some (.int (hq_75 S (S 48 (Int32.ofInt 1).toNatClampNeg) (Int32.ofInt 2)))) (M1 := hp_mem X (S)) rfl rfl (by decide) (hk_75 S ((S 48 (Int32.ofInt 1).toNatClampNeg)) ((Int32.ofInt 2))) rfl rfl ?_
  show hp_T _ 104 46 _ [.int (hq_75 S (S 48 (Int32.ofInt 1).toNatClampNeg) (Int32.ofInt 2)), .ref 48] _ _ _
  refine hp_sN [47] (pc' := 47) (L' := [some (.ref 47), some (.int i1), some (.int i2), some (.int i3)]) (st' := [.int i3, .int (hq_75 S (S 48 (Int32.ofInt 1).toNatClampNeg) (Int32.ofInt 2)), .ref 48]) rfl rfl ?_
  refine hp_asg (pc' := 48) rfl (hp_cl (Or.inl rfl)) (fun _ => (hp_cc (Or.inl rfl) X _)) rfl ?_
  exact ht_104_48 i1 i2 i3 (hp_wg 80 S 48 (hq_75 S (S 48 (Int32.ofInt 1).toNatClampNeg) (Int32.ofInt 2)) i3)   n
set_option maxRecDepth 10000 in
theorem ht_104_16 {X : hp_X} (i1 : Int32) (i2 : Int32) (i3 : Int32) (S : hp_S) (n : Nat) : hp_T n 104 16 [some (.ref 47), some (.int i1), some (.int i2), some (.int i3)] [] (hp_mem X S) (hp_v X) (hq_104_16 i1 i2 i3 S) := by
  unfold hq_104_16
  refine hp_sN [17] (pc' := 17) (L' := [some (.ref 47), some (.int i1), some (.int i2), some (.int i3)]) (st' := [.ref 47]) rfl rfl ?_
  refine hp_gf (pc' := 20) rfl (by decide) (hp_c47 X _) rfl rfl ?_
  refine hp_sN [21] (pc' := 21) (L' := [some (.ref 47), some (.int i1), some (.int i2), some (.int i3)]) (st' := [.ref 47, .ref 48]) rfl rfl ?_
  refine hp_gf (pc' := 24) rfl (by decide) (hp_c47 X _) rfl rfl ?_
  refine hp_sN [25] (pc' := 25) (L' := [some (.ref 47), some (.int i1), some (.int i2), some (.int i3)]) (st' := [.int (Int32.ofInt 1), .ref 48, .ref 48]) rfl rfl ?_
  refine hp_al (pc' := 26) rfl (hp_cl (Or.inl rfl)) (hp_cc (Or.inl rfl) X _) rfl ?_
  refine hp_sN [27] (pc' := 27) (L' := [some (.ref 47), some (.int i1), some (.int i2), some (.int i3)]) (st' := [.int (Int32.ofInt 1), .int (S 48 (Int32.ofInt 1).toNatClampNeg), .ref 48]) rfl rfl ?_
  refine hp_iv (virt := false) (pc' := 30) (rv := some (.int (hq_75 S (S 48 (Int32.ofInt 1).toNatClampNeg) (Int32.ofInt 1)))) (M1 := hp_mem X (S)) rfl rfl (by decide) (hk_75 S ((S 48 (Int32.ofInt 1).toNatClampNeg)) ((Int32.ofInt 1))) rfl rfl ?_
  show hp_T _ 104 30 _ [.int (hq_75 S (S 48 (Int32.ofInt 1).toNatClampNeg) (Int32.ofInt 1)), .ref 48] _ _ _
  refine hp_sN [31] (pc' := 31) (L' := [some (.ref 47), some (.int i1), some (.int i2), some (.int i3)]) (st' := [.int i2, .int (hq_75 S (S 48 (Int32.ofInt 1).toNatClampNeg) (Int32.ofInt 1)), .ref 48]) rfl rfl ?_
  refine hp_asg (pc' := 32) rfl (hp_cl (Or.inl rfl)) (fun _ => (hp_cc (Or.inl rfl) X _)) rfl ?_
  exact ht_104_32 i1 i2 i3 (hp_wg 80 S 48 (hq_75 S (S 48 (Int32.ofInt 1).toNatClampNeg) (Int32.ofInt 1)) i2)   n
set_option maxRecDepth 10000 in
theorem ht_104 {X : hp_X} (S : hp_S) (i1 : Int32) (i2 : Int32) (i3 : Int32) (n : Nat) : hp_T n 104 0 [some (.ref 47), some (.int i1), some (.int i2), some (.int i3)] [] (hp_mem X S) (hp_v X) (hq_104 S i1 i2 i3) := by
  unfold hq_104
  refine hp_sN [1] (pc' := 1) (L' := [some (.ref 47), some (.int i1), some (.int i2), some (.int i3)]) (st' := [.ref 47]) rfl rfl ?_
  refine hp_gf (pc' := 4) rfl (by decide) (hp_c47 X _) rfl rfl ?_
  refine hp_sN [5] (pc' := 5) (L' := [some (.ref 47), some (.int i1), some (.int i2), some (.int i3)]) (st' := [.ref 47, .ref 48]) rfl rfl ?_
  refine hp_gf (pc' := 8) rfl (by decide) (hp_c47 X _) rfl rfl ?_
  refine hp_sN [9] (pc' := 9) (L' := [some (.ref 47), some (.int i1), some (.int i2), some (.int i3)]) (st' := [.int (Int32.ofInt 1), .ref 48, .ref 48]) rfl rfl ?_
  refine hp_al (pc' := 10) rfl (hp_cl (Or.inl rfl)) (hp_cc (Or.inl rfl) X _) rfl ?_
  refine hp_sN [11] (pc' := 11) (L' := [some (.ref 47), some (.int i1), some (.int i2), some (.int i3)]) (st' := [.int (Int32.ofInt 0), .int (S 48 (Int32.ofInt 1).toNatClampNeg), .ref 48]) rfl rfl ?_
  refine hp_iv (virt := false) (pc' := 14) (rv := some (.int (hq_75 S (S 48 (Int32.ofInt 1).toNatClampNeg) (Int32.ofInt 0)))) (M1 := hp_mem X (S)) rfl rfl (by decide) (hk_75 S ((S 48 (Int32.ofInt 1).toNatClampNeg)) ((Int32.ofInt 0))) rfl rfl ?_
  show hp_T _ 104 14 _ [.int (hq_75 S (S 48 (Int32.ofInt 1).toNatClampNeg) (Int32.ofInt 0)), .ref 48] _ _ _
  refine hp_sN [15] (pc' := 15) (L' := [some (.ref 47), some (.int i1), some (.int i2), some (.int i3)]) (st' := [.int i1, .int (hq_75 S (S 48 (Int32.ofInt 1).toNatClampNeg) (Int32.ofInt 0)), .ref 48]) rfl rfl ?_
  refine hp_asg (pc' := 16) rfl (hp_cl (Or.inl rfl)) (fun _ => (hp_cc (Or.inl rfl) X _)) rfl ?_
  exact ht_104_16 i1 i2 i3 (hp_wg 80 S 48 (hq_75 S (S 48 (Int32.ofInt 1).toNatClampNeg) (Int32.ofInt 0)) i1)   n
theorem hk_104 {X : hp_X} (S : hp_S) (i1 : Int32) (i2 : Int32) (i3 : Int32) : hp_K 104 [.ref 47, .int i1, .int i2, .int i3] (hp_mem X S) (hp_v X) (hq_104 S i1 i2 i3) := by
  refine hp_mk (q := hzq_104) rfl (by decide) (L := [some (.ref 47), some (.int i1), some (.int i2), some (.int i3)]) rfl (fun n => ?_)
  exact ht_104 S i1 i2 i3 n

/-! 105: HatsOfTheWindModel.isDone(I)Z -/
def hq_105 (S : hp_S) (i1 : Int32) : Int32 × hp_S := (if i1 = (Int32.ofInt 104) then (if hz_cmp .ge (S 52 (Int32.ofInt 0).toNatClampNeg) (Int32.ofInt 8) = true then ((Int32.ofInt 0), S) else (if hz_cmp .eq (hq_76 S (S 52 (Int32.ofInt 2).toNatClampNeg)) 0 = true then ((Int32.ofInt 0), S) else (if hz_cmp .ne (hq_88 S 48 (S 52 (Int32.ofInt 2).toNatClampNeg)) (Int32.ofInt 9) = true then ((Int32.ofInt 0), S) else (if hz_cmp .ne (S 48 (Int32.ofInt 1).toNatClampNeg) (Int32.ofInt 8) = true then ((Int32.ofInt 1), hq_104 S (S 52 (Int32.ofInt 0).toNatClampNeg) (S 52 (Int32.ofInt 1).toNatClampNeg) (S 52 (Int32.ofInt 2).toNatClampNeg)) else ((Int32.ofInt 0), S))))) else (if i1 = (Int32.ofInt 105) then (if hz_cmp .ne (hq_76 S (S 52 (Int32.ofInt 0).toNatClampNeg)) 0 = true then ((Int32.ofInt 1), hp_wg 80 S 48 (hq_74 S (S 52 (Int32.ofInt 0).toNatClampNeg) (Int32.ofInt 2)) (S 52 (Int32.ofInt 1).toNatClampNeg)) else ((Int32.ofInt 0), S)) else (if i1 = (Int32.ofInt 108) then (if hz_cmp .ne (hq_78 S (S 52 (Int32.ofInt 0).toNatClampNeg)) 0 = true then ((Int32.ofInt 1), hp_wg 80 S 48 (Int32.ofInt 4) ((S 48 (Int32.ofInt 4).toNatClampNeg) ^^^ ((Int32.ofInt 1) <<< ((S 52 (Int32.ofInt 0).toNatClampNeg) &&& 31)))) else ((Int32.ofInt 0), S)) else (if i1 = (Int32.ofInt 112) then (if hz_cmp .eq (hq_78 S (S 52 (Int32.ofInt 0).toNatClampNeg)) 0 = true then ((Int32.ofInt 0), S) else (if hz_cmp .eq (hq_70 S (S 52 (Int32.ofInt 1).toNatClampNeg) (Int32.ofInt 1) (Int32.ofInt 5)) 0 = true then ((Int32.ofInt 0), S) else (if hz_cmp .ne (S 48 (Int32.ofInt 0).toNatClampNeg) (Int32.ofInt 6) = true then ((Int32.ofInt 1), hq_103 S (S 52 (Int32.ofInt 0).toNatClampNeg) (S 52 (Int32.ofInt 1).toNatClampNeg)) else ((Int32.ofInt 0), S)))) else (if i1 = (Int32.ofInt 119) then (if hz_cmp .lt (S 52 (Int32.ofInt 0).toNatClampNeg) (Int32.ofInt 24) = true then ((Int32.ofInt 1), hp_wg 80 S 48 ((Int32.ofInt 6) + (S 52 (Int32.ofInt 0).toNatClampNeg)) (S 52 (Int32.ofInt 1).toNatClampNeg)) else ((Int32.ofInt 0), S)) else (if hz_cmp .eq (hq_70 S (S 52 (Int32.ofInt 0).toNatClampNeg) (Int32.ofInt 1) (Int32.ofInt 60)) 0 = true then ((Int32.ofInt 0), S) else (if hz_cmp .ne (hq_95 S 48 (S 52 (Int32.ofInt 0).toNatClampNeg)) 0 = true then ((Int32.ofInt 1), hq_94 S 48 (S 52 (Int32.ofInt 0).toNatClampNeg)) else ((Int32.ofInt 0), S))))))))
theorem hf_105 (S : hp_S) (i1 : Int32) (j : Nat) (z0 : j ≠ 48) : (hq_105 S i1).2 j = S j := by
  unfold hq_105
  repeat' split
  all_goals simp [hp_wo, hp_wgo, hp_cpo, hf_94, hf_103, hf_104, z0]
set_option maxRecDepth 10000 in
theorem ht_105 {X : hp_X} (S : hp_S) (i1 : Int32) (n : Nat) : hp_T n 105 0 [some (.ref 47), some (.int i1), none, none, none] [] (hp_mem X S) (hp_is X) (hq_105 S i1) := by
  unfold hq_105
  refine hp_sN [1] (pc' := 1) (L' := [some (.ref 47), some (.int i1), none, none, none]) (st' := [.ref 47]) rfl rfl ?_
  refine hp_gf (pc' := 4) rfl (by decide) (hp_c47 X _) rfl rfl ?_
  refine hp_sN [5] (pc' := 5) (L' := [some (.ref 47), some (.int i1), none, none, none]) (st' := [.int (Int32.ofInt 0), .ref 52]) rfl rfl ?_
  refine hp_al (pc' := 6) rfl (by decide) rfl rfl ?_
  refine hp_sN [7, 8] (pc' := 8) (L' := [some (.ref 47), some (.int i1), some (.int (S 52 (Int32.ofInt 0).toNatClampNeg)), none, none]) (st' := [.ref 47]) rfl rfl ?_
  refine hp_gf (pc' := 11) rfl (by decide) (hp_c47 X _) rfl rfl ?_
  refine hp_sN [12] (pc' := 12) (L' := [some (.ref 47), some (.int i1), some (.int (S 52 (Int32.ofInt 0).toNatClampNeg)), none, none]) (st' := [.int (Int32.ofInt 1), .ref 52]) rfl rfl ?_
  refine hp_al (pc' := 13) rfl (by decide) rfl rfl ?_
  refine hp_sN [14, 15] (pc' := 15) (L' := [some (.ref 47), some (.int i1), some (.int (S 52 (Int32.ofInt 0).toNatClampNeg)), some (.int (S 52 (Int32.ofInt 1).toNatClampNeg)), none]) (st' := [.ref 47]) rfl rfl ?_
  refine hp_gf (pc' := 18) rfl (by decide) (hp_c47 X _) rfl rfl ?_
  refine hp_sN [19] (pc' := 19) (L' := [some (.ref 47), some (.int i1), some (.int (S 52 (Int32.ofInt 0).toNatClampNeg)), some (.int (S 52 (Int32.ofInt 1).toNatClampNeg)), none]) (st' := [.int (Int32.ofInt 2), .ref 52]) rfl rfl ?_
  refine hp_al (pc' := 20) rfl (by decide) rfl rfl ?_
  refine hp_sN [22, 23] (pc' := 23) (L' := [some (.ref 47), some (.int i1), some (.int (S 52 (Int32.ofInt 0).toNatClampNeg)), some (.int (S 52 (Int32.ofInt 1).toNatClampNeg)), some (.int (S 52 (Int32.ofInt 2).toNatClampNeg))]) (st' := [.int i1]) rfl rfl ?_
  refine hp_sl (c := 104) (t := 109) rfl (by decide) (by decide) rfl (fun h1 => ?_) (fun h2 => ?_)
  · refine hp_sN [110, 112] (pc' := 112) (L' := [some (.ref 47), some (.int i1), some (.int (S 52 (Int32.ofInt 0).toNatClampNeg)), some (.int (S 52 (Int32.ofInt 1).toNatClampNeg)), some (.int (S 52 (Int32.ofInt 2).toNatClampNeg))]) (st' := [.int (Int32.ofInt 8), .int (S 52 (Int32.ofInt 0).toNatClampNeg)]) rfl rfl ?_
    refine hp_ic (pc' := 115) rfl rfl (fun h3 => ?_) (fun h3 => ?_)
    · refine hp_sN [150] (pc' := 150) (L' := [some (.ref 47), some (.int i1), some (.int (S 52 (Int32.ofInt 0).toNatClampNeg)), some (.int (S 52 (Int32.ofInt 1).toNatClampNeg)), some (.int (S 52 (Int32.ofInt 2).toNatClampNeg))]) (st' := [.int (Int32.ofInt 0)]) rfl rfl ?_
      exact hp_Ris rfl
    · refine hp_sN [116, 118] (pc' := 118) (L' := [some (.ref 47), some (.int i1), some (.int (S 52 (Int32.ofInt 0).toNatClampNeg)), some (.int (S 52 (Int32.ofInt 1).toNatClampNeg)), some (.int (S 52 (Int32.ofInt 2).toNatClampNeg))]) (st' := [.int (S 52 (Int32.ofInt 2).toNatClampNeg), .ref 47]) rfl rfl ?_
      refine hp_iv (virt := true) (pc' := 121) (rv := some (.int (hq_76 S (S 52 (Int32.ofInt 2).toNatClampNeg)))) (M1 := hp_mem X (S)) rfl rfl (by decide) (hk_76 S ((S 52 (Int32.ofInt 2).toNatClampNeg))) rfl rfl ?_
      show hp_T _ 105 121 _ [.int (hq_76 S (S 52 (Int32.ofInt 2).toNatClampNeg))] _ _ _
      refine hp_if (pc' := 124) rfl rfl (fun h4 => ?_) (fun h4 => ?_)
      · refine hp_sN [150] (pc' := 150) (L' := [some (.ref 47), some (.int i1), some (.int (S 52 (Int32.ofInt 0).toNatClampNeg)), some (.int (S 52 (Int32.ofInt 1).toNatClampNeg)), some (.int (S 52 (Int32.ofInt 2).toNatClampNeg))]) (st' := [.int (Int32.ofInt 0)]) rfl rfl ?_
        exact hp_Ris rfl
      · refine hp_sN [125] (pc' := 125) (L' := [some (.ref 47), some (.int i1), some (.int (S 52 (Int32.ofInt 0).toNatClampNeg)), some (.int (S 52 (Int32.ofInt 1).toNatClampNeg)), some (.int (S 52 (Int32.ofInt 2).toNatClampNeg))]) (st' := [.ref 47]) rfl rfl ?_
        refine hp_gf (pc' := 128) rfl (by decide) (hp_c47 X _) rfl rfl ?_
        refine hp_sN [130] (pc' := 130) (L' := [some (.ref 47), some (.int i1), some (.int (S 52 (Int32.ofInt 0).toNatClampNeg)), some (.int (S 52 (Int32.ofInt 1).toNatClampNeg)), some (.int (S 52 (Int32.ofInt 2).toNatClampNeg))]) (st' := [.int (S 52 (Int32.ofInt 2).toNatClampNeg), .ref 48]) rfl rfl ?_
        refine hp_iv (virt := false) (pc' := 133) (rv := some (.int (hq_88 S 48 (S 52 (Int32.ofInt 2).toNatClampNeg)))) (M1 := hp_mem X (S)) rfl rfl (by decide) (hk_88 (Or.inl rfl) S ((S 52 (Int32.ofInt 2).toNatClampNeg))) rfl rfl ?_
        show hp_T _ 105 133 _ [.int (hq_88 S 48 (S 52 (Int32.ofInt 2).toNatClampNeg))] _ _ _
        refine hp_sN [135] (pc' := 135) (L' := [some (.ref 47), some (.int i1), some (.int (S 52 (Int32.ofInt 0).toNatClampNeg)), some (.int (S 52 (Int32.ofInt 1).toNatClampNeg)), some (.int (S 52 (Int32.ofInt 2).toNatClampNeg))]) (st' := [.int (Int32.ofInt 9), .int (hq_88 S 48 (S 52 (Int32.ofInt 2).toNatClampNeg))]) rfl rfl ?_
        refine hp_ic (pc' := 138) rfl rfl (fun h5 => ?_) (fun h5 => ?_)
        · refine hp_sN [150] (pc' := 150) (L' := [some (.ref 47), some (.int i1), some (.int (S 52 (Int32.ofInt 0).toNatClampNeg)), some (.int (S 52 (Int32.ofInt 1).toNatClampNeg)), some (.int (S 52 (Int32.ofInt 2).toNatClampNeg))]) (st' := [.int (Int32.ofInt 0)]) rfl rfl ?_
          exact hp_Ris rfl
        · refine hp_sN [139] (pc' := 139) (L' := [some (.ref 47), some (.int i1), some (.int (S 52 (Int32.ofInt 0).toNatClampNeg)), some (.int (S 52 (Int32.ofInt 1).toNatClampNeg)), some (.int (S 52 (Int32.ofInt 2).toNatClampNeg))]) (st' := [.ref 47]) rfl rfl ?_
          refine hp_gf (pc' := 142) rfl (by decide) (hp_c47 X _) rfl rfl ?_
          refine hp_sN [143] (pc' := 143) (L' := [some (.ref 47), some (.int i1), some (.int (S 52 (Int32.ofInt 0).toNatClampNeg)), some (.int (S 52 (Int32.ofInt 1).toNatClampNeg)), some (.int (S 52 (Int32.ofInt 2).toNatClampNeg))]) (st' := [.int (Int32.ofInt 1), .ref 48]) rfl rfl ?_
          refine hp_al (pc' := 144) rfl (hp_cl (Or.inl rfl)) (hp_cc (Or.inl rfl) X _) rfl ?_
          refine hp_sN [146] (pc' := 146) (L' := [some (.ref 47), some (.int i1), some (.int (S 52 (Int32.ofInt 0).toNatClampNeg)), some (.int (S 52 (Int32.ofInt 1).toNatClampNeg)), some (.int (S 52 (Int32.ofInt 2).toNatClampNeg))]) (st' := [.int (Int32.ofInt 8), .int (S 48 (Int32.ofInt 1).toNatClampNeg)]) rfl rfl ?_
          refine hp_ic (pc' := 149) rfl rfl (fun h6 => ?_) (fun h6 => ?_)
          · refine hp_sN [152, 153, 154, 156] (pc' := 156) (L' := [some (.ref 47), some (.int i1), some (.int (S 52 (Int32.ofInt 0).toNatClampNeg)), some (.int (S 52 (Int32.ofInt 1).toNatClampNeg)), some (.int (S 52 (Int32.ofInt 2).toNatClampNeg))]) (st' := [.int (S 52 (Int32.ofInt 2).toNatClampNeg), .int (S 52 (Int32.ofInt 1).toNatClampNeg), .int (S 52 (Int32.ofInt 0).toNatClampNeg), .ref 47]) rfl rfl ?_
            refine hp_iv (virt := true) (pc' := 159) (rv := none) (M1 := hp_mem X (hq_104 S (S 52 (Int32.ofInt 0).toNatClampNeg) (S 52 (Int32.ofInt 1).toNatClampNeg) (S 52 (Int32.ofInt 2).toNatClampNeg))) rfl rfl (by decide) (hk_104 S ((S 52 (Int32.ofInt 0).toNatClampNeg)) ((S 52 (Int32.ofInt 1).toNatClampNeg)) ((S 52 (Int32.ofInt 2).toNatClampNeg))) rfl rfl ?_
            show hp_T _ 105 159 _ [] _ _ _
            refine hp_sN [160] (pc' := 160) (L' := [some (.ref 47), some (.int i1), some (.int (S 52 (Int32.ofInt 0).toNatClampNeg)), some (.int (S 52 (Int32.ofInt 1).toNatClampNeg)), some (.int (S 52 (Int32.ofInt 2).toNatClampNeg))]) (st' := [.int (Int32.ofInt 1)]) rfl rfl ?_
            exact hp_Ris rfl
          · refine hp_sN [150] (pc' := 150) (L' := [some (.ref 47), some (.int i1), some (.int (S 52 (Int32.ofInt 0).toNatClampNeg)), some (.int (S 52 (Int32.ofInt 1).toNatClampNeg)), some (.int (S 52 (Int32.ofInt 2).toNatClampNeg))]) (st' := [.int (Int32.ofInt 0)]) rfl rfl ?_
            exact hp_Ris rfl
  refine hp_sl (c := 105) (t := 204) rfl (by decide) (by decide) rfl (fun h7 => ?_) (fun h8 => ?_)
  · refine hp_sN [205, 206] (pc' := 206) (L' := [some (.ref 47), some (.int i1), some (.int (S 52 (Int32.ofInt 0).toNatClampNeg)), some (.int (S 52 (Int32.ofInt 1).toNatClampNeg)), some (.int (S 52 (Int32.ofInt 2).toNatClampNeg))]) (st' := [.int (S 52 (Int32.ofInt 0).toNatClampNeg), .ref 47]) rfl rfl ?_
    refine hp_iv (virt := true) (pc' := 209) (rv := some (.int (hq_76 S (S 52 (Int32.ofInt 0).toNatClampNeg)))) (M1 := hp_mem X (S)) rfl rfl (by decide) (hk_76 S ((S 52 (Int32.ofInt 0).toNatClampNeg))) rfl rfl ?_
    show hp_T _ 105 209 _ [.int (hq_76 S (S 52 (Int32.ofInt 0).toNatClampNeg))] _ _ _
    refine hp_if (pc' := 212) rfl rfl (fun h9 => ?_) (fun h9 => ?_)
    · refine hp_sN [215] (pc' := 215) (L' := [some (.ref 47), some (.int i1), some (.int (S 52 (Int32.ofInt 0).toNatClampNeg)), some (.int (S 52 (Int32.ofInt 1).toNatClampNeg)), some (.int (S 52 (Int32.ofInt 2).toNatClampNeg))]) (st' := [.ref 47]) rfl rfl ?_
      refine hp_gf (pc' := 218) rfl (by decide) (hp_c47 X _) rfl rfl ?_
      refine hp_sN [219, 220] (pc' := 220) (L' := [some (.ref 47), some (.int i1), some (.int (S 52 (Int32.ofInt 0).toNatClampNeg)), some (.int (S 52 (Int32.ofInt 1).toNatClampNeg)), some (.int (S 52 (Int32.ofInt 2).toNatClampNeg))]) (st' := [.int (Int32.ofInt 2), .int (S 52 (Int32.ofInt 0).toNatClampNeg), .ref 48]) rfl rfl ?_
      refine hp_iv (virt := false) (pc' := 223) (rv := some (.int (hq_74 S (S 52 (Int32.ofInt 0).toNatClampNeg) (Int32.ofInt 2)))) (M1 := hp_mem X (S)) rfl rfl (by decide) (hk_74 S ((S 52 (Int32.ofInt 0).toNatClampNeg)) ((Int32.ofInt 2))) rfl rfl ?_
      show hp_T _ 105 223 _ [.int (hq_74 S (S 52 (Int32.ofInt 0).toNatClampNeg) (Int32.ofInt 2)), .ref 48] _ _ _
      refine hp_sN [224] (pc' := 224) (L' := [some (.ref 47), some (.int i1), some (.int (S 52 (Int32.ofInt 0).toNatClampNeg)), some (.int (S 52 (Int32.ofInt 1).toNatClampNeg)), some (.int (S 52 (Int32.ofInt 2).toNatClampNeg))]) (st' := [.int (S 52 (Int32.ofInt 1).toNatClampNeg), .int (hq_74 S (S 52 (Int32.ofInt 0).toNatClampNeg) (Int32.ofInt 2)), .ref 48]) rfl rfl ?_
      refine hp_asg (pc' := 225) rfl (hp_cl (Or.inl rfl)) (fun _ => (hp_cc (Or.inl rfl) X _)) rfl ?_
      refine hp_sN [226] (pc' := 226) (L' := [some (.ref 47), some (.int i1), some (.int (S 52 (Int32.ofInt 0).toNatClampNeg)), some (.int (S 52 (Int32.ofInt 1).toNatClampNeg)), some (.int (S 52 (Int32.ofInt 2).toNatClampNeg))]) (st' := [.int (Int32.ofInt 1)]) rfl rfl ?_
      exact hp_Ris rfl
    · refine hp_sN [213] (pc' := 213) (L' := [some (.ref 47), some (.int i1), some (.int (S 52 (Int32.ofInt 0).toNatClampNeg)), some (.int (S 52 (Int32.ofInt 1).toNatClampNeg)), some (.int (S 52 (Int32.ofInt 2).toNatClampNeg))]) (st' := [.int (Int32.ofInt 0)]) rfl rfl ?_
      exact hp_Ris rfl
  refine hp_sl (c := 108) (t := 181) rfl (by decide) (by decide) rfl (fun h10 => ?_) (fun h11 => ?_)
  · refine hp_sN [182] (pc' := 182) (L' := [some (.ref 47), some (.int i1), some (.int (S 52 (Int32.ofInt 0).toNatClampNeg)), some (.int (S 52 (Int32.ofInt 1).toNatClampNeg)), some (.int (S 52 (Int32.ofInt 2).toNatClampNeg))]) (st' := [.int (S 52 (Int32.ofInt 0).toNatClampNeg)]) rfl rfl ?_
    refine hp_iv (virt := false) (pc' := 185) (rv := some (.int (hq_78 S (S 52 (Int32.ofInt 0).toNatClampNeg)))) (M1 := hp_mem X (S)) rfl rfl (by decide) (hk_78 S ((S 52 (Int32.ofInt 0).toNatClampNeg))) rfl rfl ?_
    show hp_T _ 105 185 _ [.int (hq_78 S (S 52 (Int32.ofInt 0).toNatClampNeg))] _ _ _
    refine hp_if (pc' := 188) rfl rfl (fun h12 => ?_) (fun h12 => ?_)
    · refine hp_sN [191] (pc' := 191) (L' := [some (.ref 47), some (.int i1), some (.int (S 52 (Int32.ofInt 0).toNatClampNeg)), some (.int (S 52 (Int32.ofInt 1).toNatClampNeg)), some (.int (S 52 (Int32.ofInt 2).toNatClampNeg))]) (st' := [.ref 47]) rfl rfl ?_
      refine hp_gf (pc' := 194) rfl (by decide) (hp_c47 X _) rfl rfl ?_
      refine hp_sN [195, 196] (pc' := 196) (L' := [some (.ref 47), some (.int i1), some (.int (S 52 (Int32.ofInt 0).toNatClampNeg)), some (.int (S 52 (Int32.ofInt 1).toNatClampNeg)), some (.int (S 52 (Int32.ofInt 2).toNatClampNeg))]) (st' := [.int (Int32.ofInt 4), .ref 48, .int (Int32.ofInt 4), .ref 48]) rfl rfl ?_
      refine hp_al (pc' := 197) rfl (hp_cl (Or.inl rfl)) (hp_cc (Or.inl rfl) X _) rfl ?_
      refine hp_sN [198, 199, 200, 201] (pc' := 201) (L' := [some (.ref 47), some (.int i1), some (.int (S 52 (Int32.ofInt 0).toNatClampNeg)), some (.int (S 52 (Int32.ofInt 1).toNatClampNeg)), some (.int (S 52 (Int32.ofInt 2).toNatClampNeg))]) (st' := [.int ((S 48 (Int32.ofInt 4).toNatClampNeg) ^^^ ((Int32.ofInt 1) <<< ((S 52 (Int32.ofInt 0).toNatClampNeg) &&& 31))), .int (Int32.ofInt 4), .ref 48]) rfl rfl ?_
      refine hp_asg (pc' := 202) rfl (hp_cl (Or.inl rfl)) (fun _ => (hp_cc (Or.inl rfl) X _)) rfl ?_
      refine hp_sN [203] (pc' := 203) (L' := [some (.ref 47), some (.int i1), some (.int (S 52 (Int32.ofInt 0).toNatClampNeg)), some (.int (S 52 (Int32.ofInt 1).toNatClampNeg)), some (.int (S 52 (Int32.ofInt 2).toNatClampNeg))]) (st' := [.int (Int32.ofInt 1)]) rfl rfl ?_
      exact hp_Ris rfl
    · refine hp_sN [189] (pc' := 189) (L' := [some (.ref 47), some (.int i1), some (.int (S 52 (Int32.ofInt 0).toNatClampNeg)), some (.int (S 52 (Int32.ofInt 1).toNatClampNeg)), some (.int (S 52 (Int32.ofInt 2).toNatClampNeg))]) (st' := [.int (Int32.ofInt 0)]) rfl rfl ?_
      exact hp_Ris rfl
  refine hp_sl (c := 112) (t := 72) rfl (by decide) (by decide) rfl (fun h13 => ?_) (fun h14 => ?_)
  · refine hp_sN [73] (pc' := 73) (L' := [some (.ref 47), some (.int i1), some (.int (S 52 (Int32.ofInt 0).toNatClampNeg)), some (.int (S 52 (Int32.ofInt 1).toNatClampNeg)), some (.int (S 52 (Int32.ofInt 2).toNatClampNeg))]) (st' := [.int (S 52 (Int32.ofInt 0).toNatClampNeg)]) rfl rfl ?_
    refine hp_iv (virt := false) (pc' := 76) (rv := some (.int (hq_78 S (S 52 (Int32.ofInt 0).toNatClampNeg)))) (M1 := hp_mem X (S)) rfl rfl (by decide) (hk_78 S ((S 52 (Int32.ofInt 0).toNatClampNeg))) rfl rfl ?_
    show hp_T _ 105 76 _ [.int (hq_78 S (S 52 (Int32.ofInt 0).toNatClampNeg))] _ _ _
    refine hp_if (pc' := 79) rfl rfl (fun h15 => ?_) (fun h15 => ?_)
    · refine hp_sN [100] (pc' := 100) (L' := [some (.ref 47), some (.int i1), some (.int (S 52 (Int32.ofInt 0).toNatClampNeg)), some (.int (S 52 (Int32.ofInt 1).toNatClampNeg)), some (.int (S 52 (Int32.ofInt 2).toNatClampNeg))]) (st' := [.int (Int32.ofInt 0)]) rfl rfl ?_
      exact hp_Ris rfl
    · refine hp_sN [80, 81, 82] (pc' := 82) (L' := [some (.ref 47), some (.int i1), some (.int (S 52 (Int32.ofInt 0).toNatClampNeg)), some (.int (S 52 (Int32.ofInt 1).toNatClampNeg)), some (.int (S 52 (Int32.ofInt 2).toNatClampNeg))]) (st' := [.int (Int32.ofInt 5), .int (Int32.ofInt 1), .int (S 52 (Int32.ofInt 1).toNatClampNeg)]) rfl rfl ?_
      refine hp_iv (virt := false) (pc' := 85) (rv := some (.int (hq_70 S (S 52 (Int32.ofInt 1).toNatClampNeg) (Int32.ofInt 1) (Int32.ofInt 5)))) (M1 := hp_mem X (S)) rfl rfl (by decide) (hk_70 S ((S 52 (Int32.ofInt 1).toNatClampNeg)) ((Int32.ofInt 1)) ((Int32.ofInt 5))) rfl rfl ?_
      show hp_T _ 105 85 _ [.int (hq_70 S (S 52 (Int32.ofInt 1).toNatClampNeg) (Int32.ofInt 1) (Int32.ofInt 5))] _ _ _
      refine hp_if (pc' := 88) rfl rfl (fun h16 => ?_) (fun h16 => ?_)
      · refine hp_sN [100] (pc' := 100) (L' := [some (.ref 47), some (.int i1), some (.int (S 52 (Int32.ofInt 0).toNatClampNeg)), some (.int (S 52 (Int32.ofInt 1).toNatClampNeg)), some (.int (S 52 (Int32.ofInt 2).toNatClampNeg))]) (st' := [.int (Int32.ofInt 0)]) rfl rfl ?_
        exact hp_Ris rfl
      · refine hp_sN [89] (pc' := 89) (L' := [some (.ref 47), some (.int i1), some (.int (S 52 (Int32.ofInt 0).toNatClampNeg)), some (.int (S 52 (Int32.ofInt 1).toNatClampNeg)), some (.int (S 52 (Int32.ofInt 2).toNatClampNeg))]) (st' := [.ref 47]) rfl rfl ?_
        refine hp_gf (pc' := 92) rfl (by decide) (hp_c47 X _) rfl rfl ?_
        refine hp_sN [93] (pc' := 93) (L' := [some (.ref 47), some (.int i1), some (.int (S 52 (Int32.ofInt 0).toNatClampNeg)), some (.int (S 52 (Int32.ofInt 1).toNatClampNeg)), some (.int (S 52 (Int32.ofInt 2).toNatClampNeg))]) (st' := [.int (Int32.ofInt 0), .ref 48]) rfl rfl ?_
        refine hp_al (pc' := 94) rfl (hp_cl (Or.inl rfl)) (hp_cc (Or.inl rfl) X _) rfl ?_
        refine hp_sN [96] (pc' := 96) (L' := [some (.ref 47), some (.int i1), some (.int (S 52 (Int32.ofInt 0).toNatClampNeg)), some (.int (S 52 (Int32.ofInt 1).toNatClampNeg)), some (.int (S 52 (Int32.ofInt 2).toNatClampNeg))]) (st' := [.int (Int32.ofInt 6), .int (S 48 (Int32.ofInt 0).toNatClampNeg)]) rfl rfl ?_
        refine hp_ic (pc' := 99) rfl rfl (fun h17 => ?_) (fun h17 => ?_)
        · refine hp_sN [102, 103, 104] (pc' := 104) (L' := [some (.ref 47), some (.int i1), some (.int (S 52 (Int32.ofInt 0).toNatClampNeg)), some (.int (S 52 (Int32.ofInt 1).toNatClampNeg)), some (.int (S 52 (Int32.ofInt 2).toNatClampNeg))]) (st' := [.int (S 52 (Int32.ofInt 1).toNatClampNeg), .int (S 52 (Int32.ofInt 0).toNatClampNeg), .ref 47]) rfl rfl ?_
          refine hp_iv (virt := true) (pc' := 107) (rv := none) (M1 := hp_mem X (hq_103 S (S 52 (Int32.ofInt 0).toNatClampNeg) (S 52 (Int32.ofInt 1).toNatClampNeg))) rfl rfl (by decide) (hk_103 S ((S 52 (Int32.ofInt 0).toNatClampNeg)) ((S 52 (Int32.ofInt 1).toNatClampNeg))) rfl rfl ?_
          show hp_T _ 105 107 _ [] _ _ _
          refine hp_sN [108] (pc' := 108) (L' := [some (.ref 47), some (.int i1), some (.int (S 52 (Int32.ofInt 0).toNatClampNeg)), some (.int (S 52 (Int32.ofInt 1).toNatClampNeg)), some (.int (S 52 (Int32.ofInt 2).toNatClampNeg))]) (st' := [.int (Int32.ofInt 1)]) rfl rfl ?_
          exact hp_Ris rfl
        · refine hp_sN [100] (pc' := 100) (L' := [some (.ref 47), some (.int i1), some (.int (S 52 (Int32.ofInt 0).toNatClampNeg)), some (.int (S 52 (Int32.ofInt 1).toNatClampNeg)), some (.int (S 52 (Int32.ofInt 2).toNatClampNeg))]) (st' := [.int (Int32.ofInt 0)]) rfl rfl ?_
          exact hp_Ris rfl
  refine hp_sl (c := 119) (t := 161) rfl (by decide) (by decide) rfl (fun h18 => ?_) (fun h19 => ?_)
  · refine hp_sN [162, 164] (pc' := 164) (L' := [some (.ref 47), some (.int i1), some (.int (S 52 (Int32.ofInt 0).toNatClampNeg)), some (.int (S 52 (Int32.ofInt 1).toNatClampNeg)), some (.int (S 52 (Int32.ofInt 2).toNatClampNeg))]) (st' := [.int (Int32.ofInt 24), .int (S 52 (Int32.ofInt 0).toNatClampNeg)]) rfl rfl ?_
    refine hp_ic (pc' := 167) rfl rfl (fun h20 => ?_) (fun h20 => ?_)
    · refine hp_sN [170] (pc' := 170) (L' := [some (.ref 47), some (.int i1), some (.int (S 52 (Int32.ofInt 0).toNatClampNeg)), some (.int (S 52 (Int32.ofInt 1).toNatClampNeg)), some (.int (S 52 (Int32.ofInt 2).toNatClampNeg))]) (st' := [.ref 47]) rfl rfl ?_
      refine hp_gf (pc' := 173) rfl (by decide) (hp_c47 X _) rfl rfl ?_
      refine hp_sN [175, 176, 177, 178] (pc' := 178) (L' := [some (.ref 47), some (.int i1), some (.int (S 52 (Int32.ofInt 0).toNatClampNeg)), some (.int (S 52 (Int32.ofInt 1).toNatClampNeg)), some (.int (S 52 (Int32.ofInt 2).toNatClampNeg))]) (st' := [.int (S 52 (Int32.ofInt 1).toNatClampNeg), .int ((Int32.ofInt 6) + (S 52 (Int32.ofInt 0).toNatClampNeg)), .ref 48]) rfl rfl ?_
      refine hp_asg (pc' := 179) rfl (hp_cl (Or.inl rfl)) (fun _ => (hp_cc (Or.inl rfl) X _)) rfl ?_
      refine hp_sN [180] (pc' := 180) (L' := [some (.ref 47), some (.int i1), some (.int (S 52 (Int32.ofInt 0).toNatClampNeg)), some (.int (S 52 (Int32.ofInt 1).toNatClampNeg)), some (.int (S 52 (Int32.ofInt 2).toNatClampNeg))]) (st' := [.int (Int32.ofInt 1)]) rfl rfl ?_
      exact hp_Ris rfl
    · refine hp_sN [168] (pc' := 168) (L' := [some (.ref 47), some (.int i1), some (.int (S 52 (Int32.ofInt 0).toNatClampNeg)), some (.int (S 52 (Int32.ofInt 1).toNatClampNeg)), some (.int (S 52 (Int32.ofInt 2).toNatClampNeg))]) (st' := [.int (Int32.ofInt 0)]) rfl rfl ?_
      exact hp_Ris rfl
  refine hp_lk (t := 227) rfl (by decide) (by simp only [Op.lookupswitch.offset_cons, Op.lookupswitch.offset_nil, if_neg (Ne.symm h2), if_neg (Ne.symm h8), if_neg (Ne.symm h11), if_neg (Ne.symm h14), if_neg (Ne.symm h19)]) rfl ?_
  refine hp_sN [228, 229, 231] (pc' := 231) (L' := [some (.ref 47), some (.int i1), some (.int (S 52 (Int32.ofInt 0).toNatClampNeg)), some (.int (S 52 (Int32.ofInt 1).toNatClampNeg)), some (.int (S 52 (Int32.ofInt 2).toNatClampNeg))]) (st' := [.int (Int32.ofInt 60), .int (Int32.ofInt 1), .int (S 52 (Int32.ofInt 0).toNatClampNeg)]) rfl rfl ?_
  refine hp_iv (virt := false) (pc' := 234) (rv := some (.int (hq_70 S (S 52 (Int32.ofInt 0).toNatClampNeg) (Int32.ofInt 1) (Int32.ofInt 60)))) (M1 := hp_mem X (S)) rfl rfl (by decide) (hk_70 S ((S 52 (Int32.ofInt 0).toNatClampNeg)) ((Int32.ofInt 1)) ((Int32.ofInt 60))) rfl rfl ?_
  show hp_T _ 105 234 _ [.int (hq_70 S (S 52 (Int32.ofInt 0).toNatClampNeg) (Int32.ofInt 1) (Int32.ofInt 60))] _ _ _
  refine hp_if (pc' := 237) rfl rfl (fun h21 => ?_) (fun h21 => ?_)
  · refine hp_sN [249] (pc' := 249) (L' := [some (.ref 47), some (.int i1), some (.int (S 52 (Int32.ofInt 0).toNatClampNeg)), some (.int (S 52 (Int32.ofInt 1).toNatClampNeg)), some (.int (S 52 (Int32.ofInt 2).toNatClampNeg))]) (st' := [.int (Int32.ofInt 0)]) rfl rfl ?_
    exact hp_Ris rfl
  · refine hp_sN [238] (pc' := 238) (L' := [some (.ref 47), some (.int i1), some (.int (S 52 (Int32.ofInt 0).toNatClampNeg)), some (.int (S 52 (Int32.ofInt 1).toNatClampNeg)), some (.int (S 52 (Int32.ofInt 2).toNatClampNeg))]) (st' := [.ref 47]) rfl rfl ?_
    refine hp_gf (pc' := 241) rfl (by decide) (hp_c47 X _) rfl rfl ?_
    refine hp_sN [242] (pc' := 242) (L' := [some (.ref 47), some (.int i1), some (.int (S 52 (Int32.ofInt 0).toNatClampNeg)), some (.int (S 52 (Int32.ofInt 1).toNatClampNeg)), some (.int (S 52 (Int32.ofInt 2).toNatClampNeg))]) (st' := [.int (S 52 (Int32.ofInt 0).toNatClampNeg), .ref 48]) rfl rfl ?_
    refine hp_iv (virt := false) (pc' := 245) (rv := some (.int (hq_95 S 48 (S 52 (Int32.ofInt 0).toNatClampNeg)))) (M1 := hp_mem X (S)) rfl rfl (by decide) (hk_95 (Or.inl rfl) S ((S 52 (Int32.ofInt 0).toNatClampNeg))) rfl rfl ?_
    show hp_T _ 105 245 _ [.int (hq_95 S 48 (S 52 (Int32.ofInt 0).toNatClampNeg))] _ _ _
    refine hp_if (pc' := 248) rfl rfl (fun h22 => ?_) (fun h22 => ?_)
    · refine hp_sN [251] (pc' := 251) (L' := [some (.ref 47), some (.int i1), some (.int (S 52 (Int32.ofInt 0).toNatClampNeg)), some (.int (S 52 (Int32.ofInt 1).toNatClampNeg)), some (.int (S 52 (Int32.ofInt 2).toNatClampNeg))]) (st' := [.ref 47]) rfl rfl ?_
      refine hp_gf (pc' := 254) rfl (by decide) (hp_c47 X _) rfl rfl ?_
      refine hp_sN [255] (pc' := 255) (L' := [some (.ref 47), some (.int i1), some (.int (S 52 (Int32.ofInt 0).toNatClampNeg)), some (.int (S 52 (Int32.ofInt 1).toNatClampNeg)), some (.int (S 52 (Int32.ofInt 2).toNatClampNeg))]) (st' := [.int (S 52 (Int32.ofInt 0).toNatClampNeg), .ref 48]) rfl rfl ?_
      refine hp_iv (virt := false) (pc' := 258) (rv := none) (M1 := hp_mem X (hq_94 S 48 (S 52 (Int32.ofInt 0).toNatClampNeg))) rfl rfl (by decide) (hk_94 (Or.inl rfl) S ((S 52 (Int32.ofInt 0).toNatClampNeg))) rfl rfl ?_
      show hp_T _ 105 258 _ [] _ _ _
      refine hp_sN [259] (pc' := 259) (L' := [some (.ref 47), some (.int i1), some (.int (S 52 (Int32.ofInt 0).toNatClampNeg)), some (.int (S 52 (Int32.ofInt 1).toNatClampNeg)), some (.int (S 52 (Int32.ofInt 2).toNatClampNeg))]) (st' := [.int (Int32.ofInt 1)]) rfl rfl ?_
      exact hp_Ris rfl
    · refine hp_sN [249] (pc' := 249) (L' := [some (.ref 47), some (.int i1), some (.int (S 52 (Int32.ofInt 0).toNatClampNeg)), some (.int (S 52 (Int32.ofInt 1).toNatClampNeg)), some (.int (S 52 (Int32.ofInt 2).toNatClampNeg))]) (st' := [.int (Int32.ofInt 0)]) rfl rfl ?_
      exact hp_Ris rfl
theorem hk_105 {X : hp_X} (S : hp_S) (i1 : Int32) : hp_K 105 [.ref 47, .int i1] (hp_mem X S) (hp_is X) (hq_105 S i1) := by
  refine hp_mk (q := hzq_105) rfl (by decide) (L := [some (.ref 47), some (.int i1), none, none, none]) rfl (fun n => ?_)
  exact ht_105 S i1 n
/-! 107: HatsOfTheWindModel.hat(II)I -/
def hq_107 (S : hp_S) (i1 : Int32) (i2 : Int32) : Int32 := (if hz_cmp .eq (hq_77 S i1) 0 = true then (Int32.ofInt (-1)) else (if hz_cmp .ne (hq_70 S i2 (Int32.ofInt 0) (Int32.ofInt 5)) 0 = true then (if i2 = (Int32.ofInt 3) then (hq_87 S 48 i1) else (if i2 = (Int32.ofInt 4) then (hq_81 S (S 48 (hq_75 S i1 (Int32.ofInt 0)).toNatClampNeg) (S 48 (hq_75 S i1 (Int32.ofInt 1)).toNatClampNeg)) else (if i2 = (Int32.ofInt 5) then (hq_99 S 48 i1) else (S 48 (hq_75 S i1 i2).toNatClampNeg)))) else (Int32.ofInt (-1))))
set_option maxRecDepth 10000 in
theorem ht_107 {X : hp_X} (S : hp_S) (i1 : Int32) (i2 : Int32) (n : Nat) : hp_T n 107 0 [some (.ref 47), some (.int i1), some (.int i2)] [] (hp_mem X S) (hp_i X S) (hq_107 S i1 i2) := by
  unfold hq_107
  refine hp_sN [1, 2] (pc' := 2) (L' := [some (.ref 47), some (.int i1), some (.int i2)]) (st' := [.int i1, .ref 47]) rfl rfl ?_
  refine hp_iv (virt := true) (pc' := 5) (rv := some (.int (hq_77 S i1))) (M1 := hp_mem X (S)) rfl rfl (by decide) (hk_77 S (i1)) rfl rfl ?_
  show hp_T _ 107 5 _ [.int (hq_77 S i1)] _ _ _
  refine hp_if (pc' := 8) rfl rfl (fun h1 => ?_) (fun h1 => ?_)
  · refine hp_sN [18] (pc' := 18) (L' := [some (.ref 47), some (.int i1), some (.int i2)]) (st' := [.int (Int32.ofInt (-1))]) rfl rfl ?_
    exact hp_Ri rfl
  · refine hp_sN [9, 10, 11] (pc' := 11) (L' := [some (.ref 47), some (.int i1), some (.int i2)]) (st' := [.int (Int32.ofInt 5), .int (Int32.ofInt 0), .int i2]) rfl rfl ?_
    refine hp_iv (virt := false) (pc' := 14) (rv := some (.int (hq_70 S i2 (Int32.ofInt 0) (Int32.ofInt 5)))) (M1 := hp_mem X (S)) rfl rfl (by decide) (hk_70 S (i2) ((Int32.ofInt 0)) ((Int32.ofInt 5))) rfl rfl ?_
    show hp_T _ 107 14 _ [.int (hq_70 S i2 (Int32.ofInt 0) (Int32.ofInt 5))] _ _ _
    refine hp_if (pc' := 17) rfl rfl (fun h2 => ?_) (fun h2 => ?_)
    · refine hp_sN [20] (pc' := 20) (L' := [some (.ref 47), some (.int i1), some (.int i2)]) (st' := [.int i2]) rfl rfl ?_
      refine hp_st (c := 3) (t := 48) rfl (by decide) (by decide) rfl (fun h3 => ?_) (fun h4 => ?_)
      · refine hp_sN [49] (pc' := 49) (L' := [some (.ref 47), some (.int i1), some (.int i2)]) (st' := [.ref 47]) rfl rfl ?_
        refine hp_gf (pc' := 52) rfl (by decide) (hp_c47 X _) rfl rfl ?_
        refine hp_sN [53] (pc' := 53) (L' := [some (.ref 47), some (.int i1), some (.int i2)]) (st' := [.int i1, .ref 48]) rfl rfl ?_
        refine hp_iv (virt := false) (pc' := 56) (rv := some (.int (hq_87 S 48 i1))) (M1 := hp_mem X (S)) rfl rfl (by decide) (hk_87 (Or.inl rfl) S (i1)) rfl rfl ?_
        show hp_T _ 107 56 _ [.int (hq_87 S 48 i1)] _ _ _
        exact hp_Ri rfl
      refine hp_st (c := 4) (t := 57) rfl (by decide) (by decide) rfl (fun h5 => ?_) (fun h6 => ?_)
      · refine hp_sN [58] (pc' := 58) (L' := [some (.ref 47), some (.int i1), some (.int i2)]) (st' := [.ref 47]) rfl rfl ?_
        refine hp_gf (pc' := 61) rfl (by decide) (hp_c47 X _) rfl rfl ?_
        refine hp_sN [62, 63] (pc' := 63) (L' := [some (.ref 47), some (.int i1), some (.int i2)]) (st' := [.int (Int32.ofInt 0), .int i1, .ref 48]) rfl rfl ?_
        refine hp_iv (virt := false) (pc' := 66) (rv := some (.int (hq_75 S i1 (Int32.ofInt 0)))) (M1 := hp_mem X (S)) rfl rfl (by decide) (hk_75 S (i1) ((Int32.ofInt 0))) rfl rfl ?_
        show hp_T _ 107 66 _ [.int (hq_75 S i1 (Int32.ofInt 0)), .ref 48] _ _ _
        refine hp_al (pc' := 67) rfl (hp_cl (Or.inl rfl)) (hp_cc (Or.inl rfl) X _) rfl ?_
        refine hp_sN [68] (pc' := 68) (L' := [some (.ref 47), some (.int i1), some (.int i2)]) (st' := [.ref 47, .int (S 48 (hq_75 S i1 (Int32.ofInt 0)).toNatClampNeg)]) rfl rfl ?_
        refine hp_gf (pc' := 71) rfl (by decide) (hp_c47 X _) rfl rfl ?_
        refine hp_sN [72, 73] (pc' := 73) (L' := [some (.ref 47), some (.int i1), some (.int i2)]) (st' := [.int (Int32.ofInt 1), .int i1, .ref 48, .int (S 48 (hq_75 S i1 (Int32.ofInt 0)).toNatClampNeg)]) rfl rfl ?_
        refine hp_iv (virt := false) (pc' := 76) (rv := some (.int (hq_75 S i1 (Int32.ofInt 1)))) (M1 := hp_mem X (S)) rfl rfl (by decide) (hk_75 S (i1) ((Int32.ofInt 1))) rfl rfl ?_
        show hp_T _ 107 76 _ [.int (hq_75 S i1 (Int32.ofInt 1)), .ref 48, .int (S 48 (hq_75 S i1 (Int32.ofInt 0)).toNatClampNeg)] _ _ _
        refine hp_al (pc' := 77) rfl (hp_cl (Or.inl rfl)) (hp_cc (Or.inl rfl) X _) rfl ?_
        refine hp_iv (virt := false) (pc' := 80) (rv := some (.int (hq_81 S (S 48 (hq_75 S i1 (Int32.ofInt 0)).toNatClampNeg) (S 48 (hq_75 S i1 (Int32.ofInt 1)).toNatClampNeg)))) (M1 := hp_mem X (S)) rfl rfl (by decide) (hk_81 S ((S 48 (hq_75 S i1 (Int32.ofInt 0)).toNatClampNeg)) ((S 48 (hq_75 S i1 (Int32.ofInt 1)).toNatClampNeg))) rfl rfl ?_
        show hp_T _ 107 80 _ [.int (hq_81 S (S 48 (hq_75 S i1 (Int32.ofInt 0)).toNatClampNeg) (S 48 (hq_75 S i1 (Int32.ofInt 1)).toNatClampNeg))] _ _ _
        exact hp_Ri rfl
      refine hp_st (c := 5) (t := 81) rfl (by decide) (by decide) rfl (fun h7 => ?_) (fun h8 => ?_)
      · refine hp_sN [82] (pc' := 82) (L' := [some (.ref 47), some (.int i1), some (.int i2)]) (st' := [.ref 47]) rfl rfl ?_
        refine hp_gf (pc' := 85) rfl (by decide) (hp_c47 X _) rfl rfl ?_
        refine hp_sN [86] (pc' := 86) (L' := [some (.ref 47), some (.int i1), some (.int i2)]) (st' := [.int i1, .ref 48]) rfl rfl ?_
        refine hp_iv (virt := false) (pc' := 89) (rv := some (.int (hq_99 S 48 i1))) (M1 := hp_mem X (S)) rfl rfl (by decide) (hk_99 (Or.inl rfl) S (i1)) rfl rfl ?_
        show hp_T _ 107 89 _ [.int (hq_99 S 48 i1)] _ _ _
        exact hp_Ri rfl
      refine hp_td (t := 90) [3, 4, 5] rfl rfl rfl (by decide) (fun c q => ?_) ?_
      · simp only [List.mem_cons, List.not_mem_nil, or_false] at q
        omega
      refine hp_sN [91] (pc' := 91) (L' := [some (.ref 47), some (.int i1), some (.int i2)]) (st' := [.ref 47]) rfl rfl ?_
      refine hp_gf (pc' := 94) rfl (by decide) (hp_c47 X _) rfl rfl ?_
      refine hp_sN [95, 96] (pc' := 96) (L' := [some (.ref 47), some (.int i1), some (.int i2)]) (st' := [.int i2, .int i1, .ref 48]) rfl rfl ?_
      refine hp_iv (virt := false) (pc' := 99) (rv := some (.int (hq_75 S i1 i2))) (M1 := hp_mem X (S)) rfl rfl (by decide) (hk_75 S (i1) (i2)) rfl rfl ?_
      show hp_T _ 107 99 _ [.int (hq_75 S i1 i2), .ref 48] _ _ _
      refine hp_al (pc' := 100) rfl (hp_cl (Or.inl rfl)) (hp_cc (Or.inl rfl) X _) rfl ?_
      exact hp_Ri rfl
    · refine hp_sN [18] (pc' := 18) (L' := [some (.ref 47), some (.int i1), some (.int i2)]) (st' := [.int (Int32.ofInt (-1))]) rfl rfl ?_
      exact hp_Ri rfl
theorem hk_107 {X : hp_X} (S : hp_S) (i1 : Int32) (i2 : Int32) : hp_K 107 [.ref 47, .int i1, .int i2] (hp_mem X S) (hp_i X S) (hq_107 S i1 i2) := by
  refine hp_mk (q := hzq_107) rfl (by decide) (L := [some (.ref 47), some (.int i1), some (.int i2)]) rfl (fun n => ?_)
  exact ht_107 S i1 i2 n
/-! 108: HatsOfTheWindModel.person(II)I -/
def hq_108 (S : hp_S) (i1 : Int32) (i2 : Int32) : Int32 := (if hz_cmp .eq (hq_76 S i1) 0 = true then (Int32.ofInt (-1)) else (if hz_cmp .ne (hq_70 S i2 (Int32.ofInt 0) (Int32.ofInt 3)) 0 = true then (if hz_cmp .ne i2 (Int32.ofInt 3) = true then (S 48 (hq_74 S i1 i2).toNatClampNeg) else (hq_88 S 48 i1)) else (Int32.ofInt (-1))))
set_option maxRecDepth 10000 in
theorem ht_108 {X : hp_X} (S : hp_S) (i1 : Int32) (i2 : Int32) (n : Nat) : hp_T n 108 0 [some (.ref 47), some (.int i1), some (.int i2)] [] (hp_mem X S) (hp_i X S) (hq_108 S i1 i2) := by
  unfold hq_108
  refine hp_sN [1, 2] (pc' := 2) (L' := [some (.ref 47), some (.int i1), some (.int i2)]) (st' := [.int i1, .ref 47]) rfl rfl ?_
  refine hp_iv (virt := true) (pc' := 5) (rv := some (.int (hq_76 S i1))) (M1 := hp_mem X (S)) rfl rfl (by decide) (hk_76 S (i1)) rfl rfl ?_
  show hp_T _ 108 5 _ [.int (hq_76 S i1)] _ _ _
  refine hp_if (pc' := 8) rfl rfl (fun h1 => ?_) (fun h1 => ?_)
  · refine hp_sN [18] (pc' := 18) (L' := [some (.ref 47), some (.int i1), some (.int i2)]) (st' := [.int (Int32.ofInt (-1))]) rfl rfl ?_
    exact hp_Ri rfl
  · refine hp_sN [9, 10, 11] (pc' := 11) (L' := [some (.ref 47), some (.int i1), some (.int i2)]) (st' := [.int (Int32.ofInt 3), .int (Int32.ofInt 0), .int i2]) rfl rfl ?_
    refine hp_iv (virt := false) (pc' := 14) (rv := some (.int (hq_70 S i2 (Int32.ofInt 0) (Int32.ofInt 3)))) (M1 := hp_mem X (S)) rfl rfl (by decide) (hk_70 S (i2) ((Int32.ofInt 0)) ((Int32.ofInt 3))) rfl rfl ?_
    show hp_T _ 108 14 _ [.int (hq_70 S i2 (Int32.ofInt 0) (Int32.ofInt 3))] _ _ _
    refine hp_if (pc' := 17) rfl rfl (fun h2 => ?_) (fun h2 => ?_)
    · refine hp_sN [20, 21] (pc' := 21) (L' := [some (.ref 47), some (.int i1), some (.int i2)]) (st' := [.int (Int32.ofInt 3), .int i2]) rfl rfl ?_
      refine hp_ic (pc' := 24) rfl rfl (fun h3 => ?_) (fun h3 => ?_)
      · refine hp_sN [36] (pc' := 36) (L' := [some (.ref 47), some (.int i1), some (.int i2)]) (st' := [.ref 47]) rfl rfl ?_
        refine hp_gf (pc' := 39) rfl (by decide) (hp_c47 X _) rfl rfl ?_
        refine hp_sN [40, 41] (pc' := 41) (L' := [some (.ref 47), some (.int i1), some (.int i2)]) (st' := [.int i2, .int i1, .ref 48]) rfl rfl ?_
        refine hp_iv (virt := false) (pc' := 44) (rv := some (.int (hq_74 S i1 i2))) (M1 := hp_mem X (S)) rfl rfl (by decide) (hk_74 S (i1) (i2)) rfl rfl ?_
        show hp_T _ 108 44 _ [.int (hq_74 S i1 i2), .ref 48] _ _ _
        refine hp_al (pc' := 45) rfl (hp_cl (Or.inl rfl)) (hp_cc (Or.inl rfl) X _) rfl ?_
        exact hp_Ri rfl
      · refine hp_sN [25] (pc' := 25) (L' := [some (.ref 47), some (.int i1), some (.int i2)]) (st' := [.ref 47]) rfl rfl ?_
        refine hp_gf (pc' := 28) rfl (by decide) (hp_c47 X _) rfl rfl ?_
        refine hp_sN [29] (pc' := 29) (L' := [some (.ref 47), some (.int i1), some (.int i2)]) (st' := [.int i1, .ref 48]) rfl rfl ?_
        refine hp_iv (virt := false) (pc' := 32) (rv := some (.int (hq_88 S 48 i1))) (M1 := hp_mem X (S)) rfl rfl (by decide) (hk_88 (Or.inl rfl) S (i1)) rfl rfl ?_
        show hp_T _ 108 32 _ [.int (hq_88 S 48 i1)] _ _ _
        refine hp_sN [45] (pc' := 45) (L' := [some (.ref 47), some (.int i1), some (.int i2)]) (st' := [.int (hq_88 S 48 i1)]) rfl rfl ?_
        exact hp_Ri rfl
    · refine hp_sN [18] (pc' := 18) (L' := [some (.ref 47), some (.int i1), some (.int i2)]) (st' := [.int (Int32.ofInt (-1))]) rfl rfl ?_
      exact hp_Ri rfl
theorem hk_108 {X : hp_X} (S : hp_S) (i1 : Int32) (i2 : Int32) : hp_K 108 [.ref 47, .int i1, .int i2] (hp_mem X S) (hp_i X S) (hq_108 S i1 i2) := by
  refine hp_mk (q := hzq_108) rfl (by decide) (L := [some (.ref 47), some (.int i1), some (.int i2)]) rfl (fun n => ?_)
  exact ht_108 S i1 i2 n
/-! 109: HatsOfTheWindModel.wind(I)I -/
def hq_109 (S : hp_S) (i1 : Int32) : Int32 := (if hz_cmp .eq (hq_70 S i1 (Int32.ofInt 0) (Int32.ofInt 23)) 0 = true then (Int32.ofInt (-1)) else (S 48 ((Int32.ofInt 6) + i1).toNatClampNeg))
set_option maxRecDepth 10000 in
theorem ht_109 {X : hp_X} (S : hp_S) (i1 : Int32) (n : Nat) : hp_T n 109 0 [some (.ref 47), some (.int i1)] [] (hp_mem X S) (hp_i X S) (hq_109 S i1) := by
  unfold hq_109
  refine hp_sN [1, 2, 4] (pc' := 4) (L' := [some (.ref 47), some (.int i1)]) (st' := [.int (Int32.ofInt 23), .int (Int32.ofInt 0), .int i1]) rfl rfl ?_
  refine hp_iv (virt := false) (pc' := 7) (rv := some (.int (hq_70 S i1 (Int32.ofInt 0) (Int32.ofInt 23)))) (M1 := hp_mem X (S)) rfl rfl (by decide) (hk_70 S (i1) ((Int32.ofInt 0)) ((Int32.ofInt 23))) rfl rfl ?_
  show hp_T _ 109 7 _ [.int (hq_70 S i1 (Int32.ofInt 0) (Int32.ofInt 23))] _ _ _
  refine hp_if (pc' := 10) rfl rfl (fun h1 => ?_) (fun h1 => ?_)
  · refine hp_sN [23] (pc' := 23) (L' := [some (.ref 47), some (.int i1)]) (st' := [.int (Int32.ofInt (-1))]) rfl rfl ?_
    exact hp_Ri rfl
  · refine hp_sN [11] (pc' := 11) (L' := [some (.ref 47), some (.int i1)]) (st' := [.ref 47]) rfl rfl ?_
    refine hp_gf (pc' := 14) rfl (by decide) (hp_c47 X _) rfl rfl ?_
    refine hp_sN [16, 17, 18] (pc' := 18) (L' := [some (.ref 47), some (.int i1)]) (st' := [.int ((Int32.ofInt 6) + i1), .ref 48]) rfl rfl ?_
    refine hp_al (pc' := 19) rfl (hp_cl (Or.inl rfl)) (hp_cc (Or.inl rfl) X _) rfl ?_
    refine hp_sN [23] (pc' := 23) (L' := [some (.ref 47), some (.int i1)]) (st' := [.int (S 48 ((Int32.ofInt 6) + i1).toNatClampNeg)]) rfl rfl ?_
    exact hp_Ri rfl
theorem hk_109 {X : hp_X} (S : hp_S) (i1 : Int32) : hp_K 109 [.ref 47, .int i1] (hp_mem X S) (hp_i X S) (hq_109 S i1) := by
  refine hp_mk (q := hzq_109) rfl (by decide) (L := [some (.ref 47), some (.int i1)]) rfl (fun n => ?_)
  exact ht_109 S i1 n
/-! 110: HatsOfTheWindModel.comes(II)I -/
def hq_110 (S : hp_S) (i1 : Int32) (i2 : Int32) : Int32 × hp_S := (if hz_cmp .eq (hq_78 S i1) 0 = true then ((Int32.ofInt (-1)), S) else (if hz_cmp .ne (hq_70 S i2 (Int32.ofInt 1) (Int32.ofInt 5)) 0 = true then (if hz_cmp .ne (S 48 (Int32.ofInt 0).toNatClampNeg) (Int32.ofInt 6) = true then (((hq_103 S i1 i2 48 (Int32.ofInt 0).toNatClampNeg) - (Int32.ofInt 1)), hq_103 S i1 i2) else ((Int32.ofInt (-2)), S)) else ((Int32.ofInt (-1)), S)))
theorem hf_110 (S : hp_S) (i1 : Int32) (i2 : Int32) (j : Nat) (z0 : j ≠ 48) : (hq_110 S i1 i2).2 j = S j := by
  unfold hq_110
  repeat' split
  all_goals simp [hp_wo, hp_wgo, hp_cpo, hf_103, z0]
set_option maxRecDepth 10000 in
theorem ht_110 {X : hp_X} (S : hp_S) (i1 : Int32) (i2 : Int32) (n : Nat) : hp_T n 110 0 [some (.ref 47), some (.int i1), some (.int i2)] [] (hp_mem X S) (hp_is X) (hq_110 S i1 i2) := by
  unfold hq_110
  refine hp_sN [1] (pc' := 1) (L' := [some (.ref 47), some (.int i1), some (.int i2)]) (st' := [.int i1]) rfl rfl ?_
  refine hp_iv (virt := false) (pc' := 4) (rv := some (.int (hq_78 S i1))) (M1 := hp_mem X (S)) rfl rfl (by decide) (hk_78 S (i1)) rfl rfl ?_
  show hp_T _ 110 4 _ [.int (hq_78 S i1)] _ _ _
  refine hp_if (pc' := 7) rfl rfl (fun h1 => ?_) (fun h1 => ?_)
  · refine hp_sN [17] (pc' := 17) (L' := [some (.ref 47), some (.int i1), some (.int i2)]) (st' := [.int (Int32.ofInt (-1))]) rfl rfl ?_
    exact hp_Ris rfl
  · refine hp_sN [8, 9, 10] (pc' := 10) (L' := [some (.ref 47), some (.int i1), some (.int i2)]) (st' := [.int (Int32.ofInt 5), .int (Int32.ofInt 1), .int i2]) rfl rfl ?_
    refine hp_iv (virt := false) (pc' := 13) (rv := some (.int (hq_70 S i2 (Int32.ofInt 1) (Int32.ofInt 5)))) (M1 := hp_mem X (S)) rfl rfl (by decide) (hk_70 S (i2) ((Int32.ofInt 1)) ((Int32.ofInt 5))) rfl rfl ?_
    show hp_T _ 110 13 _ [.int (hq_70 S i2 (Int32.ofInt 1) (Int32.ofInt 5))] _ _ _
    refine hp_if (pc' := 16) rfl rfl (fun h2 => ?_) (fun h2 => ?_)
    · refine hp_sN [19] (pc' := 19) (L' := [some (.ref 47), some (.int i1), some (.int i2)]) (st' := [.ref 47]) rfl rfl ?_
      refine hp_gf (pc' := 22) rfl (by decide) (hp_c47 X _) rfl rfl ?_
      refine hp_sN [23] (pc' := 23) (L' := [some (.ref 47), some (.int i1), some (.int i2)]) (st' := [.int (Int32.ofInt 0), .ref 48]) rfl rfl ?_
      refine hp_al (pc' := 24) rfl (hp_cl (Or.inl rfl)) (hp_cc (Or.inl rfl) X _) rfl ?_
      refine hp_sN [26] (pc' := 26) (L' := [some (.ref 47), some (.int i1), some (.int i2)]) (st' := [.int (Int32.ofInt 6), .int (S 48 (Int32.ofInt 0).toNatClampNeg)]) rfl rfl ?_
      refine hp_ic (pc' := 29) rfl rfl (fun h3 => ?_) (fun h3 => ?_)
      · refine hp_sN [33, 34, 35] (pc' := 35) (L' := [some (.ref 47), some (.int i1), some (.int i2)]) (st' := [.int i2, .int i1, .ref 47]) rfl rfl ?_
        refine hp_iv (virt := true) (pc' := 38) (rv := none) (M1 := hp_mem X (hq_103 S i1 i2)) rfl rfl (by decide) (hk_103 S (i1) (i2)) rfl rfl ?_
        show hp_T _ 110 38 _ [] _ _ _
        refine hp_sN [39] (pc' := 39) (L' := [some (.ref 47), some (.int i1), some (.int i2)]) (st' := [.ref 47]) rfl rfl ?_
        refine hp_gf (pc' := 42) rfl (by decide) (hp_c47 X _) rfl rfl ?_
        refine hp_sN [43] (pc' := 43) (L' := [some (.ref 47), some (.int i1), some (.int i2)]) (st' := [.int (Int32.ofInt 0), .ref 48]) rfl rfl ?_
        refine hp_al (pc' := 44) rfl (hp_cl (Or.inl rfl)) (hp_cc (Or.inl rfl) X _) rfl ?_
        refine hp_sN [45, 46] (pc' := 46) (L' := [some (.ref 47), some (.int i1), some (.int i2)]) (st' := [.int ((hq_103 S i1 i2 48 (Int32.ofInt 0).toNatClampNeg) - (Int32.ofInt 1))]) rfl rfl ?_
        exact hp_Ris rfl
      · refine hp_sN [31] (pc' := 31) (L' := [some (.ref 47), some (.int i1), some (.int i2)]) (st' := [.int (Int32.ofInt (-2))]) rfl rfl ?_
        exact hp_Ris rfl
    · refine hp_sN [17] (pc' := 17) (L' := [some (.ref 47), some (.int i1), some (.int i2)]) (st' := [.int (Int32.ofInt (-1))]) rfl rfl ?_
      exact hp_Ris rfl
theorem hk_110 {X : hp_X} (S : hp_S) (i1 : Int32) (i2 : Int32) : hp_K 110 [.ref 47, .int i1, .int i2] (hp_mem X S) (hp_is X) (hq_110 S i1 i2) := by
  refine hp_mk (q := hzq_110) rfl (by decide) (L := [some (.ref 47), some (.int i1), some (.int i2)]) rfl (fun n => ?_)
  exact ht_110 S i1 i2 n
/-! 157: HatsOfTheWindModel.isShelf(I)Z -/
def hq_157 (S : hp_S) (i1 : Int32) : Int32 := (hq_70 S i1 (Int32.ofInt 0) (Int32.ofInt 7))
set_option maxRecDepth 10000 in
theorem ht_157 {X : hp_X} (S : hp_S) (i1 : Int32) (n : Nat) : hp_T n 157 0 [some (.int i1)] [] (hp_mem X S) (hp_i X S) (hq_157 S i1) := by
  unfold hq_157
  refine hp_sN [1, 2, 4] (pc' := 4) (L' := [some (.int i1)]) (st' := [.int (Int32.ofInt 7), .int (Int32.ofInt 0), .int i1]) rfl rfl ?_
  refine hp_iv (virt := false) (pc' := 7) (rv := some (.int (hq_70 S i1 (Int32.ofInt 0) (Int32.ofInt 7)))) (M1 := hp_mem X (S)) rfl rfl (by decide) (hk_70 S (i1) ((Int32.ofInt 0)) ((Int32.ofInt 7))) rfl rfl ?_
  show hp_T _ 157 7 _ [.int (hq_70 S i1 (Int32.ofInt 0) (Int32.ofInt 7))] _ _ _
  exact hp_Ri rfl
theorem hk_157 {X : hp_X} (S : hp_S) (i1 : Int32) : hp_K 157 [.int i1] (hp_mem X S) (hp_i X S) (hq_157 S i1) := by
  refine hp_mk (q := hzq_157) rfl (by decide) (L := [some (.int i1)]) rfl (fun n => ?_)
  exact ht_157 S i1 n
/-! 159: HatsOfTheWindModel.wrongKept(I)I -/
def hq_159 (S : hp_S) (i1 : Int32) : Int32 := (if hz_cmp .ne (hq_157 S i1) 0 = true then (if hz_cmp .ne (S 53 i1.toNatClampNeg) 0 = true then (if hz_cmp .ne (S 53 i1.toNatClampNeg) (Int32.ofInt 2) = true then (Int32.ofInt 0) else (Int32.ofInt (-12))) else (Int32.ofInt (-11))) else (Int32.ofInt (-1)))
set_option maxRecDepth 10000 in
theorem ht_159 {X : hp_X} (S : hp_S) (i1 : Int32) (n : Nat) : hp_T n 159 0 [some (.ref 47), some (.int i1)] [] (hp_mem X S) (hp_i X S) (hq_159 S i1) := by
  unfold hq_159
  refine hp_sN [1] (pc' := 1) (L' := [some (.ref 47), some (.int i1)]) (st' := [.int i1]) rfl rfl ?_
  refine hp_iv (virt := false) (pc' := 4) (rv := some (.int (hq_157 S i1))) (M1 := hp_mem X (S)) rfl rfl (by decide) (hk_157 S (i1)) rfl rfl ?_
  show hp_T _ 159 4 _ [.int (hq_157 S i1)] _ _ _
  refine hp_if (pc' := 7) rfl rfl (fun h1 => ?_) (fun h1 => ?_)
  · refine hp_sN [12] (pc' := 12) (L' := [some (.ref 47), some (.int i1)]) (st' := [.ref 47]) rfl rfl ?_
    refine hp_gf (pc' := 15) rfl (by decide) (hp_c47 X _) rfl rfl ?_
    refine hp_sN [16] (pc' := 16) (L' := [some (.ref 47), some (.int i1)]) (st' := [.int i1, .ref 53]) rfl rfl ?_
    refine hp_al (pc' := 17) rfl (by decide) rfl rfl ?_
    refine hp_if (pc' := 20) rfl rfl (fun h2 => ?_) (fun h2 => ?_)
    · refine hp_sN [26] (pc' := 26) (L' := [some (.ref 47), some (.int i1)]) (st' := [.ref 47]) rfl rfl ?_
      refine hp_gf (pc' := 29) rfl (by decide) (hp_c47 X _) rfl rfl ?_
      refine hp_sN [30] (pc' := 30) (L' := [some (.ref 47), some (.int i1)]) (st' := [.int i1, .ref 53]) rfl rfl ?_
      refine hp_al (pc' := 31) rfl (by decide) rfl rfl ?_
      refine hp_sN [32] (pc' := 32) (L' := [some (.ref 47), some (.int i1)]) (st' := [.int (Int32.ofInt 2), .int (S 53 i1.toNatClampNeg)]) rfl rfl ?_
      refine hp_ic (pc' := 35) rfl rfl (fun h3 => ?_) (fun h3 => ?_)
      · refine hp_sN [41] (pc' := 41) (L' := [some (.ref 47), some (.int i1)]) (st' := [.int (Int32.ofInt 0)]) rfl rfl ?_
        exact hp_Ri rfl
      · refine hp_sN [37, 41] (pc' := 41) (L' := [some (.ref 47), some (.int i1)]) (st' := [.int (Int32.ofInt (-12))]) rfl rfl ?_
        exact hp_Ri rfl
    · refine hp_sN [22, 41] (pc' := 41) (L' := [some (.ref 47), some (.int i1)]) (st' := [.int (Int32.ofInt (-11))]) rfl rfl ?_
      exact hp_Ri rfl
  · refine hp_sN [8, 41] (pc' := 41) (L' := [some (.ref 47), some (.int i1)]) (st' := [.int (Int32.ofInt (-1))]) rfl rfl ?_
    exact hp_Ri rfl
theorem hk_159 {X : hp_X} (S : hp_S) (i1 : Int32) : hp_K 159 [.ref 47, .int i1] (hp_mem X S) (hp_i X S) (hq_159 S i1) := by
  refine hp_mk (q := hzq_159) rfl (by decide) (L := [some (.ref 47), some (.int i1)]) rfl (fun n => ?_)
  exact ht_159 S i1 n
/-! 111: HatsOfTheWindModel.wears(II)I -/
def hq_111 (S : hp_S) (i1 : Int32) (i2 : Int32) : Int32 × hp_S := (if hz_cmp .ne (hq_76 S i2) 0 = true then (if hz_cmp .eq (hq_159 S i1) 0 = true then (if hz_cmp .eq (hq_88 S 48 i2) (Int32.ofInt 9) = true then (if hz_cmp .ne (S 48 (Int32.ofInt 1).toNatClampNeg) (Int32.ofInt 8) = true then (((hq_104 S (S 54 i1.toNatClampNeg) (S 55 i1.toNatClampNeg) i2 48 (Int32.ofInt 1).toNatClampNeg) - (Int32.ofInt 1)), hq_104 S (S 54 i1.toNatClampNeg) (S 55 i1.toNatClampNeg) i2) else ((Int32.ofInt (-2)), S)) else ((Int32.ofInt (-3)), S)) else ((hq_159 S i1), S)) else ((Int32.ofInt (-1)), S))
theorem hf_111 (S : hp_S) (i1 : Int32) (i2 : Int32) (j : Nat) (z0 : j ≠ 48) : (hq_111 S i1 i2).2 j = S j := by
  unfold hq_111
  repeat' split
  all_goals simp [hp_wo, hp_wgo, hp_cpo, hf_104, z0]
set_option maxRecDepth 10000 in
theorem ht_111 {X : hp_X} (S : hp_S) (i1 : Int32) (i2 : Int32) (n : Nat) : hp_T n 111 0 [some (.ref 47), some (.int i1), some (.int i2), none] [] (hp_mem X S) (hp_is X) (hq_111 S i1 i2) := by
  unfold hq_111
  refine hp_sN [1, 2] (pc' := 2) (L' := [some (.ref 47), some (.int i1), some (.int i2), none]) (st' := [.int i2, .ref 47]) rfl rfl ?_
  refine hp_iv (virt := true) (pc' := 5) (rv := some (.int (hq_76 S i2))) (M1 := hp_mem X (S)) rfl rfl (by decide) (hk_76 S (i2)) rfl rfl ?_
  show hp_T _ 111 5 _ [.int (hq_76 S i2)] _ _ _
  refine hp_if (pc' := 8) rfl rfl (fun h1 => ?_) (fun h1 => ?_)
  · refine hp_sN [11, 12] (pc' := 12) (L' := [some (.ref 47), some (.int i1), some (.int i2), none]) (st' := [.int i1, .ref 47]) rfl rfl ?_
    refine hp_iv (virt := true) (pc' := 15) (rv := some (.int (hq_159 S i1))) (M1 := hp_mem X (S)) rfl rfl (by decide) (hk_159 S (i1)) rfl rfl ?_
    show hp_T _ 111 15 _ [.int (hq_159 S i1)] _ _ _
    refine hp_sN [16, 17] (pc' := 17) (L' := [some (.ref 47), some (.int i1), some (.int i2), some (.int (hq_159 S i1))]) (st' := [.int (hq_159 S i1)]) rfl rfl ?_
    refine hp_if (pc' := 20) rfl rfl (fun h2 => ?_) (fun h2 => ?_)
    · refine hp_sN [23] (pc' := 23) (L' := [some (.ref 47), some (.int i1), some (.int i2), some (.int (hq_159 S i1))]) (st' := [.ref 47]) rfl rfl ?_
      refine hp_gf (pc' := 26) rfl (by decide) (hp_c47 X _) rfl rfl ?_
      refine hp_sN [27] (pc' := 27) (L' := [some (.ref 47), some (.int i1), some (.int i2), some (.int (hq_159 S i1))]) (st' := [.int i2, .ref 48]) rfl rfl ?_
      refine hp_iv (virt := false) (pc' := 30) (rv := some (.int (hq_88 S 48 i2))) (M1 := hp_mem X (S)) rfl rfl (by decide) (hk_88 (Or.inl rfl) S (i2)) rfl rfl ?_
      show hp_T _ 111 30 _ [.int (hq_88 S 48 i2)] _ _ _
      refine hp_sN [32] (pc' := 32) (L' := [some (.ref 47), some (.int i1), some (.int i2), some (.int (hq_159 S i1))]) (st' := [.int (Int32.ofInt 9), .int (hq_88 S 48 i2)]) rfl rfl ?_
      refine hp_ic (pc' := 35) rfl rfl (fun h3 => ?_) (fun h3 => ?_)
      · refine hp_sN [39] (pc' := 39) (L' := [some (.ref 47), some (.int i1), some (.int i2), some (.int (hq_159 S i1))]) (st' := [.ref 47]) rfl rfl ?_
        refine hp_gf (pc' := 42) rfl (by decide) (hp_c47 X _) rfl rfl ?_
        refine hp_sN [43] (pc' := 43) (L' := [some (.ref 47), some (.int i1), some (.int i2), some (.int (hq_159 S i1))]) (st' := [.int (Int32.ofInt 1), .ref 48]) rfl rfl ?_
        refine hp_al (pc' := 44) rfl (hp_cl (Or.inl rfl)) (hp_cc (Or.inl rfl) X _) rfl ?_
        refine hp_sN [46] (pc' := 46) (L' := [some (.ref 47), some (.int i1), some (.int i2), some (.int (hq_159 S i1))]) (st' := [.int (Int32.ofInt 8), .int (S 48 (Int32.ofInt 1).toNatClampNeg)]) rfl rfl ?_
        refine hp_ic (pc' := 49) rfl rfl (fun h4 => ?_) (fun h4 => ?_)
        · refine hp_sN [53, 54] (pc' := 54) (L' := [some (.ref 47), some (.int i1), some (.int i2), some (.int (hq_159 S i1))]) (st' := [.ref 47, .ref 47]) rfl rfl ?_
          refine hp_gf (pc' := 57) rfl (by decide) (hp_c47 X _) rfl rfl ?_
          refine hp_sN [58] (pc' := 58) (L' := [some (.ref 47), some (.int i1), some (.int i2), some (.int (hq_159 S i1))]) (st' := [.int i1, .ref 54, .ref 47]) rfl rfl ?_
          refine hp_al (pc' := 59) rfl (by decide) rfl rfl ?_
          refine hp_sN [60] (pc' := 60) (L' := [some (.ref 47), some (.int i1), some (.int i2), some (.int (hq_159 S i1))]) (st' := [.ref 47, .int (S 54 i1.toNatClampNeg), .ref 47]) rfl rfl ?_
          refine hp_gf (pc' := 63) rfl (by decide) (hp_c47 X _) rfl rfl ?_
          refine hp_sN [64] (pc' := 64) (L' := [some (.ref 47), some (.int i1), some (.int i2), some (.int (hq_159 S i1))]) (st' := [.int i1, .ref 55, .int (S 54 i1.toNatClampNeg), .ref 47]) rfl rfl ?_
          refine hp_al (pc' := 65) rfl (by decide) rfl rfl ?_
          refine hp_sN [66] (pc' := 66) (L' := [some (.ref 47), some (.int i1), some (.int i2), some (.int (hq_159 S i1))]) (st' := [.int i2, .int (S 55 i1.toNatClampNeg), .int (S 54 i1.toNatClampNeg), .ref 47]) rfl rfl ?_
          refine hp_iv (virt := true) (pc' := 69) (rv := none) (M1 := hp_mem X (hq_104 S (S 54 i1.toNatClampNeg) (S 55 i1.toNatClampNeg) i2)) rfl rfl (by decide) (hk_104 S ((S 54 i1.toNatClampNeg)) ((S 55 i1.toNatClampNeg)) (i2)) rfl rfl ?_
          show hp_T _ 111 69 _ [] _ _ _
          refine hp_sN [70] (pc' := 70) (L' := [some (.ref 47), some (.int i1), some (.int i2), some (.int (hq_159 S i1))]) (st' := [.ref 47]) rfl rfl ?_
          refine hp_gf (pc' := 73) rfl (by decide) (hp_c47 X _) rfl rfl ?_
          refine hp_sN [74] (pc' := 74) (L' := [some (.ref 47), some (.int i1), some (.int i2), some (.int (hq_159 S i1))]) (st' := [.int (Int32.ofInt 1), .ref 48]) rfl rfl ?_
          refine hp_al (pc' := 75) rfl (hp_cl (Or.inl rfl)) (hp_cc (Or.inl rfl) X _) rfl ?_
          refine hp_sN [76, 77] (pc' := 77) (L' := [some (.ref 47), some (.int i1), some (.int i2), some (.int (hq_159 S i1))]) (st' := [.int ((hq_104 S (S 54 i1.toNatClampNeg) (S 55 i1.toNatClampNeg) i2 48 (Int32.ofInt 1).toNatClampNeg) - (Int32.ofInt 1))]) rfl rfl ?_
          exact hp_Ris rfl
        · refine hp_sN [51] (pc' := 51) (L' := [some (.ref 47), some (.int i1), some (.int i2), some (.int (hq_159 S i1))]) (st' := [.int (Int32.ofInt (-2))]) rfl rfl ?_
          exact hp_Ris rfl
      · refine hp_sN [37] (pc' := 37) (L' := [some (.ref 47), some (.int i1), some (.int i2), some (.int (hq_159 S i1))]) (st' := [.int (Int32.ofInt (-3))]) rfl rfl ?_
        exact hp_Ris rfl
    · refine hp_sN [21] (pc' := 21) (L' := [some (.ref 47), some (.int i1), some (.int i2), some (.int (hq_159 S i1))]) (st' := [.int (hq_159 S i1)]) rfl rfl ?_
      exact hp_Ris rfl
  · refine hp_sN [9] (pc' := 9) (L' := [some (.ref 47), some (.int i1), some (.int i2), none]) (st' := [.int (Int32.ofInt (-1))]) rfl rfl ?_
    exact hp_Ris rfl
theorem hk_111 {X : hp_X} (S : hp_S) (i1 : Int32) (i2 : Int32) : hp_K 111 [.ref 47, .int i1, .int i2] (hp_mem X S) (hp_is X) (hq_111 S i1 i2) := by
  refine hp_mk (q := hzq_111) rfl (by decide) (L := [some (.ref 47), some (.int i1), some (.int i2), none]) rfl (fun n => ?_)
  exact ht_111 S i1 i2 n
/-! 112: HatsOfTheWindModel.blows(II)I -/
def hq_112 (S : hp_S) (i1 : Int32) (i2 : Int32) : Int32 × hp_S := (if hz_cmp .eq (hq_70 S i1 (Int32.ofInt 0) (Int32.ofInt 23)) 0 = true then ((Int32.ofInt (-1)), S) else (if hz_cmp .ne (hq_70 S i2 (Int32.ofInt 0) (Int32.ofInt 9)) 0 = true then ((S 48 ((Int32.ofInt 6) + i1).toNatClampNeg), hp_wg 80 S 48 ((Int32.ofInt 6) + i1) i2) else ((Int32.ofInt (-1)), S)))
theorem hf_112 (S : hp_S) (i1 : Int32) (i2 : Int32) (j : Nat) (z0 : j ≠ 48) : (hq_112 S i1 i2).2 j = S j := by
  unfold hq_112
  repeat' split
  all_goals simp [hp_wo, hp_wgo, hp_cpo, z0]
set_option maxRecDepth 10000 in
theorem ht_112 {X : hp_X} (S : hp_S) (i1 : Int32) (i2 : Int32) (n : Nat) : hp_T n 112 0 [some (.ref 47), some (.int i1), some (.int i2), none] [] (hp_mem X S) (hp_is X) (hq_112 S i1 i2) := by
  unfold hq_112
  refine hp_sN [1, 2, 4] (pc' := 4) (L' := [some (.ref 47), some (.int i1), some (.int i2), none]) (st' := [.int (Int32.ofInt 23), .int (Int32.ofInt 0), .int i1]) rfl rfl ?_
  refine hp_iv (virt := false) (pc' := 7) (rv := some (.int (hq_70 S i1 (Int32.ofInt 0) (Int32.ofInt 23)))) (M1 := hp_mem X (S)) rfl rfl (by decide) (hk_70 S (i1) ((Int32.ofInt 0)) ((Int32.ofInt 23))) rfl rfl ?_
  show hp_T _ 112 7 _ [.int (hq_70 S i1 (Int32.ofInt 0) (Int32.ofInt 23))] _ _ _
  refine hp_if (pc' := 10) rfl rfl (fun h1 => ?_) (fun h1 => ?_)
  · refine hp_sN [21] (pc' := 21) (L' := [some (.ref 47), some (.int i1), some (.int i2), none]) (st' := [.int (Int32.ofInt (-1))]) rfl rfl ?_
    exact hp_Ris rfl
  · refine hp_sN [11, 12, 14] (pc' := 14) (L' := [some (.ref 47), some (.int i1), some (.int i2), none]) (st' := [.int (Int32.ofInt 9), .int (Int32.ofInt 0), .int i2]) rfl rfl ?_
    refine hp_iv (virt := false) (pc' := 17) (rv := some (.int (hq_70 S i2 (Int32.ofInt 0) (Int32.ofInt 9)))) (M1 := hp_mem X (S)) rfl rfl (by decide) (hk_70 S (i2) ((Int32.ofInt 0)) ((Int32.ofInt 9))) rfl rfl ?_
    show hp_T _ 112 17 _ [.int (hq_70 S i2 (Int32.ofInt 0) (Int32.ofInt 9))] _ _ _
    refine hp_if (pc' := 20) rfl rfl (fun h2 => ?_) (fun h2 => ?_)
    · refine hp_sN [23] (pc' := 23) (L' := [some (.ref 47), some (.int i1), some (.int i2), none]) (st' := [.ref 47]) rfl rfl ?_
      refine hp_gf (pc' := 26) rfl (by decide) (hp_c47 X _) rfl rfl ?_
      refine hp_sN [28, 29, 30] (pc' := 30) (L' := [some (.ref 47), some (.int i1), some (.int i2), none]) (st' := [.int ((Int32.ofInt 6) + i1), .ref 48]) rfl rfl ?_
      refine hp_al (pc' := 31) rfl (hp_cl (Or.inl rfl)) (hp_cc (Or.inl rfl) X _) rfl ?_
      refine hp_sN [32, 33] (pc' := 33) (L' := [some (.ref 47), some (.int i1), some (.int i2), some (.int (S 48 ((Int32.ofInt 6) + i1).toNatClampNeg))]) (st' := [.ref 47]) rfl rfl ?_
      refine hp_gf (pc' := 36) rfl (by decide) (hp_c47 X _) rfl rfl ?_
      refine hp_sN [38, 39, 40, 41] (pc' := 41) (L' := [some (.ref 47), some (.int i1), some (.int i2), some (.int (S 48 ((Int32.ofInt 6) + i1).toNatClampNeg))]) (st' := [.int i2, .int ((Int32.ofInt 6) + i1), .ref 48]) rfl rfl ?_
      refine hp_asg (pc' := 42) rfl (hp_cl (Or.inl rfl)) (fun _ => (hp_cc (Or.inl rfl) X _)) rfl ?_
      refine hp_sN [43] (pc' := 43) (L' := [some (.ref 47), some (.int i1), some (.int i2), some (.int (S 48 ((Int32.ofInt 6) + i1).toNatClampNeg))]) (st' := [.int (S 48 ((Int32.ofInt 6) + i1).toNatClampNeg)]) rfl rfl ?_
      exact hp_Ris rfl
    · refine hp_sN [21] (pc' := 21) (L' := [some (.ref 47), some (.int i1), some (.int i2), none]) (st' := [.int (Int32.ofInt (-1))]) rfl rfl ?_
      exact hp_Ris rfl
theorem hk_112 {X : hp_X} (S : hp_S) (i1 : Int32) (i2 : Int32) : hp_K 112 [.ref 47, .int i1, .int i2] (hp_mem X S) (hp_is X) (hq_112 S i1 i2) := by
  refine hp_mk (q := hzq_112) rfl (by decide) (L := [some (.ref 47), some (.int i1), some (.int i2), none]) rfl (fun n => ?_)
  exact ht_112 S i1 i2 n
/-! 113: HatsOfTheWindModel.shelters(I)I -/
def hq_113 (S : hp_S) (i1 : Int32) : Int32 × hp_S := (if hz_cmp .ne (hq_78 S i1) 0 = true then ((((hp_wg 80 S 48 (Int32.ofInt 4) ((S 48 (Int32.ofInt 4).toNatClampNeg) ^^^ ((Int32.ofInt 1) <<< (i1 &&& 31))) 48 (Int32.ofInt 4).toNatClampNeg) >>> (i1 &&& 31)) &&& (Int32.ofInt 1)), hp_wg 80 S 48 (Int32.ofInt 4) ((S 48 (Int32.ofInt 4).toNatClampNeg) ^^^ ((Int32.ofInt 1) <<< (i1 &&& 31)))) else ((Int32.ofInt (-1)), S))
theorem hf_113 (S : hp_S) (i1 : Int32) (j : Nat) (z0 : j ≠ 48) : (hq_113 S i1).2 j = S j := by
  unfold hq_113
  repeat' split
  all_goals simp [hp_wo, hp_wgo, hp_cpo, z0]
set_option maxRecDepth 10000 in
theorem ht_113 {X : hp_X} (S : hp_S) (i1 : Int32) (n : Nat) : hp_T n 113 0 [some (.ref 47), some (.int i1)] [] (hp_mem X S) (hp_is X) (hq_113 S i1) := by
  unfold hq_113
  refine hp_sN [1] (pc' := 1) (L' := [some (.ref 47), some (.int i1)]) (st' := [.int i1]) rfl rfl ?_
  refine hp_iv (virt := false) (pc' := 4) (rv := some (.int (hq_78 S i1))) (M1 := hp_mem X (S)) rfl rfl (by decide) (hk_78 S (i1)) rfl rfl ?_
  show hp_T _ 113 4 _ [.int (hq_78 S i1)] _ _ _
  refine hp_if (pc' := 7) rfl rfl (fun h1 => ?_) (fun h1 => ?_)
  · refine hp_sN [10] (pc' := 10) (L' := [some (.ref 47), some (.int i1)]) (st' := [.ref 47]) rfl rfl ?_
    refine hp_gf (pc' := 13) rfl (by decide) (hp_c47 X _) rfl rfl ?_
    refine hp_sN [14, 15] (pc' := 15) (L' := [some (.ref 47), some (.int i1)]) (st' := [.int (Int32.ofInt 4), .ref 48, .int (Int32.ofInt 4), .ref 48]) rfl rfl ?_
    refine hp_al (pc' := 16) rfl (hp_cl (Or.inl rfl)) (hp_cc (Or.inl rfl) X _) rfl ?_
    refine hp_sN [17, 18, 19, 20] (pc' := 20) (L' := [some (.ref 47), some (.int i1)]) (st' := [.int ((S 48 (Int32.ofInt 4).toNatClampNeg) ^^^ ((Int32.ofInt 1) <<< (i1 &&& 31))), .int (Int32.ofInt 4), .ref 48]) rfl rfl ?_
    refine hp_asg (pc' := 21) rfl (hp_cl (Or.inl rfl)) (fun _ => (hp_cc (Or.inl rfl) X _)) rfl ?_
    refine hp_sN [22] (pc' := 22) (L' := [some (.ref 47), some (.int i1)]) (st' := [.ref 47]) rfl rfl ?_
    refine hp_gf (pc' := 25) rfl (by decide) (hp_c47 X _) rfl rfl ?_
    refine hp_sN [26] (pc' := 26) (L' := [some (.ref 47), some (.int i1)]) (st' := [.int (Int32.ofInt 4), .ref 48]) rfl rfl ?_
    refine hp_al (pc' := 27) rfl (hp_cl (Or.inl rfl)) (hp_cc (Or.inl rfl) X _) rfl ?_
    refine hp_sN [28, 29, 30, 31] (pc' := 31) (L' := [some (.ref 47), some (.int i1)]) (st' := [.int (((hp_wg 80 S 48 (Int32.ofInt 4) ((S 48 (Int32.ofInt 4).toNatClampNeg) ^^^ ((Int32.ofInt 1) <<< (i1 &&& 31))) 48 (Int32.ofInt 4).toNatClampNeg) >>> (i1 &&& 31)) &&& (Int32.ofInt 1))]) rfl rfl ?_
    exact hp_Ris rfl
  · refine hp_sN [8] (pc' := 8) (L' := [some (.ref 47), some (.int i1)]) (st' := [.int (Int32.ofInt (-1))]) rfl rfl ?_
    exact hp_Ris rfl
theorem hk_113 {X : hp_X} (S : hp_S) (i1 : Int32) : hp_K 113 [.ref 47, .int i1] (hp_mem X S) (hp_is X) (hq_113 S i1) := by
  refine hp_mk (q := hzq_113) rfl (by decide) (L := [some (.ref 47), some (.int i1)]) rfl (fun n => ?_)
  exact ht_113 S i1 n

/-! 114: HatsOfTheWindModel.pins(II)I -/
def hq_114 (S : hp_S) (i1 : Int32) (i2 : Int32) : Int32 × hp_S := (if hz_cmp .eq (hq_76 S i1) 0 = true then ((Int32.ofInt (-1)), S) else (if hz_cmp .ne (hq_70 S i2 (Int32.ofInt 0) (Int32.ofInt 9)) 0 = true then ((S 48 (hq_74 S i1 (Int32.ofInt 2)).toNatClampNeg), hp_wg 80 S 48 (hq_74 S i1 (Int32.ofInt 2)) i2) else ((Int32.ofInt (-1)), S)))
theorem hf_114 (S : hp_S) (i1 : Int32) (i2 : Int32) (j : Nat) (z0 : j ≠ 48) : (hq_114 S i1 i2).2 j = S j := by
  unfold hq_114
  repeat' split
  all_goals simp [hp_wo, hp_wgo, hp_cpo, z0]
set_option maxRecDepth 10000 in
theorem ht_114 {X : hp_X} (S : hp_S) (i1 : Int32) (i2 : Int32) (n : Nat) : hp_T n 114 0 [some (.ref 47), some (.int i1), some (.int i2), none] [] (hp_mem X S) (hp_is X) (hq_114 S i1 i2) := by
  unfold hq_114
  refine hp_sN [1, 2] (pc' := 2) (L' := [some (.ref 47), some (.int i1), some (.int i2), none]) (st' := [.int i1, .ref 47]) rfl rfl ?_
  refine hp_iv (virt := true) (pc' := 5) (rv := some (.int (hq_76 S i1))) (M1 := hp_mem X (S)) rfl rfl (by decide) (hk_76 S (i1)) rfl rfl ?_
  show hp_T _ 114 5 _ [.int (hq_76 S i1)] _ _ _
  refine hp_if (pc' := 8) rfl rfl (fun h1 => ?_) (fun h1 => ?_)
  · refine hp_sN [19] (pc' := 19) (L' := [some (.ref 47), some (.int i1), some (.int i2), none]) (st' := [.int (Int32.ofInt (-1))]) rfl rfl ?_
    exact hp_Ris rfl
  · refine hp_sN [9, 10, 12] (pc' := 12) (L' := [some (.ref 47), some (.int i1), some (.int i2), none]) (st' := [.int (Int32.ofInt 9), .int (Int32.ofInt 0), .int i2]) rfl rfl ?_
    refine hp_iv (virt := false) (pc' := 15) (rv := some (.int (hq_70 S i2 (Int32.ofInt 0) (Int32.ofInt 9)))) (M1 := hp_mem X (S)) rfl rfl (by decide) (hk_70 S (i2) ((Int32.ofInt 0)) ((Int32.ofInt 9))) rfl rfl ?_
    show hp_T _ 114 15 _ [.int (hq_70 S i2 (Int32.ofInt 0) (Int32.ofInt 9))] _ _ _
    refine hp_if (pc' := 18) rfl rfl (fun h2 => ?_) (fun h2 => ?_)
    · refine hp_sN [21] (pc' := 21) (L' := [some (.ref 47), some (.int i1), some (.int i2), none]) (st' := [.ref 47]) rfl rfl ?_
      refine hp_gf (pc' := 24) rfl (by decide) (hp_c47 X _) rfl rfl ?_
      refine hp_sN [25, 26] (pc' := 26) (L' := [some (.ref 47), some (.int i1), some (.int i2), none]) (st' := [.int (Int32.ofInt 2), .int i1, .ref 48]) rfl rfl ?_
      refine hp_iv (virt := false) (pc' := 29) (rv := some (.int (hq_74 S i1 (Int32.ofInt 2)))) (M1 := hp_mem X (S)) rfl rfl (by decide) (hk_74 S (i1) ((Int32.ofInt 2))) rfl rfl ?_
      show hp_T _ 114 29 _ [.int (hq_74 S i1 (Int32.ofInt 2)), .ref 48] _ _ _
      refine hp_al (pc' := 30) rfl (hp_cl (Or.inl rfl)) (hp_cc (Or.inl rfl) X _) rfl ?_
      refine hp_sN [31, 32] (pc' := 32) (L' := [some (.ref 47), some (.int i1), some (.int i2), some (.int (S 48 (hq_74 S i1 (Int32.ofInt 2)).toNatClampNeg))]) (st' := [.ref 47]) rfl rfl ?_
      refine hp_gf (pc' := 35) rfl (by decide) (hp_c47 X _) rfl rfl ?_
      refine hp_sN [36, 37] (pc' := 37) (L' := [some (.ref 47), some (.int i1), some (.int i2), some (.int (S 48 (hq_74 S i1 (Int32.ofInt 2)).toNatClampNeg))]) (st' := [.int (Int32.ofInt 2), .int i1, .ref 48]) rfl rfl ?_
      refine hp_iv (virt := false) (pc' := 40) (rv := some (.int (hq_74 S i1 (Int32.ofInt 2)))) (M1 := hp_mem X (S)) rfl rfl (by decide) (hk_74 S (i1) ((Int32.ofInt 2))) rfl rfl ?_
      show hp_T _ 114 40 _ [.int (hq_74 S i1 (Int32.ofInt 2)), .ref 48] _ _ _
      refine hp_sN [41] (pc' := 41) (L' := [some (.ref 47), some (.int i1), some (.int i2), some (.int (S 48 (hq_74 S i1 (Int32.ofInt 2)).toNatClampNeg))]) (st' := [.int i2, .int (hq_74 S i1 (Int32.ofInt 2)), .ref 48]) rfl rfl ?_
      refine hp_asg (pc' := 42) rfl (hp_cl (Or.inl rfl)) (fun _ => (hp_cc (Or.inl rfl) X _)) rfl ?_
      refine hp_sN [43] (pc' := 43) (L' := [some (.ref 47), some (.int i1), some (.int i2), some (.int (S 48 (hq_74 S i1 (Int32.ofInt 2)).toNatClampNeg))]) (st' := [.int (S 48 (hq_74 S i1 (Int32.ofInt 2)).toNatClampNeg)]) rfl rfl ?_
      exact hp_Ris rfl
    · refine hp_sN [19] (pc' := 19) (L' := [some (.ref 47), some (.int i1), some (.int i2), none]) (st' := [.int (Int32.ofInt (-1))]) rfl rfl ?_
      exact hp_Ris rfl
theorem hk_114 {X : hp_X} (S : hp_S) (i1 : Int32) (i2 : Int32) : hp_K 114 [.ref 47, .int i1, .int i2] (hp_mem X S) (hp_is X) (hq_114 S i1 i2) := by
  refine hp_mk (q := hzq_114) rfl (by decide) (L := [some (.ref 47), some (.int i1), some (.int i2), none]) rfl (fun n => ?_)
  exact ht_114 S i1 i2 n
/-! 115: HatsOfTheWindModel.moves(II)I -/
def hq_115 (S : hp_S) (i1 : Int32) (i2 : Int32) : Int32 × hp_S := (if hz_cmp .eq (hq_76 S i1) 0 = true then ((Int32.ofInt (-1)), S) else (if hz_cmp .ne (hq_78 S i2) 0 = true then ((S 48 (hq_74 S i1 (Int32.ofInt 0)).toNatClampNeg), hp_wg 80 S 48 (hq_74 S i1 (Int32.ofInt 0)) i2) else ((Int32.ofInt (-1)), S)))
theorem hf_115 (S : hp_S) (i1 : Int32) (i2 : Int32) (j : Nat) (z0 : j ≠ 48) : (hq_115 S i1 i2).2 j = S j := by
  unfold hq_115
  repeat' split
  all_goals simp [hp_wo, hp_wgo, hp_cpo, z0]
set_option maxRecDepth 10000 in
theorem ht_115 {X : hp_X} (S : hp_S) (i1 : Int32) (i2 : Int32) (n : Nat) : hp_T n 115 0 [some (.ref 47), some (.int i1), some (.int i2), none] [] (hp_mem X S) (hp_is X) (hq_115 S i1 i2) := by
  unfold hq_115
  refine hp_sN [1, 2] (pc' := 2) (L' := [some (.ref 47), some (.int i1), some (.int i2), none]) (st' := [.int i1, .ref 47]) rfl rfl ?_
  refine hp_iv (virt := true) (pc' := 5) (rv := some (.int (hq_76 S i1))) (M1 := hp_mem X (S)) rfl rfl (by decide) (hk_76 S (i1)) rfl rfl ?_
  show hp_T _ 115 5 _ [.int (hq_76 S i1)] _ _ _
  refine hp_if (pc' := 8) rfl rfl (fun h1 => ?_) (fun h1 => ?_)
  · refine hp_sN [16] (pc' := 16) (L' := [some (.ref 47), some (.int i1), some (.int i2), none]) (st' := [.int (Int32.ofInt (-1))]) rfl rfl ?_
    exact hp_Ris rfl
  · refine hp_sN [9] (pc' := 9) (L' := [some (.ref 47), some (.int i1), some (.int i2), none]) (st' := [.int i2]) rfl rfl ?_
    refine hp_iv (virt := false) (pc' := 12) (rv := some (.int (hq_78 S i2))) (M1 := hp_mem X (S)) rfl rfl (by decide) (hk_78 S (i2)) rfl rfl ?_
    show hp_T _ 115 12 _ [.int (hq_78 S i2)] _ _ _
    refine hp_if (pc' := 15) rfl rfl (fun h2 => ?_) (fun h2 => ?_)
    · refine hp_sN [18] (pc' := 18) (L' := [some (.ref 47), some (.int i1), some (.int i2), none]) (st' := [.ref 47]) rfl rfl ?_
      refine hp_gf (pc' := 21) rfl (by decide) (hp_c47 X _) rfl rfl ?_
      refine hp_sN [22, 23] (pc' := 23) (L' := [some (.ref 47), some (.int i1), some (.int i2), none]) (st' := [.int (Int32.ofInt 0), .int i1, .ref 48]) rfl rfl ?_
      refine hp_iv (virt := false) (pc' := 26) (rv := some (.int (hq_74 S i1 (Int32.ofInt 0)))) (M1 := hp_mem X (S)) rfl rfl (by decide) (hk_74 S (i1) ((Int32.ofInt 0))) rfl rfl ?_
      show hp_T _ 115 26 _ [.int (hq_74 S i1 (Int32.ofInt 0)), .ref 48] _ _ _
      refine hp_al (pc' := 27) rfl (hp_cl (Or.inl rfl)) (hp_cc (Or.inl rfl) X _) rfl ?_
      refine hp_sN [28, 29] (pc' := 29) (L' := [some (.ref 47), some (.int i1), some (.int i2), some (.int (S 48 (hq_74 S i1 (Int32.ofInt 0)).toNatClampNeg))]) (st' := [.ref 47]) rfl rfl ?_
      refine hp_gf (pc' := 32) rfl (by decide) (hp_c47 X _) rfl rfl ?_
      refine hp_sN [33, 34] (pc' := 34) (L' := [some (.ref 47), some (.int i1), some (.int i2), some (.int (S 48 (hq_74 S i1 (Int32.ofInt 0)).toNatClampNeg))]) (st' := [.int (Int32.ofInt 0), .int i1, .ref 48]) rfl rfl ?_
      refine hp_iv (virt := false) (pc' := 37) (rv := some (.int (hq_74 S i1 (Int32.ofInt 0)))) (M1 := hp_mem X (S)) rfl rfl (by decide) (hk_74 S (i1) ((Int32.ofInt 0))) rfl rfl ?_
      show hp_T _ 115 37 _ [.int (hq_74 S i1 (Int32.ofInt 0)), .ref 48] _ _ _
      refine hp_sN [38] (pc' := 38) (L' := [some (.ref 47), some (.int i1), some (.int i2), some (.int (S 48 (hq_74 S i1 (Int32.ofInt 0)).toNatClampNeg))]) (st' := [.int i2, .int (hq_74 S i1 (Int32.ofInt 0)), .ref 48]) rfl rfl ?_
      refine hp_asg (pc' := 39) rfl (hp_cl (Or.inl rfl)) (fun _ => (hp_cc (Or.inl rfl) X _)) rfl ?_
      refine hp_sN [40] (pc' := 40) (L' := [some (.ref 47), some (.int i1), some (.int i2), some (.int (S 48 (hq_74 S i1 (Int32.ofInt 0)).toNatClampNeg))]) (st' := [.int (S 48 (hq_74 S i1 (Int32.ofInt 0)).toNatClampNeg)]) rfl rfl ?_
      exact hp_Ris rfl
    · refine hp_sN [16] (pc' := 16) (L' := [some (.ref 47), some (.int i1), some (.int i2), none]) (st' := [.int (Int32.ofInt (-1))]) rfl rfl ?_
      exact hp_Ris rfl
theorem hk_115 {X : hp_X} (S : hp_S) (i1 : Int32) (i2 : Int32) : hp_K 115 [.ref 47, .int i1, .int i2] (hp_mem X S) (hp_is X) (hq_115 S i1 i2) := by
  refine hp_mk (q := hzq_115) rfl (by decide) (L := [some (.ref 47), some (.int i1), some (.int i2), none]) rfl (fun n => ?_)
  exact ht_115 S i1 i2 n
/-! 116: HatsOfTheWindModel.hours(I)I -/
def hq_116 (S : hp_S) (i1 : Int32) : Int32 × hp_S := (if hz_cmp .ne (hq_70 S i1 (Int32.ofInt 1) (Int32.ofInt 60)) 0 = true then (if hz_cmp .ne (hq_95 S 48 i1) 0 = true then ((hq_80 (hq_94 S 48 i1) (hq_96 (hq_94 S 48 i1) 48)), hq_94 S 48 i1) else ((Int32.ofInt (-3)), S)) else ((Int32.ofInt (-1)), S))
theorem hf_116 (S : hp_S) (i1 : Int32) (j : Nat) (z0 : j ≠ 48) : (hq_116 S i1).2 j = S j := by
  unfold hq_116
  repeat' split
  all_goals simp [hp_wo, hp_wgo, hp_cpo, hf_94, z0]
set_option maxRecDepth 10000 in
theorem ht_116 {X : hp_X} (S : hp_S) (i1 : Int32) (n : Nat) : hp_T n 116 0 [some (.ref 47), some (.int i1)] [] (hp_mem X S) (hp_is X) (hq_116 S i1) := by
  unfold hq_116
  refine hp_sN [1, 2, 4] (pc' := 4) (L' := [some (.ref 47), some (.int i1)]) (st' := [.int (Int32.ofInt 60), .int (Int32.ofInt 1), .int i1]) rfl rfl ?_
  refine hp_iv (virt := false) (pc' := 7) (rv := some (.int (hq_70 S i1 (Int32.ofInt 1) (Int32.ofInt 60)))) (M1 := hp_mem X (S)) rfl rfl (by decide) (hk_70 S (i1) ((Int32.ofInt 1)) ((Int32.ofInt 60))) rfl rfl ?_
  show hp_T _ 116 7 _ [.int (hq_70 S i1 (Int32.ofInt 1) (Int32.ofInt 60))] _ _ _
  refine hp_if (pc' := 10) rfl rfl (fun h1 => ?_) (fun h1 => ?_)
  · refine hp_sN [13] (pc' := 13) (L' := [some (.ref 47), some (.int i1)]) (st' := [.ref 47]) rfl rfl ?_
    refine hp_gf (pc' := 16) rfl (by decide) (hp_c47 X _) rfl rfl ?_
    refine hp_sN [17] (pc' := 17) (L' := [some (.ref 47), some (.int i1)]) (st' := [.int i1, .ref 48]) rfl rfl ?_
    refine hp_iv (virt := false) (pc' := 20) (rv := some (.int (hq_95 S 48 i1))) (M1 := hp_mem X (S)) rfl rfl (by decide) (hk_95 (Or.inl rfl) S (i1)) rfl rfl ?_
    show hp_T _ 116 20 _ [.int (hq_95 S 48 i1)] _ _ _
    refine hp_if (pc' := 23) rfl rfl (fun h2 => ?_) (fun h2 => ?_)
    · refine hp_sN [27] (pc' := 27) (L' := [some (.ref 47), some (.int i1)]) (st' := [.ref 47]) rfl rfl ?_
      refine hp_gf (pc' := 30) rfl (by decide) (hp_c47 X _) rfl rfl ?_
      refine hp_sN [31] (pc' := 31) (L' := [some (.ref 47), some (.int i1)]) (st' := [.int i1, .ref 48]) rfl rfl ?_
      refine hp_iv (virt := false) (pc' := 34) (rv := none) (M1 := hp_mem X (hq_94 S 48 i1)) rfl rfl (by decide) (hk_94 (Or.inl rfl) S (i1)) rfl rfl ?_
      show hp_T _ 116 34 _ [] _ _ _
      refine hp_sN [35] (pc' := 35) (L' := [some (.ref 47), some (.int i1)]) (st' := [.ref 47]) rfl rfl ?_
      refine hp_gf (pc' := 38) rfl (by decide) (hp_c47 X _) rfl rfl ?_
      refine hp_iv (virt := false) (pc' := 41) (rv := some (.int (hq_96 (hq_94 S 48 i1) 48))) (M1 := hp_mem X (hq_94 S 48 i1)) rfl rfl (by decide) (hk_96 (Or.inl rfl) (hq_94 S 48 i1)) rfl rfl ?_
      show hp_T _ 116 41 _ [.int (hq_96 (hq_94 S 48 i1) 48)] _ _ _
      refine hp_iv (virt := false) (pc' := 44) (rv := some (.int (hq_80 (hq_94 S 48 i1) (hq_96 (hq_94 S 48 i1) 48)))) (M1 := hp_mem X (hq_94 S 48 i1)) rfl rfl (by decide) (hk_80 (hq_94 S 48 i1) ((hq_96 (hq_94 S 48 i1) 48))) rfl rfl ?_
      show hp_T _ 116 44 _ [.int (hq_80 (hq_94 S 48 i1) (hq_96 (hq_94 S 48 i1) 48))] _ _ _
      exact hp_Ris rfl
    · refine hp_sN [25] (pc' := 25) (L' := [some (.ref 47), some (.int i1)]) (st' := [.int (Int32.ofInt (-3))]) rfl rfl ?_
      exact hp_Ris rfl
  · refine hp_sN [11] (pc' := 11) (L' := [some (.ref 47), some (.int i1)]) (st' := [.int (Int32.ofInt (-1))]) rfl rfl ?_
    exact hp_Ris rfl
theorem hk_116 {X : hp_X} (S : hp_S) (i1 : Int32) : hp_K 116 [.ref 47, .int i1] (hp_mem X S) (hp_is X) (hq_116 S i1) := by
  refine hp_mk (q := hzq_116) rfl (by decide) (L := [some (.ref 47), some (.int i1)]) rfl (fun n => ?_)
  exact ht_116 S i1 n
/-! 117: HatsOfTheWindModel.isLate(I)Z -/
def hq_117 (S : hp_S) (i1 : Int32) : Int32 := (hq_70 S i1 (Int32.ofInt 0) (Int32.ofInt 99))
set_option maxRecDepth 10000 in
theorem ht_117 {X : hp_X} (S : hp_S) (i1 : Int32) (n : Nat) : hp_T n 117 0 [some (.int i1)] [] (hp_mem X S) (hp_i X S) (hq_117 S i1) := by
  unfold hq_117
  refine hp_sN [1, 2, 4] (pc' := 4) (L' := [some (.int i1)]) (st' := [.int (Int32.ofInt 99), .int (Int32.ofInt 0), .int i1]) rfl rfl ?_
  refine hp_iv (virt := false) (pc' := 7) (rv := some (.int (hq_70 S i1 (Int32.ofInt 0) (Int32.ofInt 99)))) (M1 := hp_mem X (S)) rfl rfl (by decide) (hk_70 S (i1) ((Int32.ofInt 0)) ((Int32.ofInt 99))) rfl rfl ?_
  show hp_T _ 117 7 _ [.int (hq_70 S i1 (Int32.ofInt 0) (Int32.ofInt 99))] _ _ _
  exact hp_Ri rfl
theorem hk_117 {X : hp_X} (S : hp_S) (i1 : Int32) : hp_K 117 [.int i1] (hp_mem X S) (hp_i X S) (hq_117 S i1) := by
  refine hp_mk (q := hzq_117) rfl (by decide) (L := [some (.int i1)]) rfl (fun n => ?_)
  exact ht_117 S i1 n
/-! 118: HatsOfTheWindModel.takes(I)V -/
def hq_118 (S : hp_S) (i1 : Int32) : hp_S := hq_94 (hq_73 S 48 49) 49 i1
theorem hf_118 (S : hp_S) (i1 : Int32) (j : Nat) (z0 : j ≠ 49) : (hq_118 S i1) j = S j := by
  unfold hq_118
  repeat' split
  all_goals simp [hp_wo, hp_wgo, hp_cpo, hf_73, hf_94, z0]
set_option maxRecDepth 10000 in
theorem ht_118 {X : hp_X} (S : hp_S) (i1 : Int32) (n : Nat) : hp_T n 118 0 [some (.ref 47), some (.int i1)] [] (hp_mem X S) (hp_v X) (hq_118 S i1) := by
  unfold hq_118
  refine hp_sN [1] (pc' := 1) (L' := [some (.ref 47), some (.int i1)]) (st' := [.ref 47]) rfl rfl ?_
  refine hp_gf (pc' := 4) rfl (by decide) (hp_c47 X _) rfl rfl ?_
  refine hp_sN [5] (pc' := 5) (L' := [some (.ref 47), some (.int i1)]) (st' := [.ref 47, .ref 48]) rfl rfl ?_
  refine hp_gf (pc' := 8) rfl (by decide) (hp_c47 X _) rfl rfl ?_
  refine hp_iv (virt := false) (pc' := 11) (rv := none) (M1 := hp_mem X (hq_73 S 48 49)) rfl rfl (by decide) (hk_73 (Or.inl rfl) (Or.inr (Or.inl rfl)) S) rfl rfl ?_
  show hp_T _ 118 11 _ [] _ _ _
  refine hp_sN [12] (pc' := 12) (L' := [some (.ref 47), some (.int i1)]) (st' := [.ref 47]) rfl rfl ?_
  refine hp_gf (pc' := 15) rfl (by decide) (hp_c47 X _) rfl rfl ?_
  refine hp_sN [16] (pc' := 16) (L' := [some (.ref 47), some (.int i1)]) (st' := [.int i1, .ref 49]) rfl rfl ?_
  refine hp_iv (virt := false) (pc' := 19) (rv := none) (M1 := hp_mem X (hq_94 (hq_73 S 48 49) 49 i1)) rfl rfl (by decide) (hk_94 (Or.inr (Or.inl rfl)) (hq_73 S 48 49) (i1)) rfl rfl ?_
  show hp_T _ 118 19 _ [] _ _ _
  exact hp_Rv rfl
theorem hk_118 {X : hp_X} (S : hp_S) (i1 : Int32) : hp_K 118 [.ref 47, .int i1] (hp_mem X S) (hp_v X) (hq_118 S i1) := by
  refine hp_mk (q := hzq_118) rfl (by decide) (L := [some (.ref 47), some (.int i1)]) rfl (fun n => ?_)
  exact ht_118 S i1 n
/-! 119: HatsOfTheWindModel.hatThen(III)I -/
def hq_119 (S : hp_S) (i1 : Int32) (i2 : Int32) (i3 : Int32) : Int32 × hp_S := (if hz_cmp .eq (hq_77 S i1) 0 = true then ((Int32.ofInt (-1)), S) else (if hz_cmp .eq (hq_117 S i2) 0 = true then ((Int32.ofInt (-1)), S) else (if hz_cmp .ne (hq_70 S i3 (Int32.ofInt 0) (Int32.ofInt 1)) 0 = true then (if hz_cmp .ne i3 0 = true then ((hq_118 S i2 49 (hq_75 (hq_118 S i2) i1 (Int32.ofInt 2)).toNatClampNeg), hq_118 S i2) else ((hq_87 (hq_118 S i2) 49 i1), hq_118 S i2)) else ((Int32.ofInt (-1)), S))))
theorem hf_119 (S : hp_S) (i1 : Int32) (i2 : Int32) (i3 : Int32) (j : Nat) (z0 : j ≠ 49) : (hq_119 S i1 i2 i3).2 j = S j := by
  unfold hq_119
  repeat' split
  all_goals simp [hp_wo, hp_wgo, hp_cpo, hf_118, z0]
set_option maxRecDepth 10000 in
theorem ht_119 {X : hp_X} (S : hp_S) (i1 : Int32) (i2 : Int32) (i3 : Int32) (n : Nat) : hp_T n 119 0 [some (.ref 47), some (.int i1), some (.int i2), some (.int i3)] [] (hp_mem X S) (hp_is X) (hq_119 S i1 i2 i3) := by
  unfold hq_119
  refine hp_sN [1, 2] (pc' := 2) (L' := [some (.ref 47), some (.int i1), some (.int i2), some (.int i3)]) (st' := [.int i1, .ref 47]) rfl rfl ?_
  refine hp_iv (virt := true) (pc' := 5) (rv := some (.int (hq_77 S i1))) (M1 := hp_mem X (S)) rfl rfl (by decide) (hk_77 S (i1)) rfl rfl ?_
  show hp_T _ 119 5 _ [.int (hq_77 S i1)] _ _ _
  refine hp_if (pc' := 8) rfl rfl (fun h1 => ?_) (fun h1 => ?_)
  · refine hp_sN [25] (pc' := 25) (L' := [some (.ref 47), some (.int i1), some (.int i2), some (.int i3)]) (st' := [.int (Int32.ofInt (-1))]) rfl rfl ?_
    exact hp_Ris rfl
  · refine hp_sN [9] (pc' := 9) (L' := [some (.ref 47), some (.int i1), some (.int i2), some (.int i3)]) (st' := [.int i2]) rfl rfl ?_
    refine hp_iv (virt := false) (pc' := 12) (rv := some (.int (hq_117 S i2))) (M1 := hp_mem X (S)) rfl rfl (by decide) (hk_117 S (i2)) rfl rfl ?_
    show hp_T _ 119 12 _ [.int (hq_117 S i2)] _ _ _
    refine hp_if (pc' := 15) rfl rfl (fun h2 => ?_) (fun h2 => ?_)
    · refine hp_sN [25] (pc' := 25) (L' := [some (.ref 47), some (.int i1), some (.int i2), some (.int i3)]) (st' := [.int (Int32.ofInt (-1))]) rfl rfl ?_
      exact hp_Ris rfl
    · refine hp_sN [16, 17, 18] (pc' := 18) (L' := [some (.ref 47), some (.int i1), some (.int i2), some (.int i3)]) (st' := [.int (Int32.ofInt 1), .int (Int32.ofInt 0), .int i3]) rfl rfl ?_
      refine hp_iv (virt := false) (pc' := 21) (rv := some (.int (hq_70 S i3 (Int32.ofInt 0) (Int32.ofInt 1)))) (M1 := hp_mem X (S)) rfl rfl (by decide) (hk_70 S (i3) ((Int32.ofInt 0)) ((Int32.ofInt 1))) rfl rfl ?_
      show hp_T _ 119 21 _ [.int (hq_70 S i3 (Int32.ofInt 0) (Int32.ofInt 1))] _ _ _
      refine hp_if (pc' := 24) rfl rfl (fun h3 => ?_) (fun h3 => ?_)
      · refine hp_sN [27, 28] (pc' := 28) (L' := [some (.ref 47), some (.int i1), some (.int i2), some (.int i3)]) (st' := [.int i2, .ref 47]) rfl rfl ?_
        refine hp_iv (virt := true) (pc' := 31) (rv := none) (M1 := hp_mem X (hq_118 S i2)) rfl rfl (by decide) (hk_118 S (i2)) rfl rfl ?_
        show hp_T _ 119 31 _ [] _ _ _
        refine hp_sN [32] (pc' := 32) (L' := [some (.ref 47), some (.int i1), some (.int i2), some (.int i3)]) (st' := [.int i3]) rfl rfl ?_
        refine hp_if (pc' := 35) rfl rfl (fun h4 => ?_) (fun h4 => ?_)
        · refine hp_sN [47] (pc' := 47) (L' := [some (.ref 47), some (.int i1), some (.int i2), some (.int i3)]) (st' := [.ref 47]) rfl rfl ?_
          refine hp_gf (pc' := 50) rfl (by decide) (hp_c47 X _) rfl rfl ?_
          refine hp_sN [51, 52] (pc' := 52) (L' := [some (.ref 47), some (.int i1), some (.int i2), some (.int i3)]) (st' := [.int (Int32.ofInt 2), .int i1, .ref 49]) rfl rfl ?_
          refine hp_iv (virt := false) (pc' := 55) (rv := some (.int (hq_75 (hq_118 S i2) i1 (Int32.ofInt 2)))) (M1 := hp_mem X (hq_118 S i2)) rfl rfl (by decide) (hk_75 (hq_118 S i2) (i1) ((Int32.ofInt 2))) rfl rfl ?_
          show hp_T _ 119 55 _ [.int (hq_75 (hq_118 S i2) i1 (Int32.ofInt 2)), .ref 49] _ _ _
          refine hp_al (pc' := 56) rfl (hp_cl (Or.inr (Or.inl rfl))) (hp_cc (Or.inr (Or.inl rfl)) X _) rfl ?_
          exact hp_Ris rfl
        · refine hp_sN [36] (pc' := 36) (L' := [some (.ref 47), some (.int i1), some (.int i2), some (.int i3)]) (st' := [.ref 47]) rfl rfl ?_
          refine hp_gf (pc' := 39) rfl (by decide) (hp_c47 X _) rfl rfl ?_
          refine hp_sN [40] (pc' := 40) (L' := [some (.ref 47), some (.int i1), some (.int i2), some (.int i3)]) (st' := [.int i1, .ref 49]) rfl rfl ?_
          refine hp_iv (virt := false) (pc' := 43) (rv := some (.int (hq_87 (hq_118 S i2) 49 i1))) (M1 := hp_mem X (hq_118 S i2)) rfl rfl (by decide) (hk_87 (Or.inr (Or.inl rfl)) (hq_118 S i2) (i1)) rfl rfl ?_
          show hp_T _ 119 43 _ [.int (hq_87 (hq_118 S i2) 49 i1)] _ _ _
          refine hp_sN [56] (pc' := 56) (L' := [some (.ref 47), some (.int i1), some (.int i2), some (.int i3)]) (st' := [.int (hq_87 (hq_118 S i2) 49 i1)]) rfl rfl ?_
          exact hp_Ris rfl
      · refine hp_sN [25] (pc' := 25) (L' := [some (.ref 47), some (.int i1), some (.int i2), some (.int i3)]) (st' := [.int (Int32.ofInt (-1))]) rfl rfl ?_
        exact hp_Ris rfl
theorem hk_119 {X : hp_X} (S : hp_S) (i1 : Int32) (i2 : Int32) (i3 : Int32) : hp_K 119 [.ref 47, .int i1, .int i2, .int i3] (hp_mem X S) (hp_is X) (hq_119 S i1 i2 i3) := by
  refine hp_mk (q := hzq_119) rfl (by decide) (L := [some (.ref 47), some (.int i1), some (.int i2), some (.int i3)]) rfl (fun n => ?_)
  exact ht_119 S i1 i2 i3 n
/-! 120: HatsOfTheWindModel.personThen(II)I -/
def hq_120 (S : hp_S) (i1 : Int32) (i2 : Int32) : Int32 × hp_S := (if hz_cmp .eq (hq_76 S i1) 0 = true then ((Int32.ofInt (-1)), S) else (if hz_cmp .ne (hq_117 S i2) 0 = true then ((hq_118 S i2 49 (hq_74 (hq_118 S i2) i1 (Int32.ofInt 0)).toNatClampNeg), hq_118 S i2) else ((Int32.ofInt (-1)), S)))
theorem hf_120 (S : hp_S) (i1 : Int32) (i2 : Int32) (j : Nat) (z0 : j ≠ 49) : (hq_120 S i1 i2).2 j = S j := by
  unfold hq_120
  repeat' split
  all_goals simp [hp_wo, hp_wgo, hp_cpo, hf_118, z0]
set_option maxRecDepth 10000 in
theorem ht_120 {X : hp_X} (S : hp_S) (i1 : Int32) (i2 : Int32) (n : Nat) : hp_T n 120 0 [some (.ref 47), some (.int i1), some (.int i2)] [] (hp_mem X S) (hp_is X) (hq_120 S i1 i2) := by
  unfold hq_120
  refine hp_sN [1, 2] (pc' := 2) (L' := [some (.ref 47), some (.int i1), some (.int i2)]) (st' := [.int i1, .ref 47]) rfl rfl ?_
  refine hp_iv (virt := true) (pc' := 5) (rv := some (.int (hq_76 S i1))) (M1 := hp_mem X (S)) rfl rfl (by decide) (hk_76 S (i1)) rfl rfl ?_
  show hp_T _ 120 5 _ [.int (hq_76 S i1)] _ _ _
  refine hp_if (pc' := 8) rfl rfl (fun h1 => ?_) (fun h1 => ?_)
  · refine hp_sN [16] (pc' := 16) (L' := [some (.ref 47), some (.int i1), some (.int i2)]) (st' := [.int (Int32.ofInt (-1))]) rfl rfl ?_
    exact hp_Ris rfl
  · refine hp_sN [9] (pc' := 9) (L' := [some (.ref 47), some (.int i1), some (.int i2)]) (st' := [.int i2]) rfl rfl ?_
    refine hp_iv (virt := false) (pc' := 12) (rv := some (.int (hq_117 S i2))) (M1 := hp_mem X (S)) rfl rfl (by decide) (hk_117 S (i2)) rfl rfl ?_
    show hp_T _ 120 12 _ [.int (hq_117 S i2)] _ _ _
    refine hp_if (pc' := 15) rfl rfl (fun h2 => ?_) (fun h2 => ?_)
    · refine hp_sN [18, 19] (pc' := 19) (L' := [some (.ref 47), some (.int i1), some (.int i2)]) (st' := [.int i2, .ref 47]) rfl rfl ?_
      refine hp_iv (virt := true) (pc' := 22) (rv := none) (M1 := hp_mem X (hq_118 S i2)) rfl rfl (by decide) (hk_118 S (i2)) rfl rfl ?_
      show hp_T _ 120 22 _ [] _ _ _
      refine hp_sN [23] (pc' := 23) (L' := [some (.ref 47), some (.int i1), some (.int i2)]) (st' := [.ref 47]) rfl rfl ?_
      refine hp_gf (pc' := 26) rfl (by decide) (hp_c47 X _) rfl rfl ?_
      refine hp_sN [27, 28] (pc' := 28) (L' := [some (.ref 47), some (.int i1), some (.int i2)]) (st' := [.int (Int32.ofInt 0), .int i1, .ref 49]) rfl rfl ?_
      refine hp_iv (virt := false) (pc' := 31) (rv := some (.int (hq_74 (hq_118 S i2) i1 (Int32.ofInt 0)))) (M1 := hp_mem X (hq_118 S i2)) rfl rfl (by decide) (hk_74 (hq_118 S i2) (i1) ((Int32.ofInt 0))) rfl rfl ?_
      show hp_T _ 120 31 _ [.int (hq_74 (hq_118 S i2) i1 (Int32.ofInt 0)), .ref 49] _ _ _
      refine hp_al (pc' := 32) rfl (hp_cl (Or.inr (Or.inl rfl))) (hp_cc (Or.inr (Or.inl rfl)) X _) rfl ?_
      exact hp_Ris rfl
    · refine hp_sN [16] (pc' := 16) (L' := [some (.ref 47), some (.int i1), some (.int i2)]) (st' := [.int (Int32.ofInt (-1))]) rfl rfl ?_
      exact hp_Ris rfl
theorem hk_120 {X : hp_X} (S : hp_S) (i1 : Int32) (i2 : Int32) : hp_K 120 [.ref 47, .int i1, .int i2] (hp_mem X S) (hp_is X) (hq_120 S i1 i2) := by
  refine hp_mk (q := hzq_120) rfl (by decide) (L := [some (.ref 47), some (.int i1), some (.int i2)]) rfl (fun n => ?_)
  exact ht_120 S i1 i2 n
/-! 121: HatsOfTheWindModel.worthLeft([I)I -/
def hq_121_4 (c : Nat) : Nat → hp_S → Int32 → Int32 → Int32
  | 0, S, _, _ => 0
  | m + 1, S, v1, v2 => (if hz_cmp .ge v2 (S c (Int32.ofInt 1).toNatClampNeg) = true then v1 else (if hz_cmp .eq (hq_97 S c v2) 0 = true then hq_121_4 c m S (v1 + (hq_99 S c v2)) (v2 + (Int32.ofInt 1)) else hq_121_4 c m S (v1 + (Int32.ofInt 0)) (v2 + (Int32.ofInt 1))))
def hq_121 (S : hp_S) (c : Nat) : Int32 := (hq_121_4 c (((S c (Int32.ofInt 1).toNatClampNeg).toInt - (Int32.ofInt 0).toInt).toNat + 1) S ((Int32.ofInt 0)) ((Int32.ofInt 0)))
set_option maxRecDepth 10000 in
theorem ht_121_4 {α : Type} {φ : α → Option Value × hzMem} {R : α} {X : hp_X} (N : Nat) {c : Nat} (hc : hp_c c) (S : hp_S) : ∀ (n : Nat), n ≤ N → ∀ (m : Nat) (v1 : Int32) (v2 : Int32) (Z : Int32), ((S c (Int32.ofInt 1).toNatClampNeg).toInt - v2.toInt).toNat < m → hq_121_4 c m S v1 v2 = Z → (∀ (x2 : Option Value), hp_T N 121 37 [some (.ref c), some (.int Z), x2] [] (hp_mem X S) φ R) → hp_T n 121 4 [some (.ref c), some (.int v1), some (.int v2)] [] (hp_mem X S) φ R := by
  intro n
  induction n with
  | zero => intros; exact hp_0
  | succ n ih =>
    intro hN m v1 v2 Z hm hZ kk
    cases m with
    | zero => exact absurd hm (Nat.not_lt_zero _)
    | succ m =>
      rw [hq_121_4] at hZ
      refine hp_sN [5, 6, 7] (pc' := 7) (L' := [some (.ref c), some (.int v1), some (.int v2)]) (st' := [.int (Int32.ofInt 1), .ref c, .int v2]) rfl rfl ?_
      refine hp_al (pc' := 8) rfl (hp_cl hc) (hp_cc hc X _) rfl ?_
      refine hp_ic2 (pc' := 11) rfl rfl (fun h1 => ?_) (fun h1 => ?_)
      · rw [if_pos h1] at hZ
        subst hZ
        exact hp_le hN (kk (some (.int v2)))
      · rw [if_neg (hp_nt h1)] at hZ
        refine hp_sN [12, 13, 14] (pc' := 14) (L' := [some (.ref c), some (.int v1), some (.int v2)]) (st' := [.int v2, .ref c, .int v1]) rfl rfl ?_
        refine hp_iv (virt := false) (pc' := 17) (rv := some (.int (hq_97 S c v2))) (M1 := hp_mem X (S)) rfl rfl (by decide) (hk_97 hc S (v2)) rfl rfl ?_
        show hp_T _ 121 17 _ [.int (hq_97 S c v2), .int v1] _ _ _
        refine hp_if2 (pc' := 20) rfl rfl (fun h2 => ?_) (fun h2 => ?_)
        · rw [if_pos h2] at hZ
          refine hp_sN [25, 26] (pc' := 26) (L' := [some (.ref c), some (.int v1), some (.int v2)]) (st' := [.int v2, .ref c, .int v1]) rfl rfl ?_
          refine hp_iv (virt := false) (pc' := 29) (rv := some (.int (hq_99 S c v2))) (M1 := hp_mem X (S)) rfl rfl (by decide) (hk_99 hc S (v2)) rfl rfl ?_
          show hp_T _ 121 29 _ [.int (hq_99 S c v2), .int v1] _ _ _
          refine hp_sB 30 [31, 34, 4] (pc' := 4) (L' := [some (.ref c), some (.int (v1 + (hq_99 S c v2))), some (.int (v2 + (Int32.ofInt 1)))]) (st' := []) rfl rfl ?_
          exact ih (Nat.le_trans (Nat.le_succ n) hN) m ((v1 + (hq_99 S c v2))) ((v2 + (Int32.ofInt 1))) Z (hp_up h1 hm) hZ kk
        · rw [if_neg (hp_nt h2)] at hZ
          refine hp_sB 21 [29, 30, 31, 34, 4] (pc' := 4) (L' := [some (.ref c), some (.int (v1 + (Int32.ofInt 0))), some (.int (v2 + (Int32.ofInt 1)))]) (st' := []) rfl rfl ?_
          exact ih (Nat.le_trans (Nat.le_succ n) hN) m ((v1 + (Int32.ofInt 0))) ((v2 + (Int32.ofInt 1))) Z (hp_up h1 hm) hZ kk
set_option maxRecDepth 10000 in
theorem ht_121 {X : hp_X} {c : Nat} (hc : hp_c c) (S : hp_S) (n : Nat) : hp_T n 121 0 [some (.ref c), none, none] [] (hp_mem X S) (hp_i X S) (hq_121 S c) := by
  unfold hq_121
  refine hp_sN [1, 2, 3, 4] (pc' := 4) (L' := [some (.ref c), some (.int (Int32.ofInt 0)), some (.int (Int32.ofInt 0))]) (st' := []) rfl rfl ?_
  refine ht_121_4 n hc S n (Nat.le_refl _) (((S c (Int32.ofInt 1).toNatClampNeg).toInt - (Int32.ofInt 0).toInt).toNat + 1)  ((Int32.ofInt 0)) ((Int32.ofInt 0))  _ (Nat.lt_succ_self _) rfl (fun x2_4 => ?_)
  show hp_T _ 121 37 [some (.ref c), some (.int (hq_121_4 c (((S c (Int32.ofInt 1).toNatClampNeg).toInt - (Int32.ofInt 0).toInt).toNat + 1) S ((Int32.ofInt 0)) ((Int32.ofInt 0)))), x2_4] _ (hp_mem X S) _ _
  refine hp_sN [38] (pc' := 38) (L' := [some (.ref c), some (.int (hq_121_4 c (((S c (Int32.ofInt 1).toNatClampNeg).toInt - (Int32.ofInt 0).toInt).toNat + 1) S ((Int32.ofInt 0)) ((Int32.ofInt 0)))), x2_4]) (st' := [.int (hq_121_4 c (((S c (Int32.ofInt 1).toNatClampNeg).toInt - (Int32.ofInt 0).toInt).toNat + 1) S ((Int32.ofInt 0)) ((Int32.ofInt 0)))]) rfl rfl ?_
  exact hp_Ri rfl
theorem hk_121 {X : hp_X} {c : Nat} (hc : hp_c c) (S : hp_S) : hp_K 121 [.ref c] (hp_mem X S) (hp_i X S) (hq_121 S c) := by
  refine hp_mk (q := hzq_121) rfl (by decide) (L := [some (.ref c), none, none]) rfl (fun n => ?_)
  exact ht_121 hc S n
/-! 122: HatsOfTheWindModel.then(II)I -/
def hq_122 (S : hp_S) (i1 : Int32) (i2 : Int32) : Int32 × hp_S := (if hz_cmp .eq (hq_117 S i1) 0 = true then ((Int32.ofInt (-1)), S) else (if hz_cmp .ne (hq_70 S i2 (Int32.ofInt 0) (Int32.ofInt 2)) 0 = true then (if hz_cmp .ne i2 0 = true then (if hz_cmp .ne i2 (Int32.ofInt 1) = true then ((hq_121 (hq_118 S i1) 49), hq_118 S i1) else ((hq_80 (hq_118 S i1) (hq_98 (hq_118 S i1) 49)), hq_118 S i1)) else ((hq_96 (hq_118 S i1) 49), hq_118 S i1)) else ((Int32.ofInt (-1)), S)))
theorem hf_122 (S : hp_S) (i1 : Int32) (i2 : Int32) (j : Nat) (z0 : j ≠ 49) : (hq_122 S i1 i2).2 j = S j := by
  unfold hq_122
  repeat' split
  all_goals simp [hp_wo, hp_wgo, hp_cpo, hf_118, z0]
set_option maxRecDepth 10000 in
theorem ht_122 {X : hp_X} (S : hp_S) (i1 : Int32) (i2 : Int32) (n : Nat) : hp_T n 122 0 [some (.ref 47), some (.int i1), some (.int i2)] [] (hp_mem X S) (hp_is X) (hq_122 S i1 i2) := by
  unfold hq_122
  refine hp_sN [1] (pc' := 1) (L' := [some (.ref 47), some (.int i1), some (.int i2)]) (st' := [.int i1]) rfl rfl ?_
  refine hp_iv (virt := false) (pc' := 4) (rv := some (.int (hq_117 S i1))) (M1 := hp_mem X (S)) rfl rfl (by decide) (hk_117 S (i1)) rfl rfl ?_
  show hp_T _ 122 4 _ [.int (hq_117 S i1)] _ _ _
  refine hp_if (pc' := 7) rfl rfl (fun h1 => ?_) (fun h1 => ?_)
  · refine hp_sN [17] (pc' := 17) (L' := [some (.ref 47), some (.int i1), some (.int i2)]) (st' := [.int (Int32.ofInt (-1))]) rfl rfl ?_
    exact hp_Ris rfl
  · refine hp_sN [8, 9, 10] (pc' := 10) (L' := [some (.ref 47), some (.int i1), some (.int i2)]) (st' := [.int (Int32.ofInt 2), .int (Int32.ofInt 0), .int i2]) rfl rfl ?_
    refine hp_iv (virt := false) (pc' := 13) (rv := some (.int (hq_70 S i2 (Int32.ofInt 0) (Int32.ofInt 2)))) (M1 := hp_mem X (S)) rfl rfl (by decide) (hk_70 S (i2) ((Int32.ofInt 0)) ((Int32.ofInt 2))) rfl rfl ?_
    show hp_T _ 122 13 _ [.int (hq_70 S i2 (Int32.ofInt 0) (Int32.ofInt 2))] _ _ _
    refine hp_if (pc' := 16) rfl rfl (fun h2 => ?_) (fun h2 => ?_)
    · refine hp_sN [19, 20] (pc' := 20) (L' := [some (.ref 47), some (.int i1), some (.int i2)]) (st' := [.int i1, .ref 47]) rfl rfl ?_
      refine hp_iv (virt := true) (pc' := 23) (rv := none) (M1 := hp_mem X (hq_118 S i1)) rfl rfl (by decide) (hk_118 S (i1)) rfl rfl ?_
      show hp_T _ 122 23 _ [] _ _ _
      refine hp_sN [24] (pc' := 24) (L' := [some (.ref 47), some (.int i1), some (.int i2)]) (st' := [.int i2]) rfl rfl ?_
      refine hp_if (pc' := 27) rfl rfl (fun h3 => ?_) (fun h3 => ?_)
      · refine hp_sN [38, 39] (pc' := 39) (L' := [some (.ref 47), some (.int i1), some (.int i2)]) (st' := [.int (Int32.ofInt 1), .int i2]) rfl rfl ?_
        refine hp_ic (pc' := 42) rfl rfl (fun h4 => ?_) (fun h4 => ?_)
        · refine hp_sN [56] (pc' := 56) (L' := [some (.ref 47), some (.int i1), some (.int i2)]) (st' := [.ref 47]) rfl rfl ?_
          refine hp_gf (pc' := 59) rfl (by decide) (hp_c47 X _) rfl rfl ?_
          refine hp_iv (virt := false) (pc' := 62) (rv := some (.int (hq_121 (hq_118 S i1) 49))) (M1 := hp_mem X (hq_118 S i1)) rfl rfl (by decide) (hk_121 (Or.inr (Or.inl rfl)) (hq_118 S i1)) rfl rfl ?_
          show hp_T _ 122 62 _ [.int (hq_121 (hq_118 S i1) 49)] _ _ _
          exact hp_Ris rfl
        · refine hp_sN [43] (pc' := 43) (L' := [some (.ref 47), some (.int i1), some (.int i2)]) (st' := [.ref 47]) rfl rfl ?_
          refine hp_gf (pc' := 46) rfl (by decide) (hp_c47 X _) rfl rfl ?_
          refine hp_iv (virt := false) (pc' := 49) (rv := some (.int (hq_98 (hq_118 S i1) 49))) (M1 := hp_mem X (hq_118 S i1)) rfl rfl (by decide) (hk_98 (Or.inr (Or.inl rfl)) (hq_118 S i1)) rfl rfl ?_
          show hp_T _ 122 49 _ [.int (hq_98 (hq_118 S i1) 49)] _ _ _
          refine hp_iv (virt := false) (pc' := 52) (rv := some (.int (hq_80 (hq_118 S i1) (hq_98 (hq_118 S i1) 49)))) (M1 := hp_mem X (hq_118 S i1)) rfl rfl (by decide) (hk_80 (hq_118 S i1) ((hq_98 (hq_118 S i1) 49))) rfl rfl ?_
          show hp_T _ 122 52 _ [.int (hq_80 (hq_118 S i1) (hq_98 (hq_118 S i1) 49))] _ _ _
          refine hp_sN [62] (pc' := 62) (L' := [some (.ref 47), some (.int i1), some (.int i2)]) (st' := [.int (hq_80 (hq_118 S i1) (hq_98 (hq_118 S i1) 49))]) rfl rfl ?_
          exact hp_Ris rfl
      · refine hp_sN [28] (pc' := 28) (L' := [some (.ref 47), some (.int i1), some (.int i2)]) (st' := [.ref 47]) rfl rfl ?_
        refine hp_gf (pc' := 31) rfl (by decide) (hp_c47 X _) rfl rfl ?_
        refine hp_iv (virt := false) (pc' := 34) (rv := some (.int (hq_96 (hq_118 S i1) 49))) (M1 := hp_mem X (hq_118 S i1)) rfl rfl (by decide) (hk_96 (Or.inr (Or.inl rfl)) (hq_118 S i1)) rfl rfl ?_
        show hp_T _ 122 34 _ [.int (hq_96 (hq_118 S i1) 49)] _ _ _
        refine hp_sN [62] (pc' := 62) (L' := [some (.ref 47), some (.int i1), some (.int i2)]) (st' := [.int (hq_96 (hq_118 S i1) 49)]) rfl rfl ?_
        exact hp_Ris rfl
    · refine hp_sN [17] (pc' := 17) (L' := [some (.ref 47), some (.int i1), some (.int i2)]) (st' := [.int (Int32.ofInt (-1))]) rfl rfl ?_
      exact hp_Ris rfl
theorem hk_122 {X : hp_X} (S : hp_S) (i1 : Int32) (i2 : Int32) : hp_K 122 [.ref 47, .int i1, .int i2] (hp_mem X S) (hp_is X) (hq_122 S i1 i2) := by
  refine hp_mk (q := hzq_122) rfl (by decide) (L := [some (.ref 47), some (.int i1), some (.int i2)]) rfl (fun n => ?_)
  exact ht_122 S i1 i2 n
/-! 123: HatsOfTheWindModel.takenIn(III)I -/
def hq_123_3 (i1 : Int32) (i2 : Int32) (i3 : Int32) : Nat → hp_S → Int32 → Int32 × hp_S
  | 0, S, _ => (0, S)
  | m + 1, S, v4 => (if hz_cmp .gt v4 i3 = true then ((Int32.ofInt (-4)), S) else (if hz_cmp .eq (hq_93 S 49 (Int32.ofInt 0) 49 (hq_75 (hq_93 S 49 (Int32.ofInt 0)) i1 (Int32.ofInt 2)).toNatClampNeg) i2 = true then hq_123_3 i1 i2 i3 m (hq_93 S 49 (Int32.ofInt 0)) (v4 + (Int32.ofInt 1)) else (v4, hq_93 S 49 (Int32.ofInt 0))))
def hq_123 (S : hp_S) (i1 : Int32) (i2 : Int32) (i3 : Int32) : Int32 × hp_S := (hq_123_3 i1 i2 i3 ((i3.toInt + 1 - (Int32.ofInt 1).toInt).toNat + 1) S ((Int32.ofInt 1)))
theorem hf_123_3 {i1 : Int32} {i2 : Int32} {i3 : Int32} (j : Nat) (z0 : j ≠ 49) : ∀ (m : Nat) (S : hp_S) (v4 : Int32), (hq_123_3 i1 i2 i3 m S v4).2 j = S j := by
  intro m
  induction m with
  | zero => intros; rfl
  | succ m ih =>
    intro S v4
    rw [hq_123_3]
    repeat' split
    all_goals simp [ih, hp_wo, hp_wgo, hp_cpo, hf_93, z0]
theorem hf_123 (S : hp_S) (i1 : Int32) (i2 : Int32) (i3 : Int32) (j : Nat) (z0 : j ≠ 49) : (hq_123 S i1 i2 i3).2 j = S j := by
  unfold hq_123
  repeat' split
  all_goals simp [hp_wo, hp_wgo, hp_cpo, hf_93, z0, hf_123_3]
set_option maxRecDepth 10000 in
theorem ht_123_3 {X : hp_X} (i1 : Int32) (i2 : Int32) (i3 : Int32) (hn : i3.toInt < 2147483647) : ∀ (n m : Nat) (S : hp_S) (v4 : Int32), (i3.toInt + 1 - v4.toInt).toNat < m → hp_T n 123 3 [some (.ref 47), some (.int i1), some (.int i2), some (.int i3), some (.int v4)] [] (hp_mem X S) (hp_is X) (hq_123_3 i1 i2 i3 m S v4) := by
  intro n
  induction n with
  | zero => intros; exact hp_0
  | succ n ih =>
    intro m S v4 hm
    cases m with
    | zero => exact absurd hm (Nat.not_lt_zero _)
    | succ m =>
      rw [hq_123_3]
      refine hp_sN [5, 6] (pc' := 6) (L' := [some (.ref 47), some (.int i1), some (.int i2), some (.int i3), some (.int v4)]) (st' := [.int i3, .int v4]) rfl rfl ?_
      refine hp_ic (pc' := 9) rfl rfl (fun h1 => ?_) (fun h1 => ?_)
      · refine hp_sN [42] (pc' := 42) (L' := [some (.ref 47), some (.int i1), some (.int i2), some (.int i3), some (.int v4)]) (st' := [.int (Int32.ofInt (-4))]) rfl rfl ?_
        exact hp_Ris rfl
      · refine hp_sN [10] (pc' := 10) (L' := [some (.ref 47), some (.int i1), some (.int i2), some (.int i3), some (.int v4)]) (st' := [.ref 47]) rfl rfl ?_
        refine hp_gf (pc' := 13) rfl (by decide) (hp_c47 X _) rfl rfl ?_
        refine hp_sN [14] (pc' := 14) (L' := [some (.ref 47), some (.int i1), some (.int i2), some (.int i3), some (.int v4)]) (st' := [.int (Int32.ofInt 0), .ref 49]) rfl rfl ?_
        refine hp_iv (virt := false) (pc' := 17) (rv := none) (M1 := hp_mem X (hq_93 S 49 (Int32.ofInt 0))) rfl rfl (by decide) (hk_93 (Or.inr (Or.inl rfl)) S ((Int32.ofInt 0))) rfl rfl ?_
        show hp_T _ 123 17 _ [] _ _ _
        refine hp_sN [18] (pc' := 18) (L' := [some (.ref 47), some (.int i1), some (.int i2), some (.int i3), some (.int v4)]) (st' := [.ref 47]) rfl rfl ?_
        refine hp_gf (pc' := 21) rfl (by decide) (hp_c47 X _) rfl rfl ?_
        refine hp_sN [22, 23] (pc' := 23) (L' := [some (.ref 47), some (.int i1), some (.int i2), some (.int i3), some (.int v4)]) (st' := [.int (Int32.ofInt 2), .int i1, .ref 49]) rfl rfl ?_
        refine hp_iv (virt := false) (pc' := 26) (rv := some (.int (hq_75 (hq_93 S 49 (Int32.ofInt 0)) i1 (Int32.ofInt 2)))) (M1 := hp_mem X (hq_93 S 49 (Int32.ofInt 0))) rfl rfl (by decide) (hk_75 (hq_93 S 49 (Int32.ofInt 0)) (i1) ((Int32.ofInt 2))) rfl rfl ?_
        show hp_T _ 123 26 _ [.int (hq_75 (hq_93 S 49 (Int32.ofInt 0)) i1 (Int32.ofInt 2)), .ref 49] _ _ _
        refine hp_al (pc' := 27) rfl (hp_cl (Or.inr (Or.inl rfl))) (hp_cc (Or.inr (Or.inl rfl)) X _) rfl ?_
        refine hp_sN [28] (pc' := 28) (L' := [some (.ref 47), some (.int i1), some (.int i2), some (.int i3), some (.int v4)]) (st' := [.int i2, .int (hq_93 S 49 (Int32.ofInt 0) 49 (hq_75 (hq_93 S 49 (Int32.ofInt 0)) i1 (Int32.ofInt 2)).toNatClampNeg)]) rfl rfl ?_
        refine hp_ic (pc' := 31) rfl rfl (fun h2 => ?_) (fun h2 => ?_)
        · refine hp_sB 37 [3] (pc' := 3) (L' := [some (.ref 47), some (.int i1), some (.int i2), some (.int i3), some (.int (v4 + (Int32.ofInt 1)))]) (st' := []) rfl rfl ?_
          exact ih m (hq_93 S 49 (Int32.ofInt 0)) ((v4 + (Int32.ofInt 1))) (hp_up2 h1 hm hn)
        · refine hp_sN [33] (pc' := 33) (L' := [some (.ref 47), some (.int i1), some (.int i2), some (.int i3), some (.int v4)]) (st' := [.int v4]) rfl rfl ?_
          exact hp_Ris rfl
set_option maxRecDepth 10000 in
theorem ht_123 {X : hp_X} (S : hp_S) (i1 : Int32) (i2 : Int32) (i3 : Int32) (hn : i3.toInt < 2147483647) (n : Nat) : hp_T n 123 0 [some (.ref 47), some (.int i1), some (.int i2), some (.int i3), none] [] (hp_mem X S) (hp_is X) (hq_123 S i1 i2 i3) := by
  unfold hq_123
  refine hp_sN [1, 3] (pc' := 3) (L' := [some (.ref 47), some (.int i1), some (.int i2), some (.int i3), some (.int (Int32.ofInt 1))]) (st' := []) rfl rfl ?_
  exact ht_123_3 i1 i2 i3 hn  n ((i3.toInt + 1 - (Int32.ofInt 1).toInt).toNat + 1) S ((Int32.ofInt 1))  (Nat.lt_succ_self _)
theorem hk_123 {X : hp_X} (S : hp_S) (i1 : Int32) (i2 : Int32) (i3 : Int32) (hn : i3.toInt < 2147483647) : hp_K 123 [.ref 47, .int i1, .int i2, .int i3] (hp_mem X S) (hp_is X) (hq_123 S i1 i2 i3) := by
  refine hp_mk (q := hzq_123) rfl (by decide) (L := [some (.ref 47), some (.int i1), some (.int i2), some (.int i3), none]) rfl (fun n => ?_)
  exact ht_123 S i1 i2 i3 hn n
/-! 124: HatsOfTheWindModel.taken(I)I -/
def hq_124 (S : hp_S) (i1 : Int32) : Int32 × hp_S := (if hz_cmp .ne (hq_77 S i1) 0 = true then (if hz_cmp .ne (hq_85 S 48 i1) 0 = true then ((hq_123 (hq_73 S 48 49) i1 (hq_73 S 48 49 48 (hq_75 (hq_73 S 48 49) i1 (Int32.ofInt 2)).toNatClampNeg) (Int32.ofInt 99)).1, (hq_123 (hq_73 S 48 49) i1 (hq_73 S 48 49 48 (hq_75 (hq_73 S 48 49) i1 (Int32.ofInt 2)).toNatClampNeg) (Int32.ofInt 99)).2) else ((Int32.ofInt (-3)), S)) else ((Int32.ofInt (-1)), S))
theorem hf_124 (S : hp_S) (i1 : Int32) (j : Nat) (z0 : j ≠ 49) : (hq_124 S i1).2 j = S j := by
  unfold hq_124
  repeat' split
  all_goals simp [hp_wo, hp_wgo, hp_cpo, hf_73, hf_123, z0]
set_option maxRecDepth 10000 in
theorem ht_124 {X : hp_X} (S : hp_S) (i1 : Int32) (n : Nat) : hp_T n 124 0 [some (.ref 47), some (.int i1)] [] (hp_mem X S) (hp_is X) (hq_124 S i1) := by
  unfold hq_124
  refine hp_sN [1, 2] (pc' := 2) (L' := [some (.ref 47), some (.int i1)]) (st' := [.int i1, .ref 47]) rfl rfl ?_
  refine hp_iv (virt := true) (pc' := 5) (rv := some (.int (hq_77 S i1))) (M1 := hp_mem X (S)) rfl rfl (by decide) (hk_77 S (i1)) rfl rfl ?_
  show hp_T _ 124 5 _ [.int (hq_77 S i1)] _ _ _
  refine hp_if (pc' := 8) rfl rfl (fun h1 => ?_) (fun h1 => ?_)
  · refine hp_sN [11] (pc' := 11) (L' := [some (.ref 47), some (.int i1)]) (st' := [.ref 47]) rfl rfl ?_
    refine hp_gf (pc' := 14) rfl (by decide) (hp_c47 X _) rfl rfl ?_
    refine hp_sN [15] (pc' := 15) (L' := [some (.ref 47), some (.int i1)]) (st' := [.int i1, .ref 48]) rfl rfl ?_
    refine hp_iv (virt := false) (pc' := 18) (rv := some (.int (hq_85 S 48 i1))) (M1 := hp_mem X (S)) rfl rfl (by decide) (hk_85 (Or.inl rfl) S (i1)) rfl rfl ?_
    show hp_T _ 124 18 _ [.int (hq_85 S 48 i1)] _ _ _
    refine hp_if (pc' := 21) rfl rfl (fun h2 => ?_) (fun h2 => ?_)
    · refine hp_sN [25] (pc' := 25) (L' := [some (.ref 47), some (.int i1)]) (st' := [.ref 47]) rfl rfl ?_
      refine hp_gf (pc' := 28) rfl (by decide) (hp_c47 X _) rfl rfl ?_
      refine hp_sN [29] (pc' := 29) (L' := [some (.ref 47), some (.int i1)]) (st' := [.ref 47, .ref 48]) rfl rfl ?_
      refine hp_gf (pc' := 32) rfl (by decide) (hp_c47 X _) rfl rfl ?_
      refine hp_iv (virt := false) (pc' := 35) (rv := none) (M1 := hp_mem X (hq_73 S 48 49)) rfl rfl (by decide) (hk_73 (Or.inl rfl) (Or.inr (Or.inl rfl)) S) rfl rfl ?_
      show hp_T _ 124 35 _ [] _ _ _
      refine hp_sN [36, 37, 38] (pc' := 38) (L' := [some (.ref 47), some (.int i1)]) (st' := [.ref 47, .int i1, .ref 47]) rfl rfl ?_
      refine hp_gf (pc' := 41) rfl (by decide) (hp_c47 X _) rfl rfl ?_
      refine hp_sN [42, 43] (pc' := 43) (L' := [some (.ref 47), some (.int i1)]) (st' := [.int (Int32.ofInt 2), .int i1, .ref 48, .int i1, .ref 47]) rfl rfl ?_
      refine hp_iv (virt := false) (pc' := 46) (rv := some (.int (hq_75 (hq_73 S 48 49) i1 (Int32.ofInt 2)))) (M1 := hp_mem X (hq_73 S 48 49)) rfl rfl (by decide) (hk_75 (hq_73 S 48 49) (i1) ((Int32.ofInt 2))) rfl rfl ?_
      show hp_T _ 124 46 _ [.int (hq_75 (hq_73 S 48 49) i1 (Int32.ofInt 2)), .ref 48, .int i1, .ref 47] _ _ _
      refine hp_al (pc' := 47) rfl (hp_cl (Or.inl rfl)) (hp_cc (Or.inl rfl) X _) rfl ?_
      refine hp_sN [49] (pc' := 49) (L' := [some (.ref 47), some (.int i1)]) (st' := [.int (Int32.ofInt 99), .int (hq_73 S 48 49 48 (hq_75 (hq_73 S 48 49) i1 (Int32.ofInt 2)).toNatClampNeg), .int i1, .ref 47]) rfl rfl ?_
      refine hp_iv (virt := true) (pc' := 52) (rv := some (.int (hq_123 (hq_73 S 48 49) i1 (hq_73 S 48 49 48 (hq_75 (hq_73 S 48 49) i1 (Int32.ofInt 2)).toNatClampNeg) (Int32.ofInt 99)).1)) (M1 := hp_mem X ((hq_123 (hq_73 S 48 49) i1 (hq_73 S 48 49 48 (hq_75 (hq_73 S 48 49) i1 (Int32.ofInt 2)).toNatClampNeg) (Int32.ofInt 99)).2)) rfl rfl (by decide) (hk_123 (hq_73 S 48 49) (i1) ((hq_73 S 48 49 48 (hq_75 (hq_73 S 48 49) i1 (Int32.ofInt 2)).toNatClampNeg)) ((Int32.ofInt 99)) (by decide)) rfl rfl ?_
      show hp_T _ 124 52 _ [.int (hq_123 (hq_73 S 48 49) i1 (hq_73 S 48 49 48 (hq_75 (hq_73 S 48 49) i1 (Int32.ofInt 2)).toNatClampNeg) (Int32.ofInt 99)).1] _ _ _
      exact hp_Ris rfl
    · refine hp_sN [23] (pc' := 23) (L' := [some (.ref 47), some (.int i1)]) (st' := [.int (Int32.ofInt (-3))]) rfl rfl ?_
      exact hp_Ris rfl
  · refine hp_sN [9] (pc' := 9) (L' := [some (.ref 47), some (.int i1)]) (st' := [.int (Int32.ofInt (-1))]) rfl rfl ?_
    exact hp_Ris rfl
theorem hk_124 {X : hp_X} (S : hp_S) (i1 : Int32) : hp_K 124 [.ref 47, .int i1] (hp_mem X S) (hp_is X) (hq_124 S i1) := by
  refine hp_mk (q := hzq_124) rfl (by decide) (L := [some (.ref 47), some (.int i1)]) rfl (fun n => ?_)
  exact ht_124 S i1 n
/-! 125: HatsOfTheWindModel.caughtOf(I)I -/
def hq_125_13 (i1 : Int32) : Nat → hp_S → Int32 → Int32 × hp_S
  | 0, S, _ => (0, S)
  | m + 1, S, v2 => (if hz_cmp .gt v2 (Int32.ofInt 99) = true then ((Int32.ofInt (-4)), S) else (if hz_cmp .eq (hq_88 S 49 i1) (Int32.ofInt 9) = true then hq_125_13 i1 m (hq_93 S 49 (Int32.ofInt 0)) (v2 + (Int32.ofInt 1)) else (v2, S)))
def hq_125 (S : hp_S) (i1 : Int32) : Int32 × hp_S := (hq_125_13 i1 (((Int32.ofInt 99).toInt + 1 - (Int32.ofInt 0).toInt).toNat + 1) (hq_73 S 48 49) ((Int32.ofInt 0)))
theorem hf_125_13 {i1 : Int32} (j : Nat) (z0 : j ≠ 49) : ∀ (m : Nat) (S : hp_S) (v2 : Int32), (hq_125_13 i1 m S v2).2 j = S j := by
  intro m
  induction m with
  | zero => intros; rfl
  | succ m ih =>
    intro S v2
    rw [hq_125_13]
    repeat' split
    all_goals simp [ih, hp_wo, hp_wgo, hp_cpo, hf_73, hf_93, z0]
theorem hf_125 (S : hp_S) (i1 : Int32) (j : Nat) (z0 : j ≠ 49) : (hq_125 S i1).2 j = S j := by
  unfold hq_125
  repeat' split
  all_goals simp [hp_wo, hp_wgo, hp_cpo, hf_73, hf_93, z0, hf_125_13]
set_option maxRecDepth 10000 in
theorem ht_125_13 {X : hp_X} (i1 : Int32) : ∀ (n m : Nat) (S : hp_S) (v2 : Int32), ((Int32.ofInt 99).toInt + 1 - v2.toInt).toNat < m → hp_T n 125 13 [some (.ref 47), some (.int i1), some (.int v2)] [] (hp_mem X S) (hp_is X) (hq_125_13 i1 m S v2) := by
  intro n
  induction n with
  | zero => intros; exact hp_0
  | succ n ih =>
    intro m S v2 hm
    cases m with
    | zero => exact absurd hm (Nat.not_lt_zero _)
    | succ m =>
      rw [hq_125_13]
      refine hp_sN [14, 16] (pc' := 16) (L' := [some (.ref 47), some (.int i1), some (.int v2)]) (st' := [.int (Int32.ofInt 99), .int v2]) rfl rfl ?_
      refine hp_ic (pc' := 19) rfl rfl (fun h1 => ?_) (fun h1 => ?_)
      · refine hp_sN [50] (pc' := 50) (L' := [some (.ref 47), some (.int i1), some (.int v2)]) (st' := [.int (Int32.ofInt (-4))]) rfl rfl ?_
        exact hp_Ris rfl
      · refine hp_sN [20] (pc' := 20) (L' := [some (.ref 47), some (.int i1), some (.int v2)]) (st' := [.ref 47]) rfl rfl ?_
        refine hp_gf (pc' := 23) rfl (by decide) (hp_c47 X _) rfl rfl ?_
        refine hp_sN [24] (pc' := 24) (L' := [some (.ref 47), some (.int i1), some (.int v2)]) (st' := [.int i1, .ref 49]) rfl rfl ?_
        refine hp_iv (virt := false) (pc' := 27) (rv := some (.int (hq_88 S 49 i1))) (M1 := hp_mem X (S)) rfl rfl (by decide) (hk_88 (Or.inr (Or.inl rfl)) S (i1)) rfl rfl ?_
        show hp_T _ 125 27 _ [.int (hq_88 S 49 i1)] _ _ _
        refine hp_sN [29] (pc' := 29) (L' := [some (.ref 47), some (.int i1), some (.int v2)]) (st' := [.int (Int32.ofInt 9), .int (hq_88 S 49 i1)]) rfl rfl ?_
        refine hp_ic (pc' := 32) rfl rfl (fun h2 => ?_) (fun h2 => ?_)
        · refine hp_sN [35] (pc' := 35) (L' := [some (.ref 47), some (.int i1), some (.int v2)]) (st' := [.ref 47]) rfl rfl ?_
          refine hp_gf (pc' := 38) rfl (by decide) (hp_c47 X _) rfl rfl ?_
          refine hp_sN [39] (pc' := 39) (L' := [some (.ref 47), some (.int i1), some (.int v2)]) (st' := [.int (Int32.ofInt 0), .ref 49]) rfl rfl ?_
          refine hp_iv (virt := false) (pc' := 42) (rv := none) (M1 := hp_mem X (hq_93 S 49 (Int32.ofInt 0))) rfl rfl (by decide) (hk_93 (Or.inr (Or.inl rfl)) S ((Int32.ofInt 0))) rfl rfl ?_
          show hp_T _ 125 42 _ [] _ _ _
          refine hp_sB 45 [13] (pc' := 13) (L' := [some (.ref 47), some (.int i1), some (.int (v2 + (Int32.ofInt 1)))]) (st' := []) rfl rfl ?_
          exact ih m (hq_93 S 49 (Int32.ofInt 0)) ((v2 + (Int32.ofInt 1))) (hp_up2 h1 hm (by decide))
        · refine hp_sN [33] (pc' := 33) (L' := [some (.ref 47), some (.int i1), some (.int v2)]) (st' := [.int v2]) rfl rfl ?_
          exact hp_Ris rfl
set_option maxRecDepth 10000 in
theorem ht_125 {X : hp_X} (S : hp_S) (i1 : Int32) (n : Nat) : hp_T n 125 0 [some (.ref 47), some (.int i1), none] [] (hp_mem X S) (hp_is X) (hq_125 S i1) := by
  unfold hq_125
  refine hp_sN [1] (pc' := 1) (L' := [some (.ref 47), some (.int i1), none]) (st' := [.ref 47]) rfl rfl ?_
  refine hp_gf (pc' := 4) rfl (by decide) (hp_c47 X _) rfl rfl ?_
  refine hp_sN [5] (pc' := 5) (L' := [some (.ref 47), some (.int i1), none]) (st' := [.ref 47, .ref 48]) rfl rfl ?_
  refine hp_gf (pc' := 8) rfl (by decide) (hp_c47 X _) rfl rfl ?_
  refine hp_iv (virt := false) (pc' := 11) (rv := none) (M1 := hp_mem X (hq_73 S 48 49)) rfl rfl (by decide) (hk_73 (Or.inl rfl) (Or.inr (Or.inl rfl)) S) rfl rfl ?_
  show hp_T _ 125 11 _ [] _ _ _
  refine hp_sN [12, 13] (pc' := 13) (L' := [some (.ref 47), some (.int i1), some (.int (Int32.ofInt 0))]) (st' := []) rfl rfl ?_
  exact ht_125_13 i1  n (((Int32.ofInt 99).toInt + 1 - (Int32.ofInt 0).toInt).toNat + 1) (hq_73 S 48 49) ((Int32.ofInt 0))  (Nat.lt_succ_self _)
theorem hk_125 {X : hp_X} (S : hp_S) (i1 : Int32) : hp_K 125 [.ref 47, .int i1] (hp_mem X S) (hp_is X) (hq_125 S i1) := by
  refine hp_mk (q := hzq_125) rfl (by decide) (L := [some (.ref 47), some (.int i1), none]) rfl (fun n => ?_)
  exact ht_125 S i1 n
/-! 126: HatsOfTheWindModel.caught(I)I -/
def hq_126 (S : hp_S) (i1 : Int32) : Int32 × hp_S := (if hz_cmp .eq (hq_76 S i1) 0 = true then ((Int32.ofInt (-1)), S) else ((hq_125 S i1).1, (hq_125 S i1).2))
theorem hf_126 (S : hp_S) (i1 : Int32) (j : Nat) (z0 : j ≠ 49) : (hq_126 S i1).2 j = S j := by
  unfold hq_126
  repeat' split
  all_goals simp [hp_wo, hp_wgo, hp_cpo, hf_125, z0]
set_option maxRecDepth 10000 in
theorem ht_126 {X : hp_X} (S : hp_S) (i1 : Int32) (n : Nat) : hp_T n 126 0 [some (.ref 47), some (.int i1)] [] (hp_mem X S) (hp_is X) (hq_126 S i1) := by
  unfold hq_126
  refine hp_sN [1, 2] (pc' := 2) (L' := [some (.ref 47), some (.int i1)]) (st' := [.int i1, .ref 47]) rfl rfl ?_
  refine hp_iv (virt := true) (pc' := 5) (rv := some (.int (hq_76 S i1))) (M1 := hp_mem X (S)) rfl rfl (by decide) (hk_76 S (i1)) rfl rfl ?_
  show hp_T _ 126 5 _ [.int (hq_76 S i1)] _ _ _
  refine hp_if (pc' := 8) rfl rfl (fun h1 => ?_) (fun h1 => ?_)
  · refine hp_sN [17] (pc' := 17) (L' := [some (.ref 47), some (.int i1)]) (st' := [.int (Int32.ofInt (-1))]) rfl rfl ?_
    exact hp_Ris rfl
  · refine hp_sN [9, 10] (pc' := 10) (L' := [some (.ref 47), some (.int i1)]) (st' := [.int i1, .ref 47]) rfl rfl ?_
    refine hp_iv (virt := true) (pc' := 13) (rv := some (.int (hq_125 S i1).1)) (M1 := hp_mem X ((hq_125 S i1).2)) rfl rfl (by decide) (hk_125 S (i1)) rfl rfl ?_
    show hp_T _ 126 13 _ [.int (hq_125 S i1).1] _ _ _
    refine hp_sN [17] (pc' := 17) (L' := [some (.ref 47), some (.int i1)]) (st' := [.int (hq_125 S i1).1]) rfl rfl ?_
    exact hp_Ris rfl
theorem hk_126 {X : hp_X} (S : hp_S) (i1 : Int32) : hp_K 126 [.ref 47, .int i1] (hp_mem X S) (hp_is X) (hq_126 S i1) := by
  refine hp_mk (q := hzq_126) rfl (by decide) (L := [some (.ref 47), some (.int i1)]) rfl (fun n => ?_)
  exact ht_126 S i1 n
/-! 127: HatsOfTheWindModel.back(II)I -/
def hq_127_31 (i1 : Int32) (i2 : Int32) : Nat → hp_S → Int32 → Int32 × hp_S
  | 0, S, _ => (0, S)
  | m + 1, S, v3 => (if hz_cmp .gt v3 (Int32.ofInt 99) = true then ((Int32.ofInt (-4)), S) else (if hz_cmp .ne (S 49 (hq_75 S i2 (Int32.ofInt 2)).toNatClampNeg) i1 = true then hq_127_31 i1 i2 m (hq_93 S 49 (Int32.ofInt 0)) (v3 + (Int32.ofInt 1)) else (v3, S)))
def hq_127 (S : hp_S) (i1 : Int32) (i2 : Int32) : Int32 × hp_S := (if hz_cmp .eq (hq_76 S i1) 0 = true then ((Int32.ofInt (-1)), S) else (if hz_cmp .ne (hq_77 S i2) 0 = true then (hq_127_31 i1 i2 (((Int32.ofInt 99).toInt + 1 - (Int32.ofInt 0).toInt).toNat + 1) (hq_73 S 48 49) ((Int32.ofInt 0))) else ((Int32.ofInt (-1)), S)))
theorem hf_127_31 {i1 : Int32} {i2 : Int32} (j : Nat) (z0 : j ≠ 49) : ∀ (m : Nat) (S : hp_S) (v3 : Int32), (hq_127_31 i1 i2 m S v3).2 j = S j := by
  intro m
  induction m with
  | zero => intros; rfl
  | succ m ih =>
    intro S v3
    rw [hq_127_31]
    repeat' split
    all_goals simp [ih, hp_wo, hp_wgo, hp_cpo, hf_73, hf_93, z0]
theorem hf_127 (S : hp_S) (i1 : Int32) (i2 : Int32) (j : Nat) (z0 : j ≠ 49) : (hq_127 S i1 i2).2 j = S j := by
  unfold hq_127
  repeat' split
  all_goals simp [hp_wo, hp_wgo, hp_cpo, hf_73, hf_93, z0, hf_127_31]
set_option maxRecDepth 10000 in
theorem ht_127_31 {X : hp_X} (i1 : Int32) (i2 : Int32) : ∀ (n m : Nat) (S : hp_S) (v3 : Int32), ((Int32.ofInt 99).toInt + 1 - v3.toInt).toNat < m → hp_T n 127 31 [some (.ref 47), some (.int i1), some (.int i2), some (.int v3)] [] (hp_mem X S) (hp_is X) (hq_127_31 i1 i2 m S v3) := by
  intro n
  induction n with
  | zero => intros; exact hp_0
  | succ n ih =>
    intro m S v3 hm
    cases m with
    | zero => exact absurd hm (Nat.not_lt_zero _)
    | succ m =>
      rw [hq_127_31]
      refine hp_sN [32, 34] (pc' := 34) (L' := [some (.ref 47), some (.int i1), some (.int i2), some (.int v3)]) (st' := [.int (Int32.ofInt 99), .int v3]) rfl rfl ?_
      refine hp_ic (pc' := 37) rfl rfl (fun h1 => ?_) (fun h1 => ?_)
      · refine hp_sN [69] (pc' := 69) (L' := [some (.ref 47), some (.int i1), some (.int i2), some (.int v3)]) (st' := [.int (Int32.ofInt (-4))]) rfl rfl ?_
        exact hp_Ris rfl
      · refine hp_sN [38] (pc' := 38) (L' := [some (.ref 47), some (.int i1), some (.int i2), some (.int v3)]) (st' := [.ref 47]) rfl rfl ?_
        refine hp_gf (pc' := 41) rfl (by decide) (hp_c47 X _) rfl rfl ?_
        refine hp_sN [42, 43] (pc' := 43) (L' := [some (.ref 47), some (.int i1), some (.int i2), some (.int v3)]) (st' := [.int (Int32.ofInt 2), .int i2, .ref 49]) rfl rfl ?_
        refine hp_iv (virt := false) (pc' := 46) (rv := some (.int (hq_75 S i2 (Int32.ofInt 2)))) (M1 := hp_mem X (S)) rfl rfl (by decide) (hk_75 S (i2) ((Int32.ofInt 2))) rfl rfl ?_
        show hp_T _ 127 46 _ [.int (hq_75 S i2 (Int32.ofInt 2)), .ref 49] _ _ _
        refine hp_al (pc' := 47) rfl (hp_cl (Or.inr (Or.inl rfl))) (hp_cc (Or.inr (Or.inl rfl)) X _) rfl ?_
        refine hp_sN [48] (pc' := 48) (L' := [some (.ref 47), some (.int i1), some (.int i2), some (.int v3)]) (st' := [.int i1, .int (S 49 (hq_75 S i2 (Int32.ofInt 2)).toNatClampNeg)]) rfl rfl ?_
        refine hp_ic (pc' := 51) rfl rfl (fun h2 => ?_) (fun h2 => ?_)
        · refine hp_sN [54] (pc' := 54) (L' := [some (.ref 47), some (.int i1), some (.int i2), some (.int v3)]) (st' := [.ref 47]) rfl rfl ?_
          refine hp_gf (pc' := 57) rfl (by decide) (hp_c47 X _) rfl rfl ?_
          refine hp_sN [58] (pc' := 58) (L' := [some (.ref 47), some (.int i1), some (.int i2), some (.int v3)]) (st' := [.int (Int32.ofInt 0), .ref 49]) rfl rfl ?_
          refine hp_iv (virt := false) (pc' := 61) (rv := none) (M1 := hp_mem X (hq_93 S 49 (Int32.ofInt 0))) rfl rfl (by decide) (hk_93 (Or.inr (Or.inl rfl)) S ((Int32.ofInt 0))) rfl rfl ?_
          show hp_T _ 127 61 _ [] _ _ _
          refine hp_sB 64 [31] (pc' := 31) (L' := [some (.ref 47), some (.int i1), some (.int i2), some (.int (v3 + (Int32.ofInt 1)))]) (st' := []) rfl rfl ?_
          exact ih m (hq_93 S 49 (Int32.ofInt 0)) ((v3 + (Int32.ofInt 1))) (hp_up2 h1 hm (by decide))
        · refine hp_sN [52] (pc' := 52) (L' := [some (.ref 47), some (.int i1), some (.int i2), some (.int v3)]) (st' := [.int v3]) rfl rfl ?_
          exact hp_Ris rfl
set_option maxRecDepth 10000 in
theorem ht_127 {X : hp_X} (S : hp_S) (i1 : Int32) (i2 : Int32) (n : Nat) : hp_T n 127 0 [some (.ref 47), some (.int i1), some (.int i2), none] [] (hp_mem X S) (hp_is X) (hq_127 S i1 i2) := by
  unfold hq_127
  refine hp_sN [1, 2] (pc' := 2) (L' := [some (.ref 47), some (.int i1), some (.int i2), none]) (st' := [.int i1, .ref 47]) rfl rfl ?_
  refine hp_iv (virt := true) (pc' := 5) (rv := some (.int (hq_76 S i1))) (M1 := hp_mem X (S)) rfl rfl (by decide) (hk_76 S (i1)) rfl rfl ?_
  show hp_T _ 127 5 _ [.int (hq_76 S i1)] _ _ _
  refine hp_if (pc' := 8) rfl rfl (fun h1 => ?_) (fun h1 => ?_)
  · refine hp_sN [17] (pc' := 17) (L' := [some (.ref 47), some (.int i1), some (.int i2), none]) (st' := [.int (Int32.ofInt (-1))]) rfl rfl ?_
    exact hp_Ris rfl
  · refine hp_sN [9, 10] (pc' := 10) (L' := [some (.ref 47), some (.int i1), some (.int i2), none]) (st' := [.int i2, .ref 47]) rfl rfl ?_
    refine hp_iv (virt := true) (pc' := 13) (rv := some (.int (hq_77 S i2))) (M1 := hp_mem X (S)) rfl rfl (by decide) (hk_77 S (i2)) rfl rfl ?_
    show hp_T _ 127 13 _ [.int (hq_77 S i2)] _ _ _
    refine hp_if (pc' := 16) rfl rfl (fun h2 => ?_) (fun h2 => ?_)
    · refine hp_sN [19] (pc' := 19) (L' := [some (.ref 47), some (.int i1), some (.int i2), none]) (st' := [.ref 47]) rfl rfl ?_
      refine hp_gf (pc' := 22) rfl (by decide) (hp_c47 X _) rfl rfl ?_
      refine hp_sN [23] (pc' := 23) (L' := [some (.ref 47), some (.int i1), some (.int i2), none]) (st' := [.ref 47, .ref 48]) rfl rfl ?_
      refine hp_gf (pc' := 26) rfl (by decide) (hp_c47 X _) rfl rfl ?_
      refine hp_iv (virt := false) (pc' := 29) (rv := none) (M1 := hp_mem X (hq_73 S 48 49)) rfl rfl (by decide) (hk_73 (Or.inl rfl) (Or.inr (Or.inl rfl)) S) rfl rfl ?_
      show hp_T _ 127 29 _ [] _ _ _
      refine hp_sN [30, 31] (pc' := 31) (L' := [some (.ref 47), some (.int i1), some (.int i2), some (.int (Int32.ofInt 0))]) (st' := []) rfl rfl ?_
      exact ht_127_31 i1 i2  n (((Int32.ofInt 99).toInt + 1 - (Int32.ofInt 0).toInt).toNat + 1) (hq_73 S 48 49) ((Int32.ofInt 0))  (Nat.lt_succ_self _)
    · refine hp_sN [17] (pc' := 17) (L' := [some (.ref 47), some (.int i1), some (.int i2), none]) (st' := [.int (Int32.ofInt (-1))]) rfl rfl ?_
      exact hp_Ris rfl
theorem hk_127 {X : hp_X} (S : hp_S) (i1 : Int32) (i2 : Int32) : hp_K 127 [.ref 47, .int i1, .int i2] (hp_mem X S) (hp_is X) (hq_127 S i1 i2) := by
  refine hp_mk (q := hzq_127) rfl (by decide) (L := [some (.ref 47), some (.int i1), some (.int i2), none]) rfl (fun n => ?_)
  exact ht_127 S i1 i2 n
/-! 128: HatsOfTheWindModel.lost(I)I -/
def hq_128_23 (i1 : Int32) : Nat → hp_S → Int32 → Int32 × hp_S
  | 0, S, _ => (0, S)
  | m + 1, S, v2 => (if hz_cmp .gt v2 (Int32.ofInt 99) = true then ((Int32.ofInt (-4)), S) else (if hz_cmp .eq (hq_97 S 49 i1) 0 = true then hq_128_23 i1 m (hq_93 S 49 (Int32.ofInt 0)) (v2 + (Int32.ofInt 1)) else (v2, S)))
def hq_128 (S : hp_S) (i1 : Int32) : Int32 × hp_S := (if hz_cmp .ne (hq_77 S i1) 0 = true then (hq_128_23 i1 (((Int32.ofInt 99).toInt + 1 - (Int32.ofInt 0).toInt).toNat + 1) (hq_73 S 48 49) ((Int32.ofInt 0))) else ((Int32.ofInt (-1)), S))
theorem hf_128_23 {i1 : Int32} (j : Nat) (z0 : j ≠ 49) : ∀ (m : Nat) (S : hp_S) (v2 : Int32), (hq_128_23 i1 m S v2).2 j = S j := by
  intro m
  induction m with
  | zero => intros; rfl
  | succ m ih =>
    intro S v2
    rw [hq_128_23]
    repeat' split
    all_goals simp [ih, hp_wo, hp_wgo, hp_cpo, hf_73, hf_93, z0]
theorem hf_128 (S : hp_S) (i1 : Int32) (j : Nat) (z0 : j ≠ 49) : (hq_128 S i1).2 j = S j := by
  unfold hq_128
  repeat' split
  all_goals simp [hp_wo, hp_wgo, hp_cpo, hf_73, hf_93, z0, hf_128_23]
set_option maxRecDepth 10000 in
theorem ht_128_23 {X : hp_X} (i1 : Int32) : ∀ (n m : Nat) (S : hp_S) (v2 : Int32), ((Int32.ofInt 99).toInt + 1 - v2.toInt).toNat < m → hp_T n 128 23 [some (.ref 47), some (.int i1), some (.int v2)] [] (hp_mem X S) (hp_is X) (hq_128_23 i1 m S v2) := by
  intro n
  induction n with
  | zero => intros; exact hp_0
  | succ n ih =>
    intro m S v2 hm
    cases m with
    | zero => exact absurd hm (Nat.not_lt_zero _)
    | succ m =>
      rw [hq_128_23]
      refine hp_sN [24, 26] (pc' := 26) (L' := [some (.ref 47), some (.int i1), some (.int v2)]) (st' := [.int (Int32.ofInt 99), .int v2]) rfl rfl ?_
      refine hp_ic (pc' := 29) rfl rfl (fun h1 => ?_) (fun h1 => ?_)
      · refine hp_sN [58] (pc' := 58) (L' := [some (.ref 47), some (.int i1), some (.int v2)]) (st' := [.int (Int32.ofInt (-4))]) rfl rfl ?_
        exact hp_Ris rfl
      · refine hp_sN [30] (pc' := 30) (L' := [some (.ref 47), some (.int i1), some (.int v2)]) (st' := [.ref 47]) rfl rfl ?_
        refine hp_gf (pc' := 33) rfl (by decide) (hp_c47 X _) rfl rfl ?_
        refine hp_sN [34] (pc' := 34) (L' := [some (.ref 47), some (.int i1), some (.int v2)]) (st' := [.int i1, .ref 49]) rfl rfl ?_
        refine hp_iv (virt := false) (pc' := 37) (rv := some (.int (hq_97 S 49 i1))) (M1 := hp_mem X (S)) rfl rfl (by decide) (hk_97 (Or.inr (Or.inl rfl)) S (i1)) rfl rfl ?_
        show hp_T _ 128 37 _ [.int (hq_97 S 49 i1)] _ _ _
        refine hp_if (pc' := 40) rfl rfl (fun h2 => ?_) (fun h2 => ?_)
        · refine hp_sN [43] (pc' := 43) (L' := [some (.ref 47), some (.int i1), some (.int v2)]) (st' := [.ref 47]) rfl rfl ?_
          refine hp_gf (pc' := 46) rfl (by decide) (hp_c47 X _) rfl rfl ?_
          refine hp_sN [47] (pc' := 47) (L' := [some (.ref 47), some (.int i1), some (.int v2)]) (st' := [.int (Int32.ofInt 0), .ref 49]) rfl rfl ?_
          refine hp_iv (virt := false) (pc' := 50) (rv := none) (M1 := hp_mem X (hq_93 S 49 (Int32.ofInt 0))) rfl rfl (by decide) (hk_93 (Or.inr (Or.inl rfl)) S ((Int32.ofInt 0))) rfl rfl ?_
          show hp_T _ 128 50 _ [] _ _ _
          refine hp_sB 53 [23] (pc' := 23) (L' := [some (.ref 47), some (.int i1), some (.int (v2 + (Int32.ofInt 1)))]) (st' := []) rfl rfl ?_
          exact ih m (hq_93 S 49 (Int32.ofInt 0)) ((v2 + (Int32.ofInt 1))) (hp_up2 h1 hm (by decide))
        · refine hp_sN [41] (pc' := 41) (L' := [some (.ref 47), some (.int i1), some (.int v2)]) (st' := [.int v2]) rfl rfl ?_
          exact hp_Ris rfl
set_option maxRecDepth 10000 in
theorem ht_128 {X : hp_X} (S : hp_S) (i1 : Int32) (n : Nat) : hp_T n 128 0 [some (.ref 47), some (.int i1), none] [] (hp_mem X S) (hp_is X) (hq_128 S i1) := by
  unfold hq_128
  refine hp_sN [1, 2] (pc' := 2) (L' := [some (.ref 47), some (.int i1), none]) (st' := [.int i1, .ref 47]) rfl rfl ?_
  refine hp_iv (virt := true) (pc' := 5) (rv := some (.int (hq_77 S i1))) (M1 := hp_mem X (S)) rfl rfl (by decide) (hk_77 S (i1)) rfl rfl ?_
  show hp_T _ 128 5 _ [.int (hq_77 S i1)] _ _ _
  refine hp_if (pc' := 8) rfl rfl (fun h1 => ?_) (fun h1 => ?_)
  · refine hp_sN [11] (pc' := 11) (L' := [some (.ref 47), some (.int i1), none]) (st' := [.ref 47]) rfl rfl ?_
    refine hp_gf (pc' := 14) rfl (by decide) (hp_c47 X _) rfl rfl ?_
    refine hp_sN [15] (pc' := 15) (L' := [some (.ref 47), some (.int i1), none]) (st' := [.ref 47, .ref 48]) rfl rfl ?_
    refine hp_gf (pc' := 18) rfl (by decide) (hp_c47 X _) rfl rfl ?_
    refine hp_iv (virt := false) (pc' := 21) (rv := none) (M1 := hp_mem X (hq_73 S 48 49)) rfl rfl (by decide) (hk_73 (Or.inl rfl) (Or.inr (Or.inl rfl)) S) rfl rfl ?_
    show hp_T _ 128 21 _ [] _ _ _
    refine hp_sN [22, 23] (pc' := 23) (L' := [some (.ref 47), some (.int i1), some (.int (Int32.ofInt 0))]) (st' := []) rfl rfl ?_
    exact ht_128_23 i1  n (((Int32.ofInt 99).toInt + 1 - (Int32.ofInt 0).toInt).toNat + 1) (hq_73 S 48 49) ((Int32.ofInt 0))  (Nat.lt_succ_self _)
  · refine hp_sN [9] (pc' := 9) (L' := [some (.ref 47), some (.int i1), none]) (st' := [.int (Int32.ofInt (-1))]) rfl rfl ?_
    exact hp_Ris rfl
theorem hk_128 {X : hp_X} (S : hp_S) (i1 : Int32) : hp_K 128 [.ref 47, .int i1] (hp_mem X S) (hp_is X) (hq_128 S i1) := by
  refine hp_mk (q := hzq_128) rfl (by decide) (L := [some (.ref 47), some (.int i1), none]) rfl (fun n => ?_)
  exact ht_128 S i1 n

