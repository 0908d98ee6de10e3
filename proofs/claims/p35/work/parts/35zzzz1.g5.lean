/-! 129: HatsOfTheWindModel.allWear(I)I -/
def hq_129_24 (i1 : Int32) : Nat → hp_S → Int32 → Int32 → hp_S × Int32
  | 0, S, _, _ => (S, 0)
  | m + 1, S, v2, v3 => (if hz_cmp .ge v3 i1 = true then (S, v2) else (if hz_cmp .ne (hq_96 (hq_93 S 49 (Int32.ofInt 0)) 49) 0 = true then hq_129_24 i1 m (hq_93 S 49 (Int32.ofInt 0)) (v2 + (Int32.ofInt 0)) (v3 + (Int32.ofInt 1)) else hq_129_24 i1 m (hq_93 S 49 (Int32.ofInt 0)) (v2 + (Int32.ofInt 1)) (v3 + (Int32.ofInt 1))))
def hq_129 (S : hp_S) (i1 : Int32) : Int32 × hp_S := (if hz_cmp .ne (hq_117 S i1) 0 = true then ((hq_129_24 i1 ((i1.toInt - (Int32.ofInt 0).toInt).toNat + 1) (hq_73 S 48 49) ((Int32.ofInt 0)) ((Int32.ofInt 0))).2, (hq_129_24 i1 ((i1.toInt - (Int32.ofInt 0).toInt).toNat + 1) (hq_73 S 48 49) ((Int32.ofInt 0)) ((Int32.ofInt 0))).1) else ((Int32.ofInt (-1)), S))
theorem hf_129_24 {i1 : Int32} (j : Nat) (z0 : j ≠ 49) : ∀ (m : Nat) (S : hp_S) (v2 : Int32) (v3 : Int32), (hq_129_24 i1 m S v2 v3).1 j = S j := by
  intro m
  induction m with
  | zero => intros; rfl
  | succ m ih =>
    intro S v2 v3
    rw [hq_129_24]
    repeat' split
    all_goals simp [ih, hp_wo, hp_wgo, hp_cpo, hf_73, hf_93, z0]
theorem hf_129 (S : hp_S) (i1 : Int32) (j : Nat) (z0 : j ≠ 49) : (hq_129 S i1).2 j = S j := by
  unfold hq_129
  repeat' split
  all_goals simp [hp_wo, hp_wgo, hp_cpo, hf_73, hf_93, z0, hf_129_24]
set_option maxRecDepth 10000 in
theorem ht_129_24 {α : Type} {φ : α → Option Value × hzMem} {R : α} {X : hp_X} (N : Nat) (i1 : Int32) : ∀ (n : Nat), n ≤ N → ∀ (m : Nat) (S : hp_S) (v2 : Int32) (v3 : Int32) (Z : hp_S × Int32), (i1.toInt - v3.toInt).toNat < m → hq_129_24 i1 m S v2 v3 = Z → (∀ (x3 : Option Value), hp_T N 129 61 [some (.ref 47), some (.int i1), some (.int Z.2), x3] [] (hp_mem X Z.1) φ R) → hp_T n 129 24 [some (.ref 47), some (.int i1), some (.int v2), some (.int v3)] [] (hp_mem X S) φ R := by
  intro n
  induction n with
  | zero => intros; exact hp_0
  | succ n ih =>
    intro hN m S v2 v3 Z hm hZ kk
    cases m with
    | zero => exact absurd hm (Nat.not_lt_zero _)
    | succ m =>
      rw [hq_129_24] at hZ
      refine hp_sN [25, 26] (pc' := 26) (L' := [some (.ref 47), some (.int i1), some (.int v2), some (.int v3)]) (st' := [.int i1, .int v3]) rfl rfl ?_
      refine hp_ic2 (pc' := 29) rfl rfl (fun h1 => ?_) (fun h1 => ?_)
      · rw [if_pos h1] at hZ
        subst hZ
        exact hp_le hN (kk (some (.int v3)))
      · rw [if_neg (hp_nt h1)] at hZ
        refine hp_sN [30] (pc' := 30) (L' := [some (.ref 47), some (.int i1), some (.int v2), some (.int v3)]) (st' := [.ref 47]) rfl rfl ?_
        refine hp_gf (pc' := 33) rfl (by decide) (hp_c47 X _) rfl rfl ?_
        refine hp_sN [34] (pc' := 34) (L' := [some (.ref 47), some (.int i1), some (.int v2), some (.int v3)]) (st' := [.int (Int32.ofInt 0), .ref 49]) rfl rfl ?_
        refine hp_iv (virt := false) (pc' := 37) (rv := none) (M1 := hp_mem X (hq_93 S 49 (Int32.ofInt 0))) rfl rfl (by decide) (hk_93 (Or.inr (Or.inl rfl)) S ((Int32.ofInt 0))) rfl rfl ?_
        show hp_T _ 129 37 _ [] _ _ _
        refine hp_sN [38, 39] (pc' := 39) (L' := [some (.ref 47), some (.int i1), some (.int v2), some (.int v3)]) (st' := [.ref 47, .int v2]) rfl rfl ?_
        refine hp_gf (pc' := 42) rfl (by decide) (hp_c47 X _) rfl rfl ?_
        refine hp_iv (virt := false) (pc' := 45) (rv := some (.int (hq_96 (hq_93 S 49 (Int32.ofInt 0)) 49))) (M1 := hp_mem X (hq_93 S 49 (Int32.ofInt 0))) rfl rfl (by decide) (hk_96 (Or.inr (Or.inl rfl)) (hq_93 S 49 (Int32.ofInt 0))) rfl rfl ?_
        show hp_T _ 129 45 _ [.int (hq_96 (hq_93 S 49 (Int32.ofInt 0)) 49), .int v2] _ _ _
        refine hp_if2 (pc' := 48) rfl rfl (fun h2 => ?_) (fun h2 => ?_)
        · rw [if_pos h2] at hZ
          refine hp_sB 53 [54, 55, 58, 24] (pc' := 24) (L' := [some (.ref 47), some (.int i1), some (.int (v2 + (Int32.ofInt 0))), some (.int (v3 + (Int32.ofInt 1)))]) (st' := []) rfl rfl ?_
          exact ih (Nat.le_trans (Nat.le_succ n) hN) m (hq_93 S 49 (Int32.ofInt 0)) ((v2 + (Int32.ofInt 0))) ((v3 + (Int32.ofInt 1))) Z (hp_up h1 hm) hZ kk
        · rw [if_neg (hp_nt h2)] at hZ
          refine hp_sB 49 [53, 54, 55, 58, 24] (pc' := 24) (L' := [some (.ref 47), some (.int i1), some (.int (v2 + (Int32.ofInt 1))), some (.int (v3 + (Int32.ofInt 1)))]) (st' := []) rfl rfl ?_
          exact ih (Nat.le_trans (Nat.le_succ n) hN) m (hq_93 S 49 (Int32.ofInt 0)) ((v2 + (Int32.ofInt 1))) ((v3 + (Int32.ofInt 1))) Z (hp_up h1 hm) hZ kk
set_option maxRecDepth 10000 in
theorem ht_129 {X : hp_X} (S : hp_S) (i1 : Int32) (n : Nat) : hp_T n 129 0 [some (.ref 47), some (.int i1), none, none] [] (hp_mem X S) (hp_is X) (hq_129 S i1) := by
  unfold hq_129
  refine hp_sN [1] (pc' := 1) (L' := [some (.ref 47), some (.int i1), none, none]) (st' := [.int i1]) rfl rfl ?_
  refine hp_iv (virt := false) (pc' := 4) (rv := some (.int (hq_117 S i1))) (M1 := hp_mem X (S)) rfl rfl (by decide) (hk_117 S (i1)) rfl rfl ?_
  show hp_T _ 129 4 _ [.int (hq_117 S i1)] _ _ _
  refine hp_if (pc' := 7) rfl rfl (fun h1 => ?_) (fun h1 => ?_)
  · refine hp_sN [10] (pc' := 10) (L' := [some (.ref 47), some (.int i1), none, none]) (st' := [.ref 47]) rfl rfl ?_
    refine hp_gf (pc' := 13) rfl (by decide) (hp_c47 X _) rfl rfl ?_
    refine hp_sN [14] (pc' := 14) (L' := [some (.ref 47), some (.int i1), none, none]) (st' := [.ref 47, .ref 48]) rfl rfl ?_
    refine hp_gf (pc' := 17) rfl (by decide) (hp_c47 X _) rfl rfl ?_
    refine hp_iv (virt := false) (pc' := 20) (rv := none) (M1 := hp_mem X (hq_73 S 48 49)) rfl rfl (by decide) (hk_73 (Or.inl rfl) (Or.inr (Or.inl rfl)) S) rfl rfl ?_
    show hp_T _ 129 20 _ [] _ _ _
    refine hp_sN [21, 22, 23, 24] (pc' := 24) (L' := [some (.ref 47), some (.int i1), some (.int (Int32.ofInt 0)), some (.int (Int32.ofInt 0))]) (st' := []) rfl rfl ?_
    refine ht_129_24 n i1  n (Nat.le_refl _) ((i1.toInt - (Int32.ofInt 0).toInt).toNat + 1) (hq_73 S 48 49) ((Int32.ofInt 0)) ((Int32.ofInt 0))  _ (Nat.lt_succ_self _) rfl (fun x3_24 => ?_)
    show hp_T _ 129 61 [some (.ref 47), some (.int i1), some (.int (hq_129_24 i1 ((i1.toInt - (Int32.ofInt 0).toInt).toNat + 1) (hq_73 S 48 49) ((Int32.ofInt 0)) ((Int32.ofInt 0))).2), x3_24] _ (hp_mem X ((hq_129_24 i1 ((i1.toInt - (Int32.ofInt 0).toInt).toNat + 1) (hq_73 S 48 49) ((Int32.ofInt 0)) ((Int32.ofInt 0))).1)) _ _
    refine hp_sN [62] (pc' := 62) (L' := [some (.ref 47), some (.int i1), some (.int (hq_129_24 i1 ((i1.toInt - (Int32.ofInt 0).toInt).toNat + 1) (hq_73 S 48 49) ((Int32.ofInt 0)) ((Int32.ofInt 0))).2), x3_24]) (st' := [.int (hq_129_24 i1 ((i1.toInt - (Int32.ofInt 0).toInt).toNat + 1) (hq_73 S 48 49) ((Int32.ofInt 0)) ((Int32.ofInt 0))).2]) rfl rfl ?_
    exact hp_Ris rfl
  · refine hp_sN [8] (pc' := 8) (L' := [some (.ref 47), some (.int i1), none, none]) (st' := [.int (Int32.ofInt (-1))]) rfl rfl ?_
    exact hp_Ris rfl
theorem hk_129 {X : hp_X} (S : hp_S) (i1 : Int32) : hp_K 129 [.ref 47, .int i1] (hp_mem X S) (hp_is X) (hq_129 S i1) := by
  refine hp_mk (q := hzq_129) rfl (by decide) (L := [some (.ref 47), some (.int i1), none, none]) rfl (fun n => ?_)
  exact ht_129 S i1 n
/-! 130: HatsOfTheWindModel.wearsIn(III)I -/
def hq_130_6 (i1 : Int32) (i2 : Int32) (i3 : Int32) : Nat → hp_S → Int32 → Int32 → hp_S × Int32
  | 0, S, _, _ => (S, 0)
  | m + 1, S, v4, v5 => (if hz_cmp .ge v5 i3 = true then (S, v4) else (if hz_cmp .ge i2 0 = true then (if hz_cmp .ne (hq_88 (hq_93 S 49 (Int32.ofInt 0)) 49 i1) i2 = true then hq_130_6 i1 i2 i3 m (hq_93 S 49 (Int32.ofInt 0)) (v4 + (Int32.ofInt 0)) (v5 + (Int32.ofInt 1)) else hq_130_6 i1 i2 i3 m (hq_93 S 49 (Int32.ofInt 0)) (v4 + (Int32.ofInt 1)) (v5 + (Int32.ofInt 1))) else (if hz_cmp .ne (hq_88 (hq_93 S 49 (Int32.ofInt 0)) 49 i1) (Int32.ofInt 9) = true then hq_130_6 i1 i2 i3 m (hq_93 S 49 (Int32.ofInt 0)) (v4 + (Int32.ofInt 1)) (v5 + (Int32.ofInt 1)) else hq_130_6 i1 i2 i3 m (hq_93 S 49 (Int32.ofInt 0)) (v4 + (Int32.ofInt 0)) (v5 + (Int32.ofInt 1)))))
def hq_130 (S : hp_S) (i1 : Int32) (i2 : Int32) (i3 : Int32) : Int32 × hp_S := ((hq_130_6 i1 i2 i3 ((i3.toInt - (Int32.ofInt 0).toInt).toNat + 1) S ((Int32.ofInt 0)) ((Int32.ofInt 0))).2, (hq_130_6 i1 i2 i3 ((i3.toInt - (Int32.ofInt 0).toInt).toNat + 1) S ((Int32.ofInt 0)) ((Int32.ofInt 0))).1)
theorem hf_130_6 {i1 : Int32} {i2 : Int32} {i3 : Int32} (j : Nat) (z0 : j ≠ 49) : ∀ (m : Nat) (S : hp_S) (v4 : Int32) (v5 : Int32), (hq_130_6 i1 i2 i3 m S v4 v5).1 j = S j := by
  intro m
  induction m with
  | zero => intros; rfl
  | succ m ih =>
    intro S v4 v5
    rw [hq_130_6]
    repeat' split
    all_goals simp [ih, hp_wo, hp_wgo, hp_cpo, hf_93, z0]
theorem hf_130 (S : hp_S) (i1 : Int32) (i2 : Int32) (i3 : Int32) (j : Nat) (z0 : j ≠ 49) : (hq_130 S i1 i2 i3).2 j = S j := by
  unfold hq_130
  repeat' split
  all_goals simp [hp_wo, hp_wgo, hp_cpo, hf_93, z0, hf_130_6]
set_option maxRecDepth 10000 in
theorem ht_130_6 {α : Type} {φ : α → Option Value × hzMem} {R : α} {X : hp_X} (N : Nat) (i1 : Int32) (i2 : Int32) (i3 : Int32) : ∀ (n : Nat), n ≤ N → ∀ (m : Nat) (S : hp_S) (v4 : Int32) (v5 : Int32) (x6 : Option Value) (Z : hp_S × Int32), (i3.toInt - v5.toInt).toNat < m → hq_130_6 i1 i2 i3 m S v4 v5 = Z → (∀ (x6 : Option Value) (x5 : Option Value), hp_T N 130 71 [some (.ref 47), some (.int i1), some (.int i2), some (.int i3), some (.int Z.2), x5, x6] [] (hp_mem X Z.1) φ R) → hp_T n 130 6 [some (.ref 47), some (.int i1), some (.int i2), some (.int i3), some (.int v4), some (.int v5), x6] [] (hp_mem X S) φ R := by
  intro n
  induction n with
  | zero => intros; exact hp_0
  | succ n ih =>
    intro hN m S v4 v5 x6 Z hm hZ kk
    cases m with
    | zero => exact absurd hm (Nat.not_lt_zero _)
    | succ m =>
      rw [hq_130_6] at hZ
      refine hp_sN [8, 9] (pc' := 9) (L' := [some (.ref 47), some (.int i1), some (.int i2), some (.int i3), some (.int v4), some (.int v5), x6]) (st' := [.int i3, .int v5]) rfl rfl ?_
      refine hp_ic2 (pc' := 12) rfl rfl (fun h1 => ?_) (fun h1 => ?_)
      · rw [if_pos h1] at hZ
        subst hZ
        exact hp_le hN (kk (x6) (some (.int v5)))
      · rw [if_neg (hp_nt h1)] at hZ
        refine hp_sN [13] (pc' := 13) (L' := [some (.ref 47), some (.int i1), some (.int i2), some (.int i3), some (.int v4), some (.int v5), x6]) (st' := [.ref 47]) rfl rfl ?_
        refine hp_gf (pc' := 16) rfl (by decide) (hp_c47 X _) rfl rfl ?_
        refine hp_sN [17] (pc' := 17) (L' := [some (.ref 47), some (.int i1), some (.int i2), some (.int i3), some (.int v4), some (.int v5), x6]) (st' := [.int (Int32.ofInt 0), .ref 49]) rfl rfl ?_
        refine hp_iv (virt := false) (pc' := 20) (rv := none) (M1 := hp_mem X (hq_93 S 49 (Int32.ofInt 0))) rfl rfl (by decide) (hk_93 (Or.inr (Or.inl rfl)) S ((Int32.ofInt 0))) rfl rfl ?_
        show hp_T _ 130 20 _ [] _ _ _
        refine hp_sN [21] (pc' := 21) (L' := [some (.ref 47), some (.int i1), some (.int i2), some (.int i3), some (.int v4), some (.int v5), x6]) (st' := [.ref 47]) rfl rfl ?_
        refine hp_gf (pc' := 24) rfl (by decide) (hp_c47 X _) rfl rfl ?_
        refine hp_sN [25] (pc' := 25) (L' := [some (.ref 47), some (.int i1), some (.int i2), some (.int i3), some (.int v4), some (.int v5), x6]) (st' := [.int i1, .ref 49]) rfl rfl ?_
        refine hp_iv (virt := false) (pc' := 28) (rv := some (.int (hq_88 (hq_93 S 49 (Int32.ofInt 0)) 49 i1))) (M1 := hp_mem X (hq_93 S 49 (Int32.ofInt 0))) rfl rfl (by decide) (hk_88 (Or.inr (Or.inl rfl)) (hq_93 S 49 (Int32.ofInt 0)) (i1)) rfl rfl ?_
        show hp_T _ 130 28 _ [.int (hq_88 (hq_93 S 49 (Int32.ofInt 0)) 49 i1)] _ _ _
        refine hp_sN [30, 32, 33] (pc' := 33) (L' := [some (.ref 47), some (.int i1), some (.int i2), some (.int i3), some (.int v4), some (.int v5), some (.int (hq_88 (hq_93 S 49 (Int32.ofInt 0)) 49 i1))]) (st' := [.int i2, .int v4]) rfl rfl ?_
        refine hp_if2 (pc' := 36) rfl rfl (fun h2 => ?_) (fun h2 => ?_)
        · rw [if_pos h2] at hZ
          refine hp_sN [53, 54] (pc' := 54) (L' := [some (.ref 47), some (.int i1), some (.int i2), some (.int i3), some (.int v4), some (.int v5), some (.int (hq_88 (hq_93 S 49 (Int32.ofInt 0)) 49 i1))]) (st' := [.int i2, .int (hq_88 (hq_93 S 49 (Int32.ofInt 0)) 49 i1), .int v4]) rfl rfl ?_
          refine hp_ic2 (pc' := 57) rfl rfl (fun h3 => ?_) (fun h3 => ?_)
          · rw [if_pos h3] at hZ
            refine hp_sB 62 [63, 65, 68, 6] (pc' := 6) (L' := [some (.ref 47), some (.int i1), some (.int i2), some (.int i3), some (.int (v4 + (Int32.ofInt 0))), some (.int (v5 + (Int32.ofInt 1))), some (.int (hq_88 (hq_93 S 49 (Int32.ofInt 0)) 49 i1))]) (st' := []) rfl rfl ?_
            exact ih (Nat.le_trans (Nat.le_succ n) hN) m (hq_93 S 49 (Int32.ofInt 0)) ((v4 + (Int32.ofInt 0))) ((v5 + (Int32.ofInt 1))) (some (.int (hq_88 (hq_93 S 49 (Int32.ofInt 0)) 49 i1))) Z (hp_up h1 hm) hZ kk
          · rw [if_neg (hp_nt h3)] at hZ
            refine hp_sB 58 [62, 63, 65, 68, 6] (pc' := 6) (L' := [some (.ref 47), some (.int i1), some (.int i2), some (.int i3), some (.int (v4 + (Int32.ofInt 1))), some (.int (v5 + (Int32.ofInt 1))), some (.int (hq_88 (hq_93 S 49 (Int32.ofInt 0)) 49 i1))]) (st' := []) rfl rfl ?_
            exact ih (Nat.le_trans (Nat.le_succ n) hN) m (hq_93 S 49 (Int32.ofInt 0)) ((v4 + (Int32.ofInt 1))) ((v5 + (Int32.ofInt 1))) (some (.int (hq_88 (hq_93 S 49 (Int32.ofInt 0)) 49 i1))) Z (hp_up h1 hm) hZ kk
        · rw [if_neg (hp_nt h2)] at hZ
          refine hp_sN [38, 40] (pc' := 40) (L' := [some (.ref 47), some (.int i1), some (.int i2), some (.int i3), some (.int v4), some (.int v5), some (.int (hq_88 (hq_93 S 49 (Int32.ofInt 0)) 49 i1))]) (st' := [.int (Int32.ofInt 9), .int (hq_88 (hq_93 S 49 (Int32.ofInt 0)) 49 i1), .int v4]) rfl rfl ?_
          refine hp_ic2 (pc' := 43) rfl rfl (fun h4 => ?_) (fun h4 => ?_)
          · rw [if_pos h4] at hZ
            refine hp_sB 48 [62, 63, 65, 68, 6] (pc' := 6) (L' := [some (.ref 47), some (.int i1), some (.int i2), some (.int i3), some (.int (v4 + (Int32.ofInt 1))), some (.int (v5 + (Int32.ofInt 1))), some (.int (hq_88 (hq_93 S 49 (Int32.ofInt 0)) 49 i1))]) (st' := []) rfl rfl ?_
            exact ih (Nat.le_trans (Nat.le_succ n) hN) m (hq_93 S 49 (Int32.ofInt 0)) ((v4 + (Int32.ofInt 1))) ((v5 + (Int32.ofInt 1))) (some (.int (hq_88 (hq_93 S 49 (Int32.ofInt 0)) 49 i1))) Z (hp_up h1 hm) hZ kk
          · rw [if_neg (hp_nt h4)] at hZ
            refine hp_sB 44 [62, 63, 65, 68, 6] (pc' := 6) (L' := [some (.ref 47), some (.int i1), some (.int i2), some (.int i3), some (.int (v4 + (Int32.ofInt 0))), some (.int (v5 + (Int32.ofInt 1))), some (.int (hq_88 (hq_93 S 49 (Int32.ofInt 0)) 49 i1))]) (st' := []) rfl rfl ?_
            exact ih (Nat.le_trans (Nat.le_succ n) hN) m (hq_93 S 49 (Int32.ofInt 0)) ((v4 + (Int32.ofInt 0))) ((v5 + (Int32.ofInt 1))) (some (.int (hq_88 (hq_93 S 49 (Int32.ofInt 0)) 49 i1))) Z (hp_up h1 hm) hZ kk
set_option maxRecDepth 10000 in
theorem ht_130 {X : hp_X} (S : hp_S) (i1 : Int32) (i2 : Int32) (i3 : Int32) (n : Nat) : hp_T n 130 0 [some (.ref 47), some (.int i1), some (.int i2), some (.int i3), none, none, none] [] (hp_mem X S) (hp_is X) (hq_130 S i1 i2 i3) := by
  unfold hq_130
  refine hp_sN [1, 3, 4, 6] (pc' := 6) (L' := [some (.ref 47), some (.int i1), some (.int i2), some (.int i3), some (.int (Int32.ofInt 0)), some (.int (Int32.ofInt 0)), none]) (st' := []) rfl rfl ?_
  refine ht_130_6 n i1 i2 i3  n (Nat.le_refl _) ((i3.toInt - (Int32.ofInt 0).toInt).toNat + 1) S ((Int32.ofInt 0)) ((Int32.ofInt 0)) (none) _ (Nat.lt_succ_self _) rfl (fun x6_6 x5_6 => ?_)
  show hp_T _ 130 71 [some (.ref 47), some (.int i1), some (.int i2), some (.int i3), some (.int (hq_130_6 i1 i2 i3 ((i3.toInt - (Int32.ofInt 0).toInt).toNat + 1) S ((Int32.ofInt 0)) ((Int32.ofInt 0))).2), x5_6, x6_6] _ (hp_mem X ((hq_130_6 i1 i2 i3 ((i3.toInt - (Int32.ofInt 0).toInt).toNat + 1) S ((Int32.ofInt 0)) ((Int32.ofInt 0))).1)) _ _
  refine hp_sN [73] (pc' := 73) (L' := [some (.ref 47), some (.int i1), some (.int i2), some (.int i3), some (.int (hq_130_6 i1 i2 i3 ((i3.toInt - (Int32.ofInt 0).toInt).toNat + 1) S ((Int32.ofInt 0)) ((Int32.ofInt 0))).2), x5_6, x6_6]) (st' := [.int (hq_130_6 i1 i2 i3 ((i3.toInt - (Int32.ofInt 0).toInt).toNat + 1) S ((Int32.ofInt 0)) ((Int32.ofInt 0))).2]) rfl rfl ?_
  exact hp_Ris rfl
theorem hk_130 {X : hp_X} (S : hp_S) (i1 : Int32) (i2 : Int32) (i3 : Int32) : hp_K 130 [.ref 47, .int i1, .int i2, .int i3] (hp_mem X S) (hp_is X) (hq_130 S i1 i2 i3) := by
  refine hp_mk (q := hzq_130) rfl (by decide) (L := [some (.ref 47), some (.int i1), some (.int i2), some (.int i3), none, none, none]) rfl (fun n => ?_)
  exact ht_130 S i1 i2 i3 n
/-! 131: HatsOfTheWindModel.stand(III)I -/
def hq_131_35 (i1 : Int32) (i2 : Int32) (i3 : Int32) : Nat → hp_S → Int32 → Int32 → Int32 → hp_S × Int32 × Int32
  | 0, S, _, _, _ => (S, 0, 0)
  | m + 1, S, v4, v5, v6 => (if hz_cmp .ge v6 (Int32.ofInt 21) = true then (S, v4, v5) else (if hz_cmp .gt (hq_130 (hp_wg 80 (hq_73 S 48 49) 49 (hq_74 (hq_73 S 48 49) i1 (Int32.ofInt 0)) v6) i1 (Int32.ofInt (-4)) i2).1 v5 = true then hq_131_35 i1 i2 i3 m ((hq_130 (hp_wg 80 (hq_73 S 48 49) 49 (hq_74 (hq_73 S 48 49) i1 (Int32.ofInt 0)) v6) i1 (Int32.ofInt (-4)) i2).2) v6 (hq_130 (hp_wg 80 (hq_73 S 48 49) 49 (hq_74 (hq_73 S 48 49) i1 (Int32.ofInt 0)) v6) i1 (Int32.ofInt (-4)) i2).1 (v6 + (Int32.ofInt 1)) else hq_131_35 i1 i2 i3 m ((hq_130 (hp_wg 80 (hq_73 S 48 49) 49 (hq_74 (hq_73 S 48 49) i1 (Int32.ofInt 0)) v6) i1 (Int32.ofInt (-4)) i2).2) v4 v5 (v6 + (Int32.ofInt 1))))
def hq_131 (S : hp_S) (i1 : Int32) (i2 : Int32) (i3 : Int32) : Int32 × hp_S := (if hz_cmp .eq (hq_76 S i1) 0 = true then ((Int32.ofInt (-1)), S) else (if hz_cmp .eq (hq_117 S i2) 0 = true then ((Int32.ofInt (-1)), S) else (if hz_cmp .ne (hq_70 S i3 (Int32.ofInt 0) (Int32.ofInt 1)) 0 = true then (if hz_cmp .ne i3 0 = true then ((hq_131_35 i1 i2 i3 (((Int32.ofInt 21).toInt - (Int32.ofInt 0).toInt).toNat + 1) S ((Int32.ofInt 0)) ((Int32.ofInt (-1))) ((Int32.ofInt 0))).2.2, (hq_131_35 i1 i2 i3 (((Int32.ofInt 21).toInt - (Int32.ofInt 0).toInt).toNat + 1) S ((Int32.ofInt 0)) ((Int32.ofInt (-1))) ((Int32.ofInt 0))).1) else ((hq_131_35 i1 i2 i3 (((Int32.ofInt 21).toInt - (Int32.ofInt 0).toInt).toNat + 1) S ((Int32.ofInt 0)) ((Int32.ofInt (-1))) ((Int32.ofInt 0))).2.1, (hq_131_35 i1 i2 i3 (((Int32.ofInt 21).toInt - (Int32.ofInt 0).toInt).toNat + 1) S ((Int32.ofInt 0)) ((Int32.ofInt (-1))) ((Int32.ofInt 0))).1)) else ((Int32.ofInt (-1)), S))))
theorem hf_131_35 {i1 : Int32} {i2 : Int32} {i3 : Int32} (j : Nat) (z0 : j ≠ 49) : ∀ (m : Nat) (S : hp_S) (v4 : Int32) (v5 : Int32) (v6 : Int32), (hq_131_35 i1 i2 i3 m S v4 v5 v6).1 j = S j := by
  intro m
  induction m with
  | zero => intros; rfl
  | succ m ih =>
    intro S v4 v5 v6
    rw [hq_131_35]
    repeat' split
    all_goals simp [ih, hp_wo, hp_wgo, hp_cpo, hf_73, hf_130, z0]
theorem hf_131 (S : hp_S) (i1 : Int32) (i2 : Int32) (i3 : Int32) (j : Nat) (z0 : j ≠ 49) : (hq_131 S i1 i2 i3).2 j = S j := by
  unfold hq_131
  repeat' split
  all_goals simp [hp_wo, hp_wgo, hp_cpo, hf_73, hf_130, z0, hf_131_35]
set_option maxRecDepth 10000 in
theorem ht_131_35 {α : Type} {φ : α → Option Value × hzMem} {R : α} {X : hp_X} (N : Nat) (i1 : Int32) (i2 : Int32) (i3 : Int32) : ∀ (n : Nat), n ≤ N → ∀ (m : Nat) (S : hp_S) (v4 : Int32) (v5 : Int32) (v6 : Int32) (x7 : Option Value) (Z : hp_S × Int32 × Int32), ((Int32.ofInt 21).toInt - v6.toInt).toNat < m → hq_131_35 i1 i2 i3 m S v4 v5 v6 = Z → (∀ (x7 : Option Value) (x6 : Option Value), hp_T N 131 99 [some (.ref 47), some (.int i1), some (.int i2), some (.int i3), some (.int Z.2.1), some (.int Z.2.2), x6, x7] [] (hp_mem X Z.1) φ R) → hp_T n 131 35 [some (.ref 47), some (.int i1), some (.int i2), some (.int i3), some (.int v4), some (.int v5), some (.int v6), x7] [] (hp_mem X S) φ R := by
  intro n
  induction n with
  | zero => intros; exact hp_0
  | succ n ih =>
    intro hN m S v4 v5 v6 x7 Z hm hZ kk
    cases m with
    | zero => exact absurd hm (Nat.not_lt_zero _)
    | succ m =>
      rw [hq_131_35] at hZ
      refine hp_sN [37, 39] (pc' := 39) (L' := [some (.ref 47), some (.int i1), some (.int i2), some (.int i3), some (.int v4), some (.int v5), some (.int v6), x7]) (st' := [.int (Int32.ofInt 21), .int v6]) rfl rfl ?_
      refine hp_ic2 (pc' := 42) rfl rfl (fun h1 => ?_) (fun h1 => ?_)
      · rw [if_pos h1] at hZ
        subst hZ
        exact hp_le hN (kk (x7) (some (.int v6)))
      · rw [if_neg (hp_nt h1)] at hZ
        refine hp_sN [43] (pc' := 43) (L' := [some (.ref 47), some (.int i1), some (.int i2), some (.int i3), some (.int v4), some (.int v5), some (.int v6), x7]) (st' := [.ref 47]) rfl rfl ?_
        refine hp_gf (pc' := 46) rfl (by decide) (hp_c47 X _) rfl rfl ?_
        refine hp_sN [47] (pc' := 47) (L' := [some (.ref 47), some (.int i1), some (.int i2), some (.int i3), some (.int v4), some (.int v5), some (.int v6), x7]) (st' := [.ref 47, .ref 48]) rfl rfl ?_
        refine hp_gf (pc' := 50) rfl (by decide) (hp_c47 X _) rfl rfl ?_
        refine hp_iv (virt := false) (pc' := 53) (rv := none) (M1 := hp_mem X (hq_73 S 48 49)) rfl rfl (by decide) (hk_73 (Or.inl rfl) (Or.inr (Or.inl rfl)) S) rfl rfl ?_
        show hp_T _ 131 53 _ [] _ _ _
        refine hp_sN [54] (pc' := 54) (L' := [some (.ref 47), some (.int i1), some (.int i2), some (.int i3), some (.int v4), some (.int v5), some (.int v6), x7]) (st' := [.ref 47]) rfl rfl ?_
        refine hp_gf (pc' := 57) rfl (by decide) (hp_c47 X _) rfl rfl ?_
        refine hp_sN [58, 59] (pc' := 59) (L' := [some (.ref 47), some (.int i1), some (.int i2), some (.int i3), some (.int v4), some (.int v5), some (.int v6), x7]) (st' := [.int (Int32.ofInt 0), .int i1, .ref 49]) rfl rfl ?_
        refine hp_iv (virt := false) (pc' := 62) (rv := some (.int (hq_74 (hq_73 S 48 49) i1 (Int32.ofInt 0)))) (M1 := hp_mem X (hq_73 S 48 49)) rfl rfl (by decide) (hk_74 (hq_73 S 48 49) (i1) ((Int32.ofInt 0))) rfl rfl ?_
        show hp_T _ 131 62 _ [.int (hq_74 (hq_73 S 48 49) i1 (Int32.ofInt 0)), .ref 49] _ _ _
        refine hp_sN [64] (pc' := 64) (L' := [some (.ref 47), some (.int i1), some (.int i2), some (.int i3), some (.int v4), some (.int v5), some (.int v6), x7]) (st' := [.int v6, .int (hq_74 (hq_73 S 48 49) i1 (Int32.ofInt 0)), .ref 49]) rfl rfl ?_
        refine hp_asg (pc' := 65) rfl (hp_cl (Or.inr (Or.inl rfl))) (fun _ => (hp_cc (Or.inr (Or.inl rfl)) X _)) rfl ?_
        refine hp_sN [66, 67, 69, 70] (pc' := 70) (L' := [some (.ref 47), some (.int i1), some (.int i2), some (.int i3), some (.int v4), some (.int v5), some (.int v6), x7]) (st' := [.int i2, .int (Int32.ofInt (-4)), .int i1, .ref 47]) rfl rfl ?_
        refine hp_iv (virt := true) (pc' := 73) (rv := some (.int (hq_130 (hp_wg 80 (hq_73 S 48 49) 49 (hq_74 (hq_73 S 48 49) i1 (Int32.ofInt 0)) v6) i1 (Int32.ofInt (-4)) i2).1)) (M1 := hp_mem X ((hq_130 (hp_wg 80 (hq_73 S 48 49) 49 (hq_74 (hq_73 S 48 49) i1 (Int32.ofInt 0)) v6) i1 (Int32.ofInt (-4)) i2).2)) rfl rfl (by decide) (hk_130 (hp_wg 80 (hq_73 S 48 49) 49 (hq_74 (hq_73 S 48 49) i1 (Int32.ofInt 0)) v6) (i1) ((Int32.ofInt (-4))) (i2)) rfl rfl ?_
        show hp_T _ 131 73 _ [.int (hq_130 (hp_wg 80 (hq_73 S 48 49) 49 (hq_74 (hq_73 S 48 49) i1 (Int32.ofInt 0)) v6) i1 (Int32.ofInt (-4)) i2).1] _ _ _
        refine hp_sN [75, 77, 79] (pc' := 79) (L' := [some (.ref 47), some (.int i1), some (.int i2), some (.int i3), some (.int v4), some (.int v5), some (.int v6), some (.int (hq_130 (hp_wg 80 (hq_73 S 48 49) 49 (hq_74 (hq_73 S 48 49) i1 (Int32.ofInt 0)) v6) i1 (Int32.ofInt (-4)) i2).1)]) (st' := [.int v5, .int (hq_130 (hp_wg 80 (hq_73 S 48 49) 49 (hq_74 (hq_73 S 48 49) i1 (Int32.ofInt 0)) v6) i1 (Int32.ofInt (-4)) i2).1]) rfl rfl ?_
        refine hp_ic2 (pc' := 82) rfl rfl (fun h2 => ?_) (fun h2 => ?_)
        · rw [if_pos h2] at hZ
          refine hp_sB 87 [89, 91, 93, 96, 35] (pc' := 35) (L' := [some (.ref 47), some (.int i1), some (.int i2), some (.int i3), some (.int v6), some (.int (hq_130 (hp_wg 80 (hq_73 S 48 49) 49 (hq_74 (hq_73 S 48 49) i1 (Int32.ofInt 0)) v6) i1 (Int32.ofInt (-4)) i2).1), some (.int (v6 + (Int32.ofInt 1))), some (.int (hq_130 (hp_wg 80 (hq_73 S 48 49) 49 (hq_74 (hq_73 S 48 49) i1 (Int32.ofInt 0)) v6) i1 (Int32.ofInt (-4)) i2).1)]) (st' := []) rfl rfl ?_
          exact ih (Nat.le_trans (Nat.le_succ n) hN) m ((hq_130 (hp_wg 80 (hq_73 S 48 49) 49 (hq_74 (hq_73 S 48 49) i1 (Int32.ofInt 0)) v6) i1 (Int32.ofInt (-4)) i2).2) (v6) ((hq_130 (hp_wg 80 (hq_73 S 48 49) 49 (hq_74 (hq_73 S 48 49) i1 (Int32.ofInt 0)) v6) i1 (Int32.ofInt (-4)) i2).1) ((v6 + (Int32.ofInt 1))) (some (.int (hq_130 (hp_wg 80 (hq_73 S 48 49) 49 (hq_74 (hq_73 S 48 49) i1 (Int32.ofInt 0)) v6) i1 (Int32.ofInt (-4)) i2).1)) Z (hp_up h1 hm) hZ kk
        · rw [if_neg (hp_nt h2)] at hZ
          refine hp_sB 93 [96, 35] (pc' := 35) (L' := [some (.ref 47), some (.int i1), some (.int i2), some (.int i3), some (.int v4), some (.int v5), some (.int (v6 + (Int32.ofInt 1))), some (.int (hq_130 (hp_wg 80 (hq_73 S 48 49) 49 (hq_74 (hq_73 S 48 49) i1 (Int32.ofInt 0)) v6) i1 (Int32.ofInt (-4)) i2).1)]) (st' := []) rfl rfl ?_
          exact ih (Nat.le_trans (Nat.le_succ n) hN) m ((hq_130 (hp_wg 80 (hq_73 S 48 49) 49 (hq_74 (hq_73 S 48 49) i1 (Int32.ofInt 0)) v6) i1 (Int32.ofInt (-4)) i2).2) (v4) (v5) ((v6 + (Int32.ofInt 1))) (some (.int (hq_130 (hp_wg 80 (hq_73 S 48 49) 49 (hq_74 (hq_73 S 48 49) i1 (Int32.ofInt 0)) v6) i1 (Int32.ofInt (-4)) i2).1)) Z (hp_up h1 hm) hZ kk
set_option maxRecDepth 10000 in
theorem ht_131 {X : hp_X} (S : hp_S) (i1 : Int32) (i2 : Int32) (i3 : Int32) (n : Nat) : hp_T n 131 0 [some (.ref 47), some (.int i1), some (.int i2), some (.int i3), none, none, none, none] [] (hp_mem X S) (hp_is X) (hq_131 S i1 i2 i3) := by
  unfold hq_131
  refine hp_sN [1, 2] (pc' := 2) (L' := [some (.ref 47), some (.int i1), some (.int i2), some (.int i3), none, none, none, none]) (st' := [.int i1, .ref 47]) rfl rfl ?_
  refine hp_iv (virt := true) (pc' := 5) (rv := some (.int (hq_76 S i1))) (M1 := hp_mem X (S)) rfl rfl (by decide) (hk_76 S (i1)) rfl rfl ?_
  show hp_T _ 131 5 _ [.int (hq_76 S i1)] _ _ _
  refine hp_if (pc' := 8) rfl rfl (fun h1 => ?_) (fun h1 => ?_)
  · refine hp_sN [25] (pc' := 25) (L' := [some (.ref 47), some (.int i1), some (.int i2), some (.int i3), none, none, none, none]) (st' := [.int (Int32.ofInt (-1))]) rfl rfl ?_
    exact hp_Ris rfl
  · refine hp_sN [9] (pc' := 9) (L' := [some (.ref 47), some (.int i1), some (.int i2), some (.int i3), none, none, none, none]) (st' := [.int i2]) rfl rfl ?_
    refine hp_iv (virt := false) (pc' := 12) (rv := some (.int (hq_117 S i2))) (M1 := hp_mem X (S)) rfl rfl (by decide) (hk_117 S (i2)) rfl rfl ?_
    show hp_T _ 131 12 _ [.int (hq_117 S i2)] _ _ _
    refine hp_if (pc' := 15) rfl rfl (fun h2 => ?_) (fun h2 => ?_)
    · refine hp_sN [25] (pc' := 25) (L' := [some (.ref 47), some (.int i1), some (.int i2), some (.int i3), none, none, none, none]) (st' := [.int (Int32.ofInt (-1))]) rfl rfl ?_
      exact hp_Ris rfl
    · refine hp_sN [16, 17, 18] (pc' := 18) (L' := [some (.ref 47), some (.int i1), some (.int i2), some (.int i3), none, none, none, none]) (st' := [.int (Int32.ofInt 1), .int (Int32.ofInt 0), .int i3]) rfl rfl ?_
      refine hp_iv (virt := false) (pc' := 21) (rv := some (.int (hq_70 S i3 (Int32.ofInt 0) (Int32.ofInt 1)))) (M1 := hp_mem X (S)) rfl rfl (by decide) (hk_70 S (i3) ((Int32.ofInt 0)) ((Int32.ofInt 1))) rfl rfl ?_
      show hp_T _ 131 21 _ [.int (hq_70 S i3 (Int32.ofInt 0) (Int32.ofInt 1))] _ _ _
      refine hp_if (pc' := 24) rfl rfl (fun h3 => ?_) (fun h3 => ?_)
      · refine hp_sN [27, 29, 30, 32, 33, 35] (pc' := 35) (L' := [some (.ref 47), some (.int i1), some (.int i2), some (.int i3), some (.int (Int32.ofInt 0)), some (.int (Int32.ofInt (-1))), some (.int (Int32.ofInt 0)), none]) (st' := []) rfl rfl ?_
        refine ht_131_35 n i1 i2 i3  n (Nat.le_refl _) (((Int32.ofInt 21).toInt - (Int32.ofInt 0).toInt).toNat + 1) S ((Int32.ofInt 0)) ((Int32.ofInt (-1))) ((Int32.ofInt 0)) (none) _ (Nat.lt_succ_self _) rfl (fun x7_35 x6_35 => ?_)
        show hp_T _ 131 99 [some (.ref 47), some (.int i1), some (.int i2), some (.int i3), some (.int (hq_131_35 i1 i2 i3 (((Int32.ofInt 21).toInt - (Int32.ofInt 0).toInt).toNat + 1) S ((Int32.ofInt 0)) ((Int32.ofInt (-1))) ((Int32.ofInt 0))).2.1), some (.int (hq_131_35 i1 i2 i3 (((Int32.ofInt 21).toInt - (Int32.ofInt 0).toInt).toNat + 1) S ((Int32.ofInt 0)) ((Int32.ofInt (-1))) ((Int32.ofInt 0))).2.2), x6_35, x7_35] _ (hp_mem X ((hq_131_35 i1 i2 i3 (((Int32.ofInt 21).toInt - (Int32.ofInt 0).toInt).toNat + 1) S ((Int32.ofInt 0)) ((Int32.ofInt (-1))) ((Int32.ofInt 0))).1)) _ _
        refine hp_sN [100] (pc' := 100) (L' := [some (.ref 47), some (.int i1), some (.int i2), some (.int i3), some (.int (hq_131_35 i1 i2 i3 (((Int32.ofInt 21).toInt - (Int32.ofInt 0).toInt).toNat + 1) S ((Int32.ofInt 0)) ((Int32.ofInt (-1))) ((Int32.ofInt 0))).2.1), some (.int (hq_131_35 i1 i2 i3 (((Int32.ofInt 21).toInt - (Int32.ofInt 0).toInt).toNat + 1) S ((Int32.ofInt 0)) ((Int32.ofInt (-1))) ((Int32.ofInt 0))).2.2), x6_35, x7_35]) (st' := [.int i3]) rfl rfl ?_
        refine hp_if (pc' := 103) rfl rfl (fun h4 => ?_) (fun h4 => ?_)
        · refine hp_sN [110] (pc' := 110) (L' := [some (.ref 47), some (.int i1), some (.int i2), some (.int i3), some (.int (hq_131_35 i1 i2 i3 (((Int32.ofInt 21).toInt - (Int32.ofInt 0).toInt).toNat + 1) S ((Int32.ofInt 0)) ((Int32.ofInt (-1))) ((Int32.ofInt 0))).2.1), some (.int (hq_131_35 i1 i2 i3 (((Int32.ofInt 21).toInt - (Int32.ofInt 0).toInt).toNat + 1) S ((Int32.ofInt 0)) ((Int32.ofInt (-1))) ((Int32.ofInt 0))).2.2), x6_35, x7_35]) (st' := [.int (hq_131_35 i1 i2 i3 (((Int32.ofInt 21).toInt - (Int32.ofInt 0).toInt).toNat + 1) S ((Int32.ofInt 0)) ((Int32.ofInt (-1))) ((Int32.ofInt 0))).2.2]) rfl rfl ?_
          exact hp_Ris rfl
        · refine hp_sN [105, 110] (pc' := 110) (L' := [some (.ref 47), some (.int i1), some (.int i2), some (.int i3), some (.int (hq_131_35 i1 i2 i3 (((Int32.ofInt 21).toInt - (Int32.ofInt 0).toInt).toNat + 1) S ((Int32.ofInt 0)) ((Int32.ofInt (-1))) ((Int32.ofInt 0))).2.1), some (.int (hq_131_35 i1 i2 i3 (((Int32.ofInt 21).toInt - (Int32.ofInt 0).toInt).toNat + 1) S ((Int32.ofInt 0)) ((Int32.ofInt (-1))) ((Int32.ofInt 0))).2.2), x6_35, x7_35]) (st' := [.int (hq_131_35 i1 i2 i3 (((Int32.ofInt 21).toInt - (Int32.ofInt 0).toInt).toNat + 1) S ((Int32.ofInt 0)) ((Int32.ofInt (-1))) ((Int32.ofInt 0))).2.1]) rfl rfl ?_
          exact hp_Ris rfl
      · refine hp_sN [25] (pc' := 25) (L' := [some (.ref 47), some (.int i1), some (.int i2), some (.int i3), none, none, none, none]) (st' := [.int (Int32.ofInt (-1))]) rfl rfl ?_
        exact hp_Ris rfl
theorem hk_131 {X : hp_X} (S : hp_S) (i1 : Int32) (i2 : Int32) (i3 : Int32) : hp_K 131 [.ref 47, .int i1, .int i2, .int i3] (hp_mem X S) (hp_is X) (hq_131 S i1 i2 i3) := by
  refine hp_mk (q := hzq_131) rfl (by decide) (L := [some (.ref 47), some (.int i1), some (.int i2), some (.int i3), none, none, none, none]) rfl (fun n => ?_)
  exact ht_131 S i1 i2 i3 n
/-! 132: HatsOfTheWindModel.wear(II)I -/
def hq_132_26 (i1 : Int32) (i2 : Int32) : Nat → hp_S → Int32 → Int32 → Int32 → hp_S × Int32
  | 0, S, _, _, _ => (S, 0)
  | m + 1, S, v3, v4, v5 => (if hz_cmp .ge v5 (S 48 (Int32.ofInt 1).toNatClampNeg) = true then (S, v3) else (if hz_cmp .eq (hq_97 S 48 v5) 0 = true then (if hz_cmp .eq (hq_88 (hq_73 S 48 49) 49 i1) (Int32.ofInt 9) = true then (if hz_cmp .gt (hq_130 (hp_wg 80 (hq_73 S 48 49) 49 (hq_75 (hq_73 S 48 49) v5 (Int32.ofInt 2)) i1) i1 v5 i2).1 v4 = true then hq_132_26 i1 i2 m ((hq_130 (hp_wg 80 (hq_73 S 48 49) 49 (hq_75 (hq_73 S 48 49) v5 (Int32.ofInt 2)) i1) i1 v5 i2).2) v5 (hq_130 (hp_wg 80 (hq_73 S 48 49) 49 (hq_75 (hq_73 S 48 49) v5 (Int32.ofInt 2)) i1) i1 v5 i2).1 (v5 + (Int32.ofInt 1)) else hq_132_26 i1 i2 m ((hq_130 (hp_wg 80 (hq_73 S 48 49) 49 (hq_75 (hq_73 S 48 49) v5 (Int32.ofInt 2)) i1) i1 v5 i2).2) v3 v4 (v5 + (Int32.ofInt 1))) else (if hz_cmp .eq (hq_88 (hq_73 S 48 49) 49 i1) v5 = true then (if hz_cmp .gt (hq_130 (hp_wg 80 (hq_73 S 48 49) 49 (hq_75 (hq_73 S 48 49) v5 (Int32.ofInt 2)) i1) i1 v5 i2).1 v4 = true then hq_132_26 i1 i2 m ((hq_130 (hp_wg 80 (hq_73 S 48 49) 49 (hq_75 (hq_73 S 48 49) v5 (Int32.ofInt 2)) i1) i1 v5 i2).2) v5 (hq_130 (hp_wg 80 (hq_73 S 48 49) 49 (hq_75 (hq_73 S 48 49) v5 (Int32.ofInt 2)) i1) i1 v5 i2).1 (v5 + (Int32.ofInt 1)) else hq_132_26 i1 i2 m ((hq_130 (hp_wg 80 (hq_73 S 48 49) 49 (hq_75 (hq_73 S 48 49) v5 (Int32.ofInt 2)) i1) i1 v5 i2).2) v3 v4 (v5 + (Int32.ofInt 1))) else (if hz_cmp .gt (hq_130 (hp_wg 80 (hq_89 (hq_73 S 48 49) 49 (hq_88 (hq_73 S 48 49) 49 i1)) 49 (hq_75 (hq_89 (hq_73 S 48 49) 49 (hq_88 (hq_73 S 48 49) 49 i1)) v5 (Int32.ofInt 2)) i1) i1 v5 i2).1 v4 = true then hq_132_26 i1 i2 m ((hq_130 (hp_wg 80 (hq_89 (hq_73 S 48 49) 49 (hq_88 (hq_73 S 48 49) 49 i1)) 49 (hq_75 (hq_89 (hq_73 S 48 49) 49 (hq_88 (hq_73 S 48 49) 49 i1)) v5 (Int32.ofInt 2)) i1) i1 v5 i2).2) v5 (hq_130 (hp_wg 80 (hq_89 (hq_73 S 48 49) 49 (hq_88 (hq_73 S 48 49) 49 i1)) 49 (hq_75 (hq_89 (hq_73 S 48 49) 49 (hq_88 (hq_73 S 48 49) 49 i1)) v5 (Int32.ofInt 2)) i1) i1 v5 i2).1 (v5 + (Int32.ofInt 1)) else hq_132_26 i1 i2 m ((hq_130 (hp_wg 80 (hq_89 (hq_73 S 48 49) 49 (hq_88 (hq_73 S 48 49) 49 i1)) 49 (hq_75 (hq_89 (hq_73 S 48 49) 49 (hq_88 (hq_73 S 48 49) 49 i1)) v5 (Int32.ofInt 2)) i1) i1 v5 i2).2) v3 v4 (v5 + (Int32.ofInt 1))))) else hq_132_26 i1 i2 m S v3 v4 (v5 + (Int32.ofInt 1))))
def hq_132 (S : hp_S) (i1 : Int32) (i2 : Int32) : Int32 × hp_S := (if hz_cmp .eq (hq_76 S i1) 0 = true then ((Int32.ofInt (-1)), S) else (if hz_cmp .ne (hq_117 S i2) 0 = true then ((hq_132_26 i1 i2 (((S 48 (Int32.ofInt 1).toNatClampNeg).toInt - (Int32.ofInt 0).toInt).toNat + 1) S ((Int32.ofInt (-4))) ((Int32.ofInt (-1))) ((Int32.ofInt 0))).2, (hq_132_26 i1 i2 (((S 48 (Int32.ofInt 1).toNatClampNeg).toInt - (Int32.ofInt 0).toInt).toNat + 1) S ((Int32.ofInt (-4))) ((Int32.ofInt (-1))) ((Int32.ofInt 0))).1) else ((Int32.ofInt (-1)), S)))
theorem hf_132_26 {i1 : Int32} {i2 : Int32} (j : Nat) (z0 : j ≠ 49) : ∀ (m : Nat) (S : hp_S) (v3 : Int32) (v4 : Int32) (v5 : Int32), (hq_132_26 i1 i2 m S v3 v4 v5).1 j = S j := by
  intro m
  induction m with
  | zero => intros; rfl
  | succ m ih =>
    intro S v3 v4 v5
    rw [hq_132_26]
    repeat' split
    all_goals simp [ih, hp_wo, hp_wgo, hp_cpo, hf_73, hf_89, hf_130, z0]
theorem hf_132 (S : hp_S) (i1 : Int32) (i2 : Int32) (j : Nat) (z0 : j ≠ 49) : (hq_132 S i1 i2).2 j = S j := by
  unfold hq_132
  repeat' split
  all_goals simp [hp_wo, hp_wgo, hp_cpo, hf_73, hf_89, hf_130, z0, hf_132_26]
set_option maxRecDepth 10000 in
theorem ht_132_26 {α : Type} {φ : α → Option Value × hzMem} {R : α} {X : hp_X} (N : Nat) (i1 : Int32) (i2 : Int32) : ∀ (n : Nat), n ≤ N → ∀ (m : Nat) (S : hp_S) (v3 : Int32) (v4 : Int32) (v5 : Int32) (x6 : Option Value) (x7 : Option Value) (Z : hp_S × Int32), ((S 48 (Int32.ofInt 1).toNatClampNeg).toInt - v5.toInt).toNat < m → hq_132_26 i1 i2 m S v3 v4 v5 = Z → (∀ (x6 : Option Value) (x7 : Option Value) (x4 : Option Value) (x5 : Option Value), hp_T N 132 141 [some (.ref 47), some (.int i1), some (.int i2), some (.int Z.2), x4, x5, x6, x7] [] (hp_mem X Z.1) φ R) → hp_T n 132 26 [some (.ref 47), some (.int i1), some (.int i2), some (.int v3), some (.int v4), some (.int v5), x6, x7] [] (hp_mem X S) φ R := by
  intro n
  induction n with
  | zero => intros; exact hp_0
  | succ n ih =>
    intro hN m S v3 v4 v5 x6 x7 Z hm hZ kk
    cases m with
    | zero => exact absurd hm (Nat.not_lt_zero _)
    | succ m =>
      rw [hq_132_26] at hZ
      refine hp_sN [28, 29] (pc' := 29) (L' := [some (.ref 47), some (.int i1), some (.int i2), some (.int v3), some (.int v4), some (.int v5), x6, x7]) (st' := [.ref 47, .int v5]) rfl rfl ?_
      refine hp_gf (pc' := 32) rfl (by decide) (hp_c47 X _) rfl rfl ?_
      refine hp_sN [33] (pc' := 33) (L' := [some (.ref 47), some (.int i1), some (.int i2), some (.int v3), some (.int v4), some (.int v5), x6, x7]) (st' := [.int (Int32.ofInt 1), .ref 48, .int v5]) rfl rfl ?_
      refine hp_al (pc' := 34) rfl (hp_cl (Or.inl rfl)) (hp_cc (Or.inl rfl) X _) rfl ?_
      refine hp_ic2 (pc' := 37) rfl rfl (fun h1 => ?_) (fun h1 => ?_)
      · rw [if_pos h1] at hZ
        subst hZ
        exact hp_le hN (kk (x6) (x7) (some (.int v4)) (some (.int v5)))
      · rw [if_neg (hp_nt h1)] at hZ
        refine hp_sN [38] (pc' := 38) (L' := [some (.ref 47), some (.int i1), some (.int i2), some (.int v3), some (.int v4), some (.int v5), x6, x7]) (st' := [.ref 47]) rfl rfl ?_
        refine hp_gf (pc' := 41) rfl (by decide) (hp_c47 X _) rfl rfl ?_
        refine hp_sN [43] (pc' := 43) (L' := [some (.ref 47), some (.int i1), some (.int i2), some (.int v3), some (.int v4), some (.int v5), x6, x7]) (st' := [.int v5, .ref 48]) rfl rfl ?_
        refine hp_iv (virt := false) (pc' := 46) (rv := some (.int (hq_97 S 48 v5))) (M1 := hp_mem X (S)) rfl rfl (by decide) (hk_97 (Or.inl rfl) S (v5)) rfl rfl ?_
        show hp_T _ 132 46 _ [.int (hq_97 S 48 v5)] _ _ _
        refine hp_if2 (pc' := 49) rfl rfl (fun h2 => ?_) (fun h2 => ?_)
        · rw [if_pos h2] at hZ
          refine hp_sN [53] (pc' := 53) (L' := [some (.ref 47), some (.int i1), some (.int i2), some (.int v3), some (.int v4), some (.int v5), x6, x7]) (st' := [.ref 47]) rfl rfl ?_
          refine hp_gf (pc' := 56) rfl (by decide) (hp_c47 X _) rfl rfl ?_
          refine hp_sN [57] (pc' := 57) (L' := [some (.ref 47), some (.int i1), some (.int i2), some (.int v3), some (.int v4), some (.int v5), x6, x7]) (st' := [.ref 47, .ref 48]) rfl rfl ?_
          refine hp_gf (pc' := 60) rfl (by decide) (hp_c47 X _) rfl rfl ?_
          refine hp_iv (virt := false) (pc' := 63) (rv := none) (M1 := hp_mem X (hq_73 S 48 49)) rfl rfl (by decide) (hk_73 (Or.inl rfl) (Or.inr (Or.inl rfl)) S) rfl rfl ?_
          show hp_T _ 132 63 _ [] _ _ _
          refine hp_sN [64] (pc' := 64) (L' := [some (.ref 47), some (.int i1), some (.int i2), some (.int v3), some (.int v4), some (.int v5), x6, x7]) (st' := [.ref 47]) rfl rfl ?_
          refine hp_gf (pc' := 67) rfl (by decide) (hp_c47 X _) rfl rfl ?_
          refine hp_sN [68] (pc' := 68) (L' := [some (.ref 47), some (.int i1), some (.int i2), some (.int v3), some (.int v4), some (.int v5), x6, x7]) (st' := [.int i1, .ref 49]) rfl rfl ?_
          refine hp_iv (virt := false) (pc' := 71) (rv := some (.int (hq_88 (hq_73 S 48 49) 49 i1))) (M1 := hp_mem X (hq_73 S 48 49)) rfl rfl (by decide) (hk_88 (Or.inr (Or.inl rfl)) (hq_73 S 48 49) (i1)) rfl rfl ?_
          show hp_T _ 132 71 _ [.int (hq_88 (hq_73 S 48 49) 49 i1)] _ _ _
          refine hp_sN [73, 75, 77] (pc' := 77) (L' := [some (.ref 47), some (.int i1), some (.int i2), some (.int v3), some (.int v4), some (.int v5), some (.int (hq_88 (hq_73 S 48 49) 49 i1)), x7]) (st' := [.int (Int32.ofInt 9), .int (hq_88 (hq_73 S 48 49) 49 i1)]) rfl rfl ?_
          refine hp_ic2 (pc' := 80) rfl rfl (fun h3 => ?_) (fun h3 => ?_)
          · rw [if_pos h3] at hZ
            refine hp_sN [97] (pc' := 97) (L' := [some (.ref 47), some (.int i1), some (.int i2), some (.int v3), some (.int v4), some (.int v5), some (.int (hq_88 (hq_73 S 48 49) 49 i1)), x7]) (st' := [.ref 47]) rfl rfl ?_
            refine hp_gf (pc' := 100) rfl (by decide) (hp_c47 X _) rfl rfl ?_
            refine hp_sN [102, 103] (pc' := 103) (L' := [some (.ref 47), some (.int i1), some (.int i2), some (.int v3), some (.int v4), some (.int v5), some (.int (hq_88 (hq_73 S 48 49) 49 i1)), x7]) (st' := [.int (Int32.ofInt 2), .int v5, .ref 49]) rfl rfl ?_
            refine hp_iv (virt := false) (pc' := 106) (rv := some (.int (hq_75 (hq_73 S 48 49) v5 (Int32.ofInt 2)))) (M1 := hp_mem X (hq_73 S 48 49)) rfl rfl (by decide) (hk_75 (hq_73 S 48 49) (v5) ((Int32.ofInt 2))) rfl rfl ?_
            show hp_T _ 132 106 _ [.int (hq_75 (hq_73 S 48 49) v5 (Int32.ofInt 2)), .ref 49] _ _ _
            refine hp_sN [107] (pc' := 107) (L' := [some (.ref 47), some (.int i1), some (.int i2), some (.int v3), some (.int v4), some (.int v5), some (.int (hq_88 (hq_73 S 48 49) 49 i1)), x7]) (st' := [.int i1, .int (hq_75 (hq_73 S 48 49) v5 (Int32.ofInt 2)), .ref 49]) rfl rfl ?_
            refine hp_asg (pc' := 108) rfl (hp_cl (Or.inr (Or.inl rfl))) (fun _ => (hp_cc (Or.inr (Or.inl rfl)) X _)) rfl ?_
            refine hp_sN [109, 110, 112, 113] (pc' := 113) (L' := [some (.ref 47), some (.int i1), some (.int i2), some (.int v3), some (.int v4), some (.int v5), some (.int (hq_88 (hq_73 S 48 49) 49 i1)), x7]) (st' := [.int i2, .int v5, .int i1, .ref 47]) rfl rfl ?_
            refine hp_iv (virt := true) (pc' := 116) (rv := some (.int (hq_130 (hp_wg 80 (hq_73 S 48 49) 49 (hq_75 (hq_73 S 48 49) v5 (Int32.ofInt 2)) i1) i1 v5 i2).1)) (M1 := hp_mem X ((hq_130 (hp_wg 80 (hq_73 S 48 49) 49 (hq_75 (hq_73 S 48 49) v5 (Int32.ofInt 2)) i1) i1 v5 i2).2)) rfl rfl (by decide) (hk_130 (hp_wg 80 (hq_73 S 48 49) 49 (hq_75 (hq_73 S 48 49) v5 (Int32.ofInt 2)) i1) (i1) (v5) (i2)) rfl rfl ?_
            show hp_T _ 132 116 _ [.int (hq_130 (hp_wg 80 (hq_73 S 48 49) 49 (hq_75 (hq_73 S 48 49) v5 (Int32.ofInt 2)) i1) i1 v5 i2).1] _ _ _
            refine hp_sN [118, 120, 122] (pc' := 122) (L' := [some (.ref 47), some (.int i1), some (.int i2), some (.int v3), some (.int v4), some (.int v5), some (.int (hq_88 (hq_73 S 48 49) 49 i1)), some (.int (hq_130 (hp_wg 80 (hq_73 S 48 49) 49 (hq_75 (hq_73 S 48 49) v5 (Int32.ofInt 2)) i1) i1 v5 i2).1)]) (st' := [.int v4, .int (hq_130 (hp_wg 80 (hq_73 S 48 49) 49 (hq_75 (hq_73 S 48 49) v5 (Int32.ofInt 2)) i1) i1 v5 i2).1]) rfl rfl ?_
            refine hp_ic2 (pc' := 125) rfl rfl (fun h4 => ?_) (fun h4 => ?_)
            · rw [if_pos h4] at hZ
              refine hp_sB 130 [131, 133, 135, 138, 26] (pc' := 26) (L' := [some (.ref 47), some (.int i1), some (.int i2), some (.int v5), some (.int (hq_130 (hp_wg 80 (hq_73 S 48 49) 49 (hq_75 (hq_73 S 48 49) v5 (Int32.ofInt 2)) i1) i1 v5 i2).1), some (.int (v5 + (Int32.ofInt 1))), some (.int (hq_88 (hq_73 S 48 49) 49 i1)), some (.int (hq_130 (hp_wg 80 (hq_73 S 48 49) 49 (hq_75 (hq_73 S 48 49) v5 (Int32.ofInt 2)) i1) i1 v5 i2).1)]) (st' := []) rfl rfl ?_
              exact ih (Nat.le_trans (Nat.le_succ n) hN) m ((hq_130 (hp_wg 80 (hq_73 S 48 49) 49 (hq_75 (hq_73 S 48 49) v5 (Int32.ofInt 2)) i1) i1 v5 i2).2) (v5) ((hq_130 (hp_wg 80 (hq_73 S 48 49) 49 (hq_75 (hq_73 S 48 49) v5 (Int32.ofInt 2)) i1) i1 v5 i2).1) ((v5 + (Int32.ofInt 1))) (some (.int (hq_88 (hq_73 S 48 49) 49 i1))) (some (.int (hq_130 (hp_wg 80 (hq_73 S 48 49) 49 (hq_75 (hq_73 S 48 49) v5 (Int32.ofInt 2)) i1) i1 v5 i2).1)) Z (by rw [show (((hq_130 (hp_wg 80 (hq_73 S 48 49) 49 (hq_75 (hq_73 S 48 49) v5 (Int32.ofInt 2)) i1) i1 v5 i2).2) 48 (Int32.ofInt 1).toNatClampNeg) = (S 48 (Int32.ofInt 1).toNatClampNeg) from by simp (disch := omega) [hp_wo, hp_wgo, hp_cpo, hf_73, hf_130]]; exact (hp_up h1 hm)) hZ kk
            · rw [if_neg (hp_nt h4)] at hZ
              refine hp_sB 135 [138, 26] (pc' := 26) (L' := [some (.ref 47), some (.int i1), some (.int i2), some (.int v3), some (.int v4), some (.int (v5 + (Int32.ofInt 1))), some (.int (hq_88 (hq_73 S 48 49) 49 i1)), some (.int (hq_130 (hp_wg 80 (hq_73 S 48 49) 49 (hq_75 (hq_73 S 48 49) v5 (Int32.ofInt 2)) i1) i1 v5 i2).1)]) (st' := []) rfl rfl ?_
              exact ih (Nat.le_trans (Nat.le_succ n) hN) m ((hq_130 (hp_wg 80 (hq_73 S 48 49) 49 (hq_75 (hq_73 S 48 49) v5 (Int32.ofInt 2)) i1) i1 v5 i2).2) (v3) (v4) ((v5 + (Int32.ofInt 1))) (some (.int (hq_88 (hq_73 S 48 49) 49 i1))) (some (.int (hq_130 (hp_wg 80 (hq_73 S 48 49) 49 (hq_75 (hq_73 S 48 49) v5 (Int32.ofInt 2)) i1) i1 v5 i2).1)) Z (by rw [show (((hq_130 (hp_wg 80 (hq_73 S 48 49) 49 (hq_75 (hq_73 S 48 49) v5 (Int32.ofInt 2)) i1) i1 v5 i2).2) 48 (Int32.ofInt 1).toNatClampNeg) = (S 48 (Int32.ofInt 1).toNatClampNeg) from by simp (disch := omega) [hp_wo, hp_wgo, hp_cpo, hf_73, hf_130]]; exact (hp_up h1 hm)) hZ kk
          · rw [if_neg (hp_nt h3)] at hZ
            refine hp_sN [82, 84] (pc' := 84) (L' := [some (.ref 47), some (.int i1), some (.int i2), some (.int v3), some (.int v4), some (.int v5), some (.int (hq_88 (hq_73 S 48 49) 49 i1)), x7]) (st' := [.int v5, .int (hq_88 (hq_73 S 48 49) 49 i1)]) rfl rfl ?_
            refine hp_ic2 (pc' := 87) rfl rfl (fun h5 => ?_) (fun h5 => ?_)
            · rw [if_pos h5] at hZ
              refine hp_sN [97] (pc' := 97) (L' := [some (.ref 47), some (.int i1), some (.int i2), some (.int v3), some (.int v4), some (.int v5), some (.int (hq_88 (hq_73 S 48 49) 49 i1)), x7]) (st' := [.ref 47]) rfl rfl ?_
              refine hp_gf (pc' := 100) rfl (by decide) (hp_c47 X _) rfl rfl ?_
              refine hp_sN [102, 103] (pc' := 103) (L' := [some (.ref 47), some (.int i1), some (.int i2), some (.int v3), some (.int v4), some (.int v5), some (.int (hq_88 (hq_73 S 48 49) 49 i1)), x7]) (st' := [.int (Int32.ofInt 2), .int v5, .ref 49]) rfl rfl ?_
              refine hp_iv (virt := false) (pc' := 106) (rv := some (.int (hq_75 (hq_73 S 48 49) v5 (Int32.ofInt 2)))) (M1 := hp_mem X (hq_73 S 48 49)) rfl rfl (by decide) (hk_75 (hq_73 S 48 49) (v5) ((Int32.ofInt 2))) rfl rfl ?_
              show hp_T _ 132 106 _ [.int (hq_75 (hq_73 S 48 49) v5 (Int32.ofInt 2)), .ref 49] _ _ _
              refine hp_sN [107] (pc' := 107) (L' := [some (.ref 47), some (.int i1), some (.int i2), some (.int v3), some (.int v4), some (.int v5), some (.int (hq_88 (hq_73 S 48 49) 49 i1)), x7]) (st' := [.int i1, .int (hq_75 (hq_73 S 48 49) v5 (Int32.ofInt 2)), .ref 49]) rfl rfl ?_
              refine hp_asg (pc' := 108) rfl (hp_cl (Or.inr (Or.inl rfl))) (fun _ => (hp_cc (Or.inr (Or.inl rfl)) X _)) rfl ?_
              refine hp_sN [109, 110, 112, 113] (pc' := 113) (L' := [some (.ref 47), some (.int i1), some (.int i2), some (.int v3), some (.int v4), some (.int v5), some (.int (hq_88 (hq_73 S 48 49) 49 i1)), x7]) (st' := [.int i2, .int v5, .int i1, .ref 47]) rfl rfl ?_
              refine hp_iv (virt := true) (pc' := 116) (rv := some (.int (hq_130 (hp_wg 80 (hq_73 S 48 49) 49 (hq_75 (hq_73 S 48 49) v5 (Int32.ofInt 2)) i1) i1 v5 i2).1)) (M1 := hp_mem X ((hq_130 (hp_wg 80 (hq_73 S 48 49) 49 (hq_75 (hq_73 S 48 49) v5 (Int32.ofInt 2)) i1) i1 v5 i2).2)) rfl rfl (by decide) (hk_130 (hp_wg 80 (hq_73 S 48 49) 49 (hq_75 (hq_73 S 48 49) v5 (Int32.ofInt 2)) i1) (i1) (v5) (i2)) rfl rfl ?_
              show hp_T _ 132 116 _ [.int (hq_130 (hp_wg 80 (hq_73 S 48 49) 49 (hq_75 (hq_73 S 48 49) v5 (Int32.ofInt 2)) i1) i1 v5 i2).1] _ _ _
              refine hp_sN [118, 120, 122] (pc' := 122) (L' := [some (.ref 47), some (.int i1), some (.int i2), some (.int v3), some (.int v4), some (.int v5), some (.int (hq_88 (hq_73 S 48 49) 49 i1)), some (.int (hq_130 (hp_wg 80 (hq_73 S 48 49) 49 (hq_75 (hq_73 S 48 49) v5 (Int32.ofInt 2)) i1) i1 v5 i2).1)]) (st' := [.int v4, .int (hq_130 (hp_wg 80 (hq_73 S 48 49) 49 (hq_75 (hq_73 S 48 49) v5 (Int32.ofInt 2)) i1) i1 v5 i2).1]) rfl rfl ?_
              refine hp_ic2 (pc' := 125) rfl rfl (fun h6 => ?_) (fun h6 => ?_)
              · rw [if_pos h6] at hZ
                refine hp_sB 130 [131, 133, 135, 138, 26] (pc' := 26) (L' := [some (.ref 47), some (.int i1), some (.int i2), some (.int v5), some (.int (hq_130 (hp_wg 80 (hq_73 S 48 49) 49 (hq_75 (hq_73 S 48 49) v5 (Int32.ofInt 2)) i1) i1 v5 i2).1), some (.int (v5 + (Int32.ofInt 1))), some (.int (hq_88 (hq_73 S 48 49) 49 i1)), some (.int (hq_130 (hp_wg 80 (hq_73 S 48 49) 49 (hq_75 (hq_73 S 48 49) v5 (Int32.ofInt 2)) i1) i1 v5 i2).1)]) (st' := []) rfl rfl ?_
                exact ih (Nat.le_trans (Nat.le_succ n) hN) m ((hq_130 (hp_wg 80 (hq_73 S 48 49) 49 (hq_75 (hq_73 S 48 49) v5 (Int32.ofInt 2)) i1) i1 v5 i2).2) (v5) ((hq_130 (hp_wg 80 (hq_73 S 48 49) 49 (hq_75 (hq_73 S 48 49) v5 (Int32.ofInt 2)) i1) i1 v5 i2).1) ((v5 + (Int32.ofInt 1))) (some (.int (hq_88 (hq_73 S 48 49) 49 i1))) (some (.int (hq_130 (hp_wg 80 (hq_73 S 48 49) 49 (hq_75 (hq_73 S 48 49) v5 (Int32.ofInt 2)) i1) i1 v5 i2).1)) Z (by rw [show (((hq_130 (hp_wg 80 (hq_73 S 48 49) 49 (hq_75 (hq_73 S 48 49) v5 (Int32.ofInt 2)) i1) i1 v5 i2).2) 48 (Int32.ofInt 1).toNatClampNeg) = (S 48 (Int32.ofInt 1).toNatClampNeg) from by simp (disch := omega) [hp_wo, hp_wgo, hp_cpo, hf_73, hf_130]]; exact (hp_up h1 hm)) hZ kk
              · rw [if_neg (hp_nt h6)] at hZ
                refine hp_sB 135 [138, 26] (pc' := 26) (L' := [some (.ref 47), some (.int i1), some (.int i2), some (.int v3), some (.int v4), some (.int (v5 + (Int32.ofInt 1))), some (.int (hq_88 (hq_73 S 48 49) 49 i1)), some (.int (hq_130 (hp_wg 80 (hq_73 S 48 49) 49 (hq_75 (hq_73 S 48 49) v5 (Int32.ofInt 2)) i1) i1 v5 i2).1)]) (st' := []) rfl rfl ?_
                exact ih (Nat.le_trans (Nat.le_succ n) hN) m ((hq_130 (hp_wg 80 (hq_73 S 48 49) 49 (hq_75 (hq_73 S 48 49) v5 (Int32.ofInt 2)) i1) i1 v5 i2).2) (v3) (v4) ((v5 + (Int32.ofInt 1))) (some (.int (hq_88 (hq_73 S 48 49) 49 i1))) (some (.int (hq_130 (hp_wg 80 (hq_73 S 48 49) 49 (hq_75 (hq_73 S 48 49) v5 (Int32.ofInt 2)) i1) i1 v5 i2).1)) Z (by rw [show (((hq_130 (hp_wg 80 (hq_73 S 48 49) 49 (hq_75 (hq_73 S 48 49) v5 (Int32.ofInt 2)) i1) i1 v5 i2).2) 48 (Int32.ofInt 1).toNatClampNeg) = (S 48 (Int32.ofInt 1).toNatClampNeg) from by simp (disch := omega) [hp_wo, hp_wgo, hp_cpo, hf_73, hf_130]]; exact (hp_up h1 hm)) hZ kk
            · rw [if_neg (hp_nt h5)] at hZ
              refine hp_sN [88] (pc' := 88) (L' := [some (.ref 47), some (.int i1), some (.int i2), some (.int v3), some (.int v4), some (.int v5), some (.int (hq_88 (hq_73 S 48 49) 49 i1)), x7]) (st' := [.ref 47]) rfl rfl ?_
              refine hp_gf (pc' := 91) rfl (by decide) (hp_c47 X _) rfl rfl ?_
              refine hp_sN [93] (pc' := 93) (L' := [some (.ref 47), some (.int i1), some (.int i2), some (.int v3), some (.int v4), some (.int v5), some (.int (hq_88 (hq_73 S 48 49) 49 i1)), x7]) (st' := [.int (hq_88 (hq_73 S 48 49) 49 i1), .ref 49]) rfl rfl ?_
              refine hp_iv (virt := false) (pc' := 96) (rv := none) (M1 := hp_mem X (hq_89 (hq_73 S 48 49) 49 (hq_88 (hq_73 S 48 49) 49 i1))) rfl rfl (by decide) (hk_89 (Or.inr (Or.inl rfl)) (hq_73 S 48 49) ((hq_88 (hq_73 S 48 49) 49 i1))) rfl rfl ?_
              show hp_T _ 132 96 _ [] _ _ _
              refine hp_sN [97] (pc' := 97) (L' := [some (.ref 47), some (.int i1), some (.int i2), some (.int v3), some (.int v4), some (.int v5), some (.int (hq_88 (hq_73 S 48 49) 49 i1)), x7]) (st' := [.ref 47]) rfl rfl ?_
              refine hp_gf (pc' := 100) rfl (by decide) (hp_c47 X _) rfl rfl ?_
              refine hp_sN [102, 103] (pc' := 103) (L' := [some (.ref 47), some (.int i1), some (.int i2), some (.int v3), some (.int v4), some (.int v5), some (.int (hq_88 (hq_73 S 48 49) 49 i1)), x7]) (st' := [.int (Int32.ofInt 2), .int v5, .ref 49]) rfl rfl ?_
              refine hp_iv (virt := false) (pc' := 106) (rv := some (.int (hq_75 (hq_89 (hq_73 S 48 49) 49 (hq_88 (hq_73 S 48 49) 49 i1)) v5 (Int32.ofInt 2)))) (M1 := hp_mem X (hq_89 (hq_73 S 48 49) 49 (hq_88 (hq_73 S 48 49) 49 i1))) rfl rfl (by decide) (hk_75 (hq_89 (hq_73 S 48 49) 49 (hq_88 (hq_73 S 48 49) 49 i1)) (v5) ((Int32.ofInt 2))) rfl rfl ?_
              show hp_T _ 132 106 _ [.int (hq_75 (hq_89 (hq_73 S 48 49) 49 (hq_88 (hq_73 S 48 49) 49 i1)) v5 (Int32.ofInt 2)), .ref 49] _ _ _
              refine hp_sN [107] (pc' := 107) (L' := [some (.ref 47), some (.int i1), some (.int i2), some (.int v3), some (.int v4), some (.int v5), some (.int (hq_88 (hq_73 S 48 49) 49 i1)), x7]) (st' := [.int i1, .int (hq_75 (hq_89 (hq_73 S 48 49) 49 (hq_88 (hq_73 S 48 49) 49 i1)) v5 (Int32.ofInt 2)), .ref 49]) rfl rfl ?_
              refine hp_asg (pc' := 108) rfl (hp_cl (Or.inr (Or.inl rfl))) (fun _ => (hp_cc (Or.inr (Or.inl rfl)) X _)) rfl ?_
              refine hp_sN [109, 110, 112, 113] (pc' := 113) (L' := [some (.ref 47), some (.int i1), some (.int i2), some (.int v3), some (.int v4), some (.int v5), some (.int (hq_88 (hq_73 S 48 49) 49 i1)), x7]) (st' := [.int i2, .int v5, .int i1, .ref 47]) rfl rfl ?_
              refine hp_iv (virt := true) (pc' := 116) (rv := some (.int (hq_130 (hp_wg 80 (hq_89 (hq_73 S 48 49) 49 (hq_88 (hq_73 S 48 49) 49 i1)) 49 (hq_75 (hq_89 (hq_73 S 48 49) 49 (hq_88 (hq_73 S 48 49) 49 i1)) v5 (Int32.ofInt 2)) i1) i1 v5 i2).1)) (M1 := hp_mem X ((hq_130 (hp_wg 80 (hq_89 (hq_73 S 48 49) 49 (hq_88 (hq_73 S 48 49) 49 i1)) 49 (hq_75 (hq_89 (hq_73 S 48 49) 49 (hq_88 (hq_73 S 48 49) 49 i1)) v5 (Int32.ofInt 2)) i1) i1 v5 i2).2)) rfl rfl (by decide) (hk_130 (hp_wg 80 (hq_89 (hq_73 S 48 49) 49 (hq_88 (hq_73 S 48 49) 49 i1)) 49 (hq_75 (hq_89 (hq_73 S 48 49) 49 (hq_88 (hq_73 S 48 49) 49 i1)) v5 (Int32.ofInt 2)) i1) (i1) (v5) (i2)) rfl rfl ?_
              show hp_T _ 132 116 _ [.int (hq_130 (hp_wg 80 (hq_89 (hq_73 S 48 49) 49 (hq_88 (hq_73 S 48 49) 49 i1)) 49 (hq_75 (hq_89 (hq_73 S 48 49) 49 (hq_88 (hq_73 S 48 49) 49 i1)) v5 (Int32.ofInt 2)) i1) i1 v5 i2).1] _ _ _
              refine hp_sN [118, 120, 122] (pc' := 122) (L' := [some (.ref 47), some (.int i1), some (.int i2), some (.int v3), some (.int v4), some (.int v5), some (.int (hq_88 (hq_73 S 48 49) 49 i1)), some (.int (hq_130 (hp_wg 80 (hq_89 (hq_73 S 48 49) 49 (hq_88 (hq_73 S 48 49) 49 i1)) 49 (hq_75 (hq_89 (hq_73 S 48 49) 49 (hq_88 (hq_73 S 48 49) 49 i1)) v5 (Int32.ofInt 2)) i1) i1 v5 i2).1)]) (st' := [.int v4, .int (hq_130 (hp_wg 80 (hq_89 (hq_73 S 48 49) 49 (hq_88 (hq_73 S 48 49) 49 i1)) 49 (hq_75 (hq_89 (hq_73 S 48 49) 49 (hq_88 (hq_73 S 48 49) 49 i1)) v5 (Int32.ofInt 2)) i1) i1 v5 i2).1]) rfl rfl ?_
              refine hp_ic2 (pc' := 125) rfl rfl (fun h7 => ?_) (fun h7 => ?_)
              · rw [if_pos h7] at hZ
                refine hp_sB 130 [131, 133, 135, 138, 26] (pc' := 26) (L' := [some (.ref 47), some (.int i1), some (.int i2), some (.int v5), some (.int (hq_130 (hp_wg 80 (hq_89 (hq_73 S 48 49) 49 (hq_88 (hq_73 S 48 49) 49 i1)) 49 (hq_75 (hq_89 (hq_73 S 48 49) 49 (hq_88 (hq_73 S 48 49) 49 i1)) v5 (Int32.ofInt 2)) i1) i1 v5 i2).1), some (.int (v5 + (Int32.ofInt 1))), some (.int (hq_88 (hq_73 S 48 49) 49 i1)), some (.int (hq_130 (hp_wg 80 (hq_89 (hq_73 S 48 49) 49 (hq_88 (hq_73 S 48 49) 49 i1)) 49 (hq_75 (hq_89 (hq_73 S 48 49) 49 (hq_88 (hq_73 S 48 49) 49 i1)) v5 (Int32.ofInt 2)) i1) i1 v5 i2).1)]) (st' := []) rfl rfl ?_
                exact ih (Nat.le_trans (Nat.le_succ n) hN) m ((hq_130 (hp_wg 80 (hq_89 (hq_73 S 48 49) 49 (hq_88 (hq_73 S 48 49) 49 i1)) 49 (hq_75 (hq_89 (hq_73 S 48 49) 49 (hq_88 (hq_73 S 48 49) 49 i1)) v5 (Int32.ofInt 2)) i1) i1 v5 i2).2) (v5) ((hq_130 (hp_wg 80 (hq_89 (hq_73 S 48 49) 49 (hq_88 (hq_73 S 48 49) 49 i1)) 49 (hq_75 (hq_89 (hq_73 S 48 49) 49 (hq_88 (hq_73 S 48 49) 49 i1)) v5 (Int32.ofInt 2)) i1) i1 v5 i2).1) ((v5 + (Int32.ofInt 1))) (some (.int (hq_88 (hq_73 S 48 49) 49 i1))) (some (.int (hq_130 (hp_wg 80 (hq_89 (hq_73 S 48 49) 49 (hq_88 (hq_73 S 48 49) 49 i1)) 49 (hq_75 (hq_89 (hq_73 S 48 49) 49 (hq_88 (hq_73 S 48 49) 49 i1)) v5 (Int32.ofInt 2)) i1) i1 v5 i2).1)) Z (by rw [show (((hq_130 (hp_wg 80 (hq_89 (hq_73 S 48 49) 49 (hq_88 (hq_73 S 48 49) 49 i1)) 49 (hq_75 (hq_89 (hq_73 S 48 49) 49 (hq_88 (hq_73 S 48 49) 49 i1)) v5 (Int32.ofInt 2)) i1) i1 v5 i2).2) 48 (Int32.ofInt 1).toNatClampNeg) = (S 48 (Int32.ofInt 1).toNatClampNeg) from by simp (disch := omega) [hp_wo, hp_wgo, hp_cpo, hf_73, hf_89, hf_130]]; exact (hp_up h1 hm)) hZ kk
              · rw [if_neg (hp_nt h7)] at hZ
                refine hp_sB 135 [138, 26] (pc' := 26) (L' := [some (.ref 47), some (.int i1), some (.int i2), some (.int v3), some (.int v4), some (.int (v5 + (Int32.ofInt 1))), some (.int (hq_88 (hq_73 S 48 49) 49 i1)), some (.int (hq_130 (hp_wg 80 (hq_89 (hq_73 S 48 49) 49 (hq_88 (hq_73 S 48 49) 49 i1)) 49 (hq_75 (hq_89 (hq_73 S 48 49) 49 (hq_88 (hq_73 S 48 49) 49 i1)) v5 (Int32.ofInt 2)) i1) i1 v5 i2).1)]) (st' := []) rfl rfl ?_
                exact ih (Nat.le_trans (Nat.le_succ n) hN) m ((hq_130 (hp_wg 80 (hq_89 (hq_73 S 48 49) 49 (hq_88 (hq_73 S 48 49) 49 i1)) 49 (hq_75 (hq_89 (hq_73 S 48 49) 49 (hq_88 (hq_73 S 48 49) 49 i1)) v5 (Int32.ofInt 2)) i1) i1 v5 i2).2) (v3) (v4) ((v5 + (Int32.ofInt 1))) (some (.int (hq_88 (hq_73 S 48 49) 49 i1))) (some (.int (hq_130 (hp_wg 80 (hq_89 (hq_73 S 48 49) 49 (hq_88 (hq_73 S 48 49) 49 i1)) 49 (hq_75 (hq_89 (hq_73 S 48 49) 49 (hq_88 (hq_73 S 48 49) 49 i1)) v5 (Int32.ofInt 2)) i1) i1 v5 i2).1)) Z (by rw [show (((hq_130 (hp_wg 80 (hq_89 (hq_73 S 48 49) 49 (hq_88 (hq_73 S 48 49) 49 i1)) 49 (hq_75 (hq_89 (hq_73 S 48 49) 49 (hq_88 (hq_73 S 48 49) 49 i1)) v5 (Int32.ofInt 2)) i1) i1 v5 i2).2) 48 (Int32.ofInt 1).toNatClampNeg) = (S 48 (Int32.ofInt 1).toNatClampNeg) from by simp (disch := omega) [hp_wo, hp_wgo, hp_cpo, hf_73, hf_89, hf_130]]; exact (hp_up h1 hm)) hZ kk
        · rw [if_neg (hp_nt h2)] at hZ
          refine hp_sB 135 [138, 26] (pc' := 26) (L' := [some (.ref 47), some (.int i1), some (.int i2), some (.int v3), some (.int v4), some (.int (v5 + (Int32.ofInt 1))), x6, x7]) (st' := []) rfl rfl ?_
          exact ih (Nat.le_trans (Nat.le_succ n) hN) m S (v3) (v4) ((v5 + (Int32.ofInt 1))) (x6) (x7) Z (hp_up h1 hm) hZ kk
set_option maxRecDepth 10000 in
theorem ht_132 {X : hp_X} (S : hp_S) (i1 : Int32) (i2 : Int32) (n : Nat) : hp_T n 132 0 [some (.ref 47), some (.int i1), some (.int i2), none, none, none, none, none] [] (hp_mem X S) (hp_is X) (hq_132 S i1 i2) := by
  unfold hq_132
  refine hp_sN [1, 2] (pc' := 2) (L' := [some (.ref 47), some (.int i1), some (.int i2), none, none, none, none, none]) (st' := [.int i1, .ref 47]) rfl rfl ?_
  refine hp_iv (virt := true) (pc' := 5) (rv := some (.int (hq_76 S i1))) (M1 := hp_mem X (S)) rfl rfl (by decide) (hk_76 S (i1)) rfl rfl ?_
  show hp_T _ 132 5 _ [.int (hq_76 S i1)] _ _ _
  refine hp_if (pc' := 8) rfl rfl (fun h1 => ?_) (fun h1 => ?_)
  · refine hp_sN [16] (pc' := 16) (L' := [some (.ref 47), some (.int i1), some (.int i2), none, none, none, none, none]) (st' := [.int (Int32.ofInt (-1))]) rfl rfl ?_
    exact hp_Ris rfl
  · refine hp_sN [9] (pc' := 9) (L' := [some (.ref 47), some (.int i1), some (.int i2), none, none, none, none, none]) (st' := [.int i2]) rfl rfl ?_
    refine hp_iv (virt := false) (pc' := 12) (rv := some (.int (hq_117 S i2))) (M1 := hp_mem X (S)) rfl rfl (by decide) (hk_117 S (i2)) rfl rfl ?_
    show hp_T _ 132 12 _ [.int (hq_117 S i2)] _ _ _
    refine hp_if (pc' := 15) rfl rfl (fun h2 => ?_) (fun h2 => ?_)
    · refine hp_sN [19, 20, 21, 23, 24, 26] (pc' := 26) (L' := [some (.ref 47), some (.int i1), some (.int i2), some (.int (Int32.ofInt (-4))), some (.int (Int32.ofInt (-1))), some (.int (Int32.ofInt 0)), none, none]) (st' := []) rfl rfl ?_
      refine ht_132_26 n i1 i2  n (Nat.le_refl _) (((S 48 (Int32.ofInt 1).toNatClampNeg).toInt - (Int32.ofInt 0).toInt).toNat + 1) S ((Int32.ofInt (-4))) ((Int32.ofInt (-1))) ((Int32.ofInt 0)) (none) (none) _ (Nat.lt_succ_self _) rfl (fun x6_26 x7_26 x4_26 x5_26 => ?_)
      show hp_T _ 132 141 [some (.ref 47), some (.int i1), some (.int i2), some (.int (hq_132_26 i1 i2 (((S 48 (Int32.ofInt 1).toNatClampNeg).toInt - (Int32.ofInt 0).toInt).toNat + 1) S ((Int32.ofInt (-4))) ((Int32.ofInt (-1))) ((Int32.ofInt 0))).2), x4_26, x5_26, x6_26, x7_26] _ (hp_mem X ((hq_132_26 i1 i2 (((S 48 (Int32.ofInt 1).toNatClampNeg).toInt - (Int32.ofInt 0).toInt).toNat + 1) S ((Int32.ofInt (-4))) ((Int32.ofInt (-1))) ((Int32.ofInt 0))).1)) _ _
      refine hp_sN [142] (pc' := 142) (L' := [some (.ref 47), some (.int i1), some (.int i2), some (.int (hq_132_26 i1 i2 (((S 48 (Int32.ofInt 1).toNatClampNeg).toInt - (Int32.ofInt 0).toInt).toNat + 1) S ((Int32.ofInt (-4))) ((Int32.ofInt (-1))) ((Int32.ofInt 0))).2), x4_26, x5_26, x6_26, x7_26]) (st' := [.int (hq_132_26 i1 i2 (((S 48 (Int32.ofInt 1).toNatClampNeg).toInt - (Int32.ofInt 0).toInt).toNat + 1) S ((Int32.ofInt (-4))) ((Int32.ofInt (-1))) ((Int32.ofInt 0))).2]) rfl rfl ?_
      exact hp_Ris rfl
    · refine hp_sN [16] (pc' := 16) (L' := [some (.ref 47), some (.int i1), some (.int i2), none, none, none, none, none]) (st' := [.int (Int32.ofInt (-1))]) rfl rfl ?_
      exact hp_Ris rfl
theorem hk_132 {X : hp_X} (S : hp_S) (i1 : Int32) (i2 : Int32) : hp_K 132 [.ref 47, .int i1, .int i2] (hp_mem X S) (hp_is X) (hq_132 S i1 i2) := by
  refine hp_mk (q := hzq_132) rfl (by decide) (L := [some (.ref 47), some (.int i1), some (.int i2), none, none, none, none, none]) rfl (fun n => ?_)
  exact ht_132 S i1 i2 n

/-! 133: HatsOfTheWindModel.windFrom(I)I -/
def hq_133 (S : hp_S) (i1 : Int32) : Int32 := (((S 48 ((Int32.ofInt 6) + i1).toNatClampNeg) + (S 48 ((Int32.ofInt 6) + ((i1 + (Int32.ofInt 1)) - (i1 + (Int32.ofInt 1)) / (Int32.ofInt 24) * (Int32.ofInt 24))).toNatClampNeg)) + (S 48 ((Int32.ofInt 6) + ((i1 + (Int32.ofInt 2)) - (i1 + (Int32.ofInt 2)) / (Int32.ofInt 24) * (Int32.ofInt 24))).toNatClampNeg))
set_option maxRecDepth 10000 in
theorem ht_133 {X : hp_X} (S : hp_S) (i1 : Int32) (n : Nat) : hp_T n 133 0 [some (.ref 47), some (.int i1)] [] (hp_mem X S) (hp_i X S) (hq_133 S i1) := by
  unfold hq_133
  refine hp_sN [1] (pc' := 1) (L' := [some (.ref 47), some (.int i1)]) (st' := [.ref 47]) rfl rfl ?_
  refine hp_gf (pc' := 4) rfl (by decide) (hp_c47 X _) rfl rfl ?_
  refine hp_sN [6, 7, 8] (pc' := 8) (L' := [some (.ref 47), some (.int i1)]) (st' := [.int ((Int32.ofInt 6) + i1), .ref 48]) rfl rfl ?_
  refine hp_al (pc' := 9) rfl (hp_cl (Or.inl rfl)) (hp_cc (Or.inl rfl) X _) rfl ?_
  refine hp_sN [10] (pc' := 10) (L' := [some (.ref 47), some (.int i1)]) (st' := [.ref 47, .int (S 48 ((Int32.ofInt 6) + i1).toNatClampNeg)]) rfl rfl ?_
  refine hp_gf (pc' := 13) rfl (by decide) (hp_c47 X _) rfl rfl ?_
  refine hp_sN [15, 16, 17, 18, 20] (pc' := 20) (L' := [some (.ref 47), some (.int i1)]) (st' := [.int (Int32.ofInt 24), .int (i1 + (Int32.ofInt 1)), .int (Int32.ofInt 6), .ref 48, .int (S 48 ((Int32.ofInt 6) + i1).toNatClampNeg)]) rfl rfl ?_
  refine hp_ri2 (pc' := 21) rfl rfl ?_
  refine hp_sN [22] (pc' := 22) (L' := [some (.ref 47), some (.int i1)]) (st' := [.int ((Int32.ofInt 6) + ((i1 + (Int32.ofInt 1)) - (i1 + (Int32.ofInt 1)) / (Int32.ofInt 24) * (Int32.ofInt 24))), .ref 48, .int (S 48 ((Int32.ofInt 6) + i1).toNatClampNeg)]) rfl rfl ?_
  refine hp_al (pc' := 23) rfl (hp_cl (Or.inl rfl)) (hp_cc (Or.inl rfl) X _) rfl ?_
  refine hp_sN [24, 25] (pc' := 25) (L' := [some (.ref 47), some (.int i1)]) (st' := [.ref 47, .int ((S 48 ((Int32.ofInt 6) + i1).toNatClampNeg) + (S 48 ((Int32.ofInt 6) + ((i1 + (Int32.ofInt 1)) - (i1 + (Int32.ofInt 1)) / (Int32.ofInt 24) * (Int32.ofInt 24))).toNatClampNeg))]) rfl rfl ?_
  refine hp_gf (pc' := 28) rfl (by decide) (hp_c47 X _) rfl rfl ?_
  refine hp_sN [30, 31, 32, 33, 35] (pc' := 35) (L' := [some (.ref 47), some (.int i1)]) (st' := [.int (Int32.ofInt 24), .int (i1 + (Int32.ofInt 2)), .int (Int32.ofInt 6), .ref 48, .int ((S 48 ((Int32.ofInt 6) + i1).toNatClampNeg) + (S 48 ((Int32.ofInt 6) + ((i1 + (Int32.ofInt 1)) - (i1 + (Int32.ofInt 1)) / (Int32.ofInt 24) * (Int32.ofInt 24))).toNatClampNeg))]) rfl rfl ?_
  refine hp_ri2 (pc' := 36) rfl rfl ?_
  refine hp_sN [37] (pc' := 37) (L' := [some (.ref 47), some (.int i1)]) (st' := [.int ((Int32.ofInt 6) + ((i1 + (Int32.ofInt 2)) - (i1 + (Int32.ofInt 2)) / (Int32.ofInt 24) * (Int32.ofInt 24))), .ref 48, .int ((S 48 ((Int32.ofInt 6) + i1).toNatClampNeg) + (S 48 ((Int32.ofInt 6) + ((i1 + (Int32.ofInt 1)) - (i1 + (Int32.ofInt 1)) / (Int32.ofInt 24) * (Int32.ofInt 24))).toNatClampNeg))]) rfl rfl ?_
  refine hp_al (pc' := 38) rfl (hp_cl (Or.inl rfl)) (hp_cc (Or.inl rfl) X _) rfl ?_
  refine hp_sN [39] (pc' := 39) (L' := [some (.ref 47), some (.int i1)]) (st' := [.int (((S 48 ((Int32.ofInt 6) + i1).toNatClampNeg) + (S 48 ((Int32.ofInt 6) + ((i1 + (Int32.ofInt 1)) - (i1 + (Int32.ofInt 1)) / (Int32.ofInt 24) * (Int32.ofInt 24))).toNatClampNeg)) + (S 48 ((Int32.ofInt 6) + ((i1 + (Int32.ofInt 2)) - (i1 + (Int32.ofInt 2)) / (Int32.ofInt 24) * (Int32.ofInt 24))).toNatClampNeg))]) rfl rfl ?_
  exact hp_Ri rfl
theorem hk_133 {X : hp_X} (S : hp_S) (i1 : Int32) : hp_K 133 [.ref 47, .int i1] (hp_mem X S) (hp_i X S) (hq_133 S i1) := by
  refine hp_mk (q := hzq_133) rfl (by decide) (L := [some (.ref 47), some (.int i1)]) rfl (fun n => ?_)
  exact ht_133 S i1 n
/-! 134: HatsOfTheWindModel.calm(I)I -/
def hq_134_18 (i1 : Int32) : Nat → hp_S → Int32 → Int32 → Int32 → Int32 × Int32
  | 0, S, _, _, _ => (0, 0)
  | m + 1, S, v2, v3, v4 => (if hz_cmp .ge v4 (Int32.ofInt 24) = true then (v2, v3) else (if hz_cmp .ge (hq_133 S v4) (hq_133 S v2) = true then (if hz_cmp .le (S 48 ((Int32.ofInt 6) + v4).toNatClampNeg) (S 48 ((Int32.ofInt 6) + v3).toNatClampNeg) = true then hq_134_18 i1 m S v2 v3 (v4 + (Int32.ofInt 1)) else hq_134_18 i1 m S v2 v4 (v4 + (Int32.ofInt 1))) else (if hz_cmp .le (S 48 ((Int32.ofInt 6) + v4).toNatClampNeg) (S 48 ((Int32.ofInt 6) + v3).toNatClampNeg) = true then hq_134_18 i1 m S v4 v3 (v4 + (Int32.ofInt 1)) else hq_134_18 i1 m S v4 v4 (v4 + (Int32.ofInt 1)))))
def hq_134 (S : hp_S) (i1 : Int32) : Int32 := (if hz_cmp .ne (hq_70 S i1 (Int32.ofInt 0) (Int32.ofInt 2)) 0 = true then (if hz_cmp .ne i1 0 = true then (if hz_cmp .ne i1 (Int32.ofInt 1) = true then (hq_134_18 i1 (((Int32.ofInt 24).toInt - (Int32.ofInt 0).toInt).toNat + 1) S ((Int32.ofInt 0)) ((Int32.ofInt 0)) ((Int32.ofInt 0))).2 else (hq_133 S (hq_134_18 i1 (((Int32.ofInt 24).toInt - (Int32.ofInt 0).toInt).toNat + 1) S ((Int32.ofInt 0)) ((Int32.ofInt 0)) ((Int32.ofInt 0))).1)) else (hq_134_18 i1 (((Int32.ofInt 24).toInt - (Int32.ofInt 0).toInt).toNat + 1) S ((Int32.ofInt 0)) ((Int32.ofInt 0)) ((Int32.ofInt 0))).1) else (Int32.ofInt (-1)))
set_option maxRecDepth 10000 in
theorem ht_134_18 {α : Type} {φ : α → Option Value × hzMem} {R : α} {X : hp_X} (N : Nat) (i1 : Int32) (S : hp_S) : ∀ (n : Nat), n ≤ N → ∀ (m : Nat) (v2 : Int32) (v3 : Int32) (v4 : Int32) (Z : Int32 × Int32), ((Int32.ofInt 24).toInt - v4.toInt).toNat < m → hq_134_18 i1 m S v2 v3 v4 = Z → (∀ (x4 : Option Value), hp_T N 134 81 [some (.ref 47), some (.int i1), some (.int Z.1), some (.int Z.2), x4] [] (hp_mem X S) φ R) → hp_T n 134 18 [some (.ref 47), some (.int i1), some (.int v2), some (.int v3), some (.int v4)] [] (hp_mem X S) φ R := by
  intro n
  induction n with
  | zero => intros; exact hp_0
  | succ n ih =>
    intro hN m v2 v3 v4 Z hm hZ kk
    cases m with
    | zero => exact absurd hm (Nat.not_lt_zero _)
    | succ m =>
      rw [hq_134_18] at hZ
      refine hp_sN [20, 22] (pc' := 22) (L' := [some (.ref 47), some (.int i1), some (.int v2), some (.int v3), some (.int v4)]) (st' := [.int (Int32.ofInt 24), .int v4]) rfl rfl ?_
      refine hp_ic2 (pc' := 25) rfl rfl (fun h1 => ?_) (fun h1 => ?_)
      · rw [if_pos h1] at hZ
        subst hZ
        exact hp_le hN (kk (some (.int v4)))
      · rw [if_neg (hp_nt h1)] at hZ
        refine hp_sN [26, 28] (pc' := 28) (L' := [some (.ref 47), some (.int i1), some (.int v2), some (.int v3), some (.int v4)]) (st' := [.int v4, .ref 47]) rfl rfl ?_
        refine hp_iv (virt := true) (pc' := 31) (rv := some (.int (hq_133 S v4))) (M1 := hp_mem X (S)) rfl rfl (by decide) (hk_133 S (v4)) rfl rfl ?_
        show hp_T _ 134 31 _ [.int (hq_133 S v4)] _ _ _
        refine hp_sN [32, 33] (pc' := 33) (L' := [some (.ref 47), some (.int i1), some (.int v2), some (.int v3), some (.int v4)]) (st' := [.int v2, .ref 47, .int (hq_133 S v4)]) rfl rfl ?_
        refine hp_iv (virt := true) (pc' := 36) (rv := some (.int (hq_133 S v2))) (M1 := hp_mem X (S)) rfl rfl (by decide) (hk_133 S (v2)) rfl rfl ?_
        show hp_T _ 134 36 _ [.int (hq_133 S v2), .int (hq_133 S v4)] _ _ _
        refine hp_ic2 (pc' := 39) rfl rfl (fun h2 => ?_) (fun h2 => ?_)
        · rw [if_pos h2] at hZ
          refine hp_sN [45, 46, 47] (pc' := 47) (L' := [some (.ref 47), some (.int i1), some (.int v2), some (.int v3), some (.int v4)]) (st' := [.ref 47]) rfl rfl ?_
          refine hp_gf (pc' := 50) rfl (by decide) (hp_c47 X _) rfl rfl ?_
          refine hp_sN [52, 54, 55] (pc' := 55) (L' := [some (.ref 47), some (.int i1), some (.int v2), some (.int v3), some (.int v4)]) (st' := [.int ((Int32.ofInt 6) + v4), .ref 48]) rfl rfl ?_
          refine hp_al (pc' := 56) rfl (hp_cl (Or.inl rfl)) (hp_cc (Or.inl rfl) X _) rfl ?_
          refine hp_sN [57] (pc' := 57) (L' := [some (.ref 47), some (.int i1), some (.int v2), some (.int v3), some (.int v4)]) (st' := [.ref 47, .int (S 48 ((Int32.ofInt 6) + v4).toNatClampNeg)]) rfl rfl ?_
          refine hp_gf (pc' := 60) rfl (by decide) (hp_c47 X _) rfl rfl ?_
          refine hp_sN [62, 63, 64] (pc' := 64) (L' := [some (.ref 47), some (.int i1), some (.int v2), some (.int v3), some (.int v4)]) (st' := [.int ((Int32.ofInt 6) + v3), .ref 48, .int (S 48 ((Int32.ofInt 6) + v4).toNatClampNeg)]) rfl rfl ?_
          refine hp_al (pc' := 65) rfl (hp_cl (Or.inl rfl)) (hp_cc (Or.inl rfl) X _) rfl ?_
          refine hp_ic2 (pc' := 68) rfl rfl (fun h3 => ?_) (fun h3 => ?_)
          · rw [if_pos h3] at hZ
            refine hp_sB 74 [75, 78, 18] (pc' := 18) (L' := [some (.ref 47), some (.int i1), some (.int v2), some (.int v3), some (.int (v4 + (Int32.ofInt 1)))]) (st' := []) rfl rfl ?_
            exact ih (Nat.le_trans (Nat.le_succ n) hN) m (v2) (v3) ((v4 + (Int32.ofInt 1))) Z (hp_up h1 hm) hZ kk
          · rw [if_neg (hp_nt h3)] at hZ
            refine hp_sB 70 [74, 75, 78, 18] (pc' := 18) (L' := [some (.ref 47), some (.int i1), some (.int v2), some (.int v4), some (.int (v4 + (Int32.ofInt 1)))]) (st' := []) rfl rfl ?_
            exact ih (Nat.le_trans (Nat.le_succ n) hN) m (v2) (v4) ((v4 + (Int32.ofInt 1))) Z (hp_up h1 hm) hZ kk
        · rw [if_neg (hp_nt h2)] at hZ
          refine hp_sN [41, 45, 46, 47] (pc' := 47) (L' := [some (.ref 47), some (.int i1), some (.int v4), some (.int v3), some (.int v4)]) (st' := [.ref 47]) rfl rfl ?_
          refine hp_gf (pc' := 50) rfl (by decide) (hp_c47 X _) rfl rfl ?_
          refine hp_sN [52, 54, 55] (pc' := 55) (L' := [some (.ref 47), some (.int i1), some (.int v4), some (.int v3), some (.int v4)]) (st' := [.int ((Int32.ofInt 6) + v4), .ref 48]) rfl rfl ?_
          refine hp_al (pc' := 56) rfl (hp_cl (Or.inl rfl)) (hp_cc (Or.inl rfl) X _) rfl ?_
          refine hp_sN [57] (pc' := 57) (L' := [some (.ref 47), some (.int i1), some (.int v4), some (.int v3), some (.int v4)]) (st' := [.ref 47, .int (S 48 ((Int32.ofInt 6) + v4).toNatClampNeg)]) rfl rfl ?_
          refine hp_gf (pc' := 60) rfl (by decide) (hp_c47 X _) rfl rfl ?_
          refine hp_sN [62, 63, 64] (pc' := 64) (L' := [some (.ref 47), some (.int i1), some (.int v4), some (.int v3), some (.int v4)]) (st' := [.int ((Int32.ofInt 6) + v3), .ref 48, .int (S 48 ((Int32.ofInt 6) + v4).toNatClampNeg)]) rfl rfl ?_
          refine hp_al (pc' := 65) rfl (hp_cl (Or.inl rfl)) (hp_cc (Or.inl rfl) X _) rfl ?_
          refine hp_ic2 (pc' := 68) rfl rfl (fun h4 => ?_) (fun h4 => ?_)
          · rw [if_pos h4] at hZ
            refine hp_sB 74 [75, 78, 18] (pc' := 18) (L' := [some (.ref 47), some (.int i1), some (.int v4), some (.int v3), some (.int (v4 + (Int32.ofInt 1)))]) (st' := []) rfl rfl ?_
            exact ih (Nat.le_trans (Nat.le_succ n) hN) m (v4) (v3) ((v4 + (Int32.ofInt 1))) Z (hp_up h1 hm) hZ kk
          · rw [if_neg (hp_nt h4)] at hZ
            refine hp_sB 70 [74, 75, 78, 18] (pc' := 18) (L' := [some (.ref 47), some (.int i1), some (.int v4), some (.int v4), some (.int (v4 + (Int32.ofInt 1)))]) (st' := []) rfl rfl ?_
            exact ih (Nat.le_trans (Nat.le_succ n) hN) m (v4) (v4) ((v4 + (Int32.ofInt 1))) Z (hp_up h1 hm) hZ kk
set_option maxRecDepth 10000 in
theorem ht_134 {X : hp_X} (S : hp_S) (i1 : Int32) (n : Nat) : hp_T n 134 0 [some (.ref 47), some (.int i1), none, none, none] [] (hp_mem X S) (hp_i X S) (hq_134 S i1) := by
  unfold hq_134
  refine hp_sN [1, 2, 3] (pc' := 3) (L' := [some (.ref 47), some (.int i1), none, none, none]) (st' := [.int (Int32.ofInt 2), .int (Int32.ofInt 0), .int i1]) rfl rfl ?_
  refine hp_iv (virt := false) (pc' := 6) (rv := some (.int (hq_70 S i1 (Int32.ofInt 0) (Int32.ofInt 2)))) (M1 := hp_mem X (S)) rfl rfl (by decide) (hk_70 S (i1) ((Int32.ofInt 0)) ((Int32.ofInt 2))) rfl rfl ?_
  show hp_T _ 134 6 _ [.int (hq_70 S i1 (Int32.ofInt 0) (Int32.ofInt 2))] _ _ _
  refine hp_if (pc' := 9) rfl rfl (fun h1 => ?_) (fun h1 => ?_)
  · refine hp_sN [12, 13, 14, 15, 16, 18] (pc' := 18) (L' := [some (.ref 47), some (.int i1), some (.int (Int32.ofInt 0)), some (.int (Int32.ofInt 0)), some (.int (Int32.ofInt 0))]) (st' := []) rfl rfl ?_
    refine ht_134_18 n i1 S n (Nat.le_refl _) (((Int32.ofInt 24).toInt - (Int32.ofInt 0).toInt).toNat + 1)  ((Int32.ofInt 0)) ((Int32.ofInt 0)) ((Int32.ofInt 0))  _ (Nat.lt_succ_self _) rfl (fun x4_18 => ?_)
    show hp_T _ 134 81 [some (.ref 47), some (.int i1), some (.int (hq_134_18 i1 (((Int32.ofInt 24).toInt - (Int32.ofInt 0).toInt).toNat + 1) S ((Int32.ofInt 0)) ((Int32.ofInt 0)) ((Int32.ofInt 0))).1), some (.int (hq_134_18 i1 (((Int32.ofInt 24).toInt - (Int32.ofInt 0).toInt).toNat + 1) S ((Int32.ofInt 0)) ((Int32.ofInt 0)) ((Int32.ofInt 0))).2), x4_18] _ (hp_mem X S) _ _
    refine hp_sN [82] (pc' := 82) (L' := [some (.ref 47), some (.int i1), some (.int (hq_134_18 i1 (((Int32.ofInt 24).toInt - (Int32.ofInt 0).toInt).toNat + 1) S ((Int32.ofInt 0)) ((Int32.ofInt 0)) ((Int32.ofInt 0))).1), some (.int (hq_134_18 i1 (((Int32.ofInt 24).toInt - (Int32.ofInt 0).toInt).toNat + 1) S ((Int32.ofInt 0)) ((Int32.ofInt 0)) ((Int32.ofInt 0))).2), x4_18]) (st' := [.int i1]) rfl rfl ?_
    refine hp_if (pc' := 85) rfl rfl (fun h2 => ?_) (fun h2 => ?_)
    · refine hp_sN [90, 91] (pc' := 91) (L' := [some (.ref 47), some (.int i1), some (.int (hq_134_18 i1 (((Int32.ofInt 24).toInt - (Int32.ofInt 0).toInt).toNat + 1) S ((Int32.ofInt 0)) ((Int32.ofInt 0)) ((Int32.ofInt 0))).1), some (.int (hq_134_18 i1 (((Int32.ofInt 24).toInt - (Int32.ofInt 0).toInt).toNat + 1) S ((Int32.ofInt 0)) ((Int32.ofInt 0)) ((Int32.ofInt 0))).2), x4_18]) (st' := [.int (Int32.ofInt 1), .int i1]) rfl rfl ?_
      refine hp_ic (pc' := 94) rfl rfl (fun h3 => ?_) (fun h3 => ?_)
      · refine hp_sN [103] (pc' := 103) (L' := [some (.ref 47), some (.int i1), some (.int (hq_134_18 i1 (((Int32.ofInt 24).toInt - (Int32.ofInt 0).toInt).toNat + 1) S ((Int32.ofInt 0)) ((Int32.ofInt 0)) ((Int32.ofInt 0))).1), some (.int (hq_134_18 i1 (((Int32.ofInt 24).toInt - (Int32.ofInt 0).toInt).toNat + 1) S ((Int32.ofInt 0)) ((Int32.ofInt 0)) ((Int32.ofInt 0))).2), x4_18]) (st' := [.int (hq_134_18 i1 (((Int32.ofInt 24).toInt - (Int32.ofInt 0).toInt).toNat + 1) S ((Int32.ofInt 0)) ((Int32.ofInt 0)) ((Int32.ofInt 0))).2]) rfl rfl ?_
        exact hp_Ri rfl
      · refine hp_sN [95, 96] (pc' := 96) (L' := [some (.ref 47), some (.int i1), some (.int (hq_134_18 i1 (((Int32.ofInt 24).toInt - (Int32.ofInt 0).toInt).toNat + 1) S ((Int32.ofInt 0)) ((Int32.ofInt 0)) ((Int32.ofInt 0))).1), some (.int (hq_134_18 i1 (((Int32.ofInt 24).toInt - (Int32.ofInt 0).toInt).toNat + 1) S ((Int32.ofInt 0)) ((Int32.ofInt 0)) ((Int32.ofInt 0))).2), x4_18]) (st' := [.int (hq_134_18 i1 (((Int32.ofInt 24).toInt - (Int32.ofInt 0).toInt).toNat + 1) S ((Int32.ofInt 0)) ((Int32.ofInt 0)) ((Int32.ofInt 0))).1, .ref 47]) rfl rfl ?_
        refine hp_iv (virt := true) (pc' := 99) (rv := some (.int (hq_133 S (hq_134_18 i1 (((Int32.ofInt 24).toInt - (Int32.ofInt 0).toInt).toNat + 1) S ((Int32.ofInt 0)) ((Int32.ofInt 0)) ((Int32.ofInt 0))).1))) (M1 := hp_mem X (S)) rfl rfl (by decide) (hk_133 S ((hq_134_18 i1 (((Int32.ofInt 24).toInt - (Int32.ofInt 0).toInt).toNat + 1) S ((Int32.ofInt 0)) ((Int32.ofInt 0)) ((Int32.ofInt 0))).1)) rfl rfl ?_
        show hp_T _ 134 99 _ [.int (hq_133 S (hq_134_18 i1 (((Int32.ofInt 24).toInt - (Int32.ofInt 0).toInt).toNat + 1) S ((Int32.ofInt 0)) ((Int32.ofInt 0)) ((Int32.ofInt 0))).1)] _ _ _
        refine hp_sN [103] (pc' := 103) (L' := [some (.ref 47), some (.int i1), some (.int (hq_134_18 i1 (((Int32.ofInt 24).toInt - (Int32.ofInt 0).toInt).toNat + 1) S ((Int32.ofInt 0)) ((Int32.ofInt 0)) ((Int32.ofInt 0))).1), some (.int (hq_134_18 i1 (((Int32.ofInt 24).toInt - (Int32.ofInt 0).toInt).toNat + 1) S ((Int32.ofInt 0)) ((Int32.ofInt 0)) ((Int32.ofInt 0))).2), x4_18]) (st' := [.int (hq_133 S (hq_134_18 i1 (((Int32.ofInt 24).toInt - (Int32.ofInt 0).toInt).toNat + 1) S ((Int32.ofInt 0)) ((Int32.ofInt 0)) ((Int32.ofInt 0))).1)]) rfl rfl ?_
        exact hp_Ri rfl
    · refine hp_sN [86, 103] (pc' := 103) (L' := [some (.ref 47), some (.int i1), some (.int (hq_134_18 i1 (((Int32.ofInt 24).toInt - (Int32.ofInt 0).toInt).toNat + 1) S ((Int32.ofInt 0)) ((Int32.ofInt 0)) ((Int32.ofInt 0))).1), some (.int (hq_134_18 i1 (((Int32.ofInt 24).toInt - (Int32.ofInt 0).toInt).toNat + 1) S ((Int32.ofInt 0)) ((Int32.ofInt 0)) ((Int32.ofInt 0))).2), x4_18]) (st' := [.int (hq_134_18 i1 (((Int32.ofInt 24).toInt - (Int32.ofInt 0).toInt).toNat + 1) S ((Int32.ofInt 0)) ((Int32.ofInt 0)) ((Int32.ofInt 0))).1]) rfl rfl ?_
      exact hp_Ri rfl
  · refine hp_sN [10] (pc' := 10) (L' := [some (.ref 47), some (.int i1), none, none, none]) (st' := [.int (Int32.ofInt (-1))]) rfl rfl ?_
    exact hp_Ri rfl
theorem hk_134 {X : hp_X} (S : hp_S) (i1 : Int32) : hp_K 134 [.ref 47, .int i1] (hp_mem X S) (hp_i X S) (hq_134 S i1) := by
  refine hp_mk (q := hzq_134) rfl (by decide) (L := [some (.ref 47), some (.int i1), none, none, none]) rfl (fun n => ?_)
  exact ht_134 S i1 n
/-! 135: HatsOfTheWindModel.fewestPins(II)I -/
def hq_135_32 (i1 : Int32) (i2 : Int32) : Nat → hp_S → Int32 → Int32 → Int32 × hp_S
  | 0, S, _, _ => (0, S)
  | m + 1, S, v3, v4 => (if hz_cmp .ge v4 (Int32.ofInt 10) = true then ((Int32.ofInt (-4)), S) else (if hz_cmp .eq v3 (Int32.ofInt 9) = true then ((Int32.ofInt (-4)), S) else (if hz_cmp .ge (hq_123 (hp_wg 80 (hq_73 S 48 49) 49 (hq_74 (hq_73 S 48 49) i1 (Int32.ofInt 2)) v4) v3 i1 i2).1 0 = true then hq_135_32 i1 i2 m ((hq_123 (hp_wg 80 (hq_73 S 48 49) 49 (hq_74 (hq_73 S 48 49) i1 (Int32.ofInt 2)) v4) v3 i1 i2).2) v3 (v4 + (Int32.ofInt 1)) else (v4, (hq_123 (hp_wg 80 (hq_73 S 48 49) 49 (hq_74 (hq_73 S 48 49) i1 (Int32.ofInt 2)) v4) v3 i1 i2).2))))
def hq_135 (S : hp_S) (i1 : Int32) (i2 : Int32) : Int32 × hp_S := (if hz_cmp .eq (hq_76 S i1) 0 = true then ((Int32.ofInt (-1)), S) else (if hz_cmp .ne (hq_70 S i2 (Int32.ofInt 1) (Int32.ofInt 99)) 0 = true then (hq_135_32 i1 i2 (((Int32.ofInt 10).toInt - (Int32.ofInt 0).toInt).toNat + 1) S ((hq_88 S 48 i1)) ((Int32.ofInt 0))) else ((Int32.ofInt (-1)), S)))
theorem hf_135_32 {i1 : Int32} {i2 : Int32} (j : Nat) (z0 : j ≠ 49) : ∀ (m : Nat) (S : hp_S) (v3 : Int32) (v4 : Int32), (hq_135_32 i1 i2 m S v3 v4).2 j = S j := by
  intro m
  induction m with
  | zero => intros; rfl
  | succ m ih =>
    intro S v3 v4
    rw [hq_135_32]
    repeat' split
    all_goals simp [ih, hp_wo, hp_wgo, hp_cpo, hf_73, hf_123, z0]
theorem hf_135 (S : hp_S) (i1 : Int32) (i2 : Int32) (j : Nat) (z0 : j ≠ 49) : (hq_135 S i1 i2).2 j = S j := by
  unfold hq_135
  repeat' split
  all_goals simp [hp_wo, hp_wgo, hp_cpo, hf_73, hf_123, z0, hf_135_32]
theorem hp_isin70 {S : hp_S} {i : Int32} (h : hq_70 S i (Int32.ofInt 1) (Int32.ofInt 99) ≠ 0) : i.toInt < 2147483647 := by
  unfold hq_70 at h
  split at h
  · exact absurd rfl h
  · split at h
    · exact absurd rfl h
    · rename_i h1 h2
      have e : (Int32.ofInt 99).toInt = 99 := by decide
      simp only [hz_cmp, decide_eq_true_eq, Int32.lt_iff_toInt_lt] at h2
      omega
set_option maxRecDepth 10000 in
theorem ht_135_32 {X : hp_X} (i1 : Int32) (i2 : Int32) (hn : i2.toInt < 2147483647) : ∀ (n m : Nat) (S : hp_S) (v3 : Int32) (v4 : Int32), ((Int32.ofInt 10).toInt - v4.toInt).toNat < m → hp_T n 135 32 [some (.ref 47), some (.int i1), some (.int i2), some (.int v3), some (.int v4)] [] (hp_mem X S) (hp_is X) (hq_135_32 i1 i2 m S v3 v4) := by
  intro n
  induction n with
  | zero => intros; exact hp_0
  | succ n ih =>
    intro m S v3 v4 hm
    cases m with
    | zero => exact absurd hm (Nat.not_lt_zero _)
    | succ m =>
      rw [hq_135_32]
      refine hp_sN [34, 36] (pc' := 36) (L' := [some (.ref 47), some (.int i1), some (.int i2), some (.int v3), some (.int v4)]) (st' := [.int (Int32.ofInt 10), .int v4]) rfl rfl ?_
      refine hp_ic (pc' := 39) rfl rfl (fun h1 => ?_) (fun h1 => ?_)
      · refine hp_sN [89] (pc' := 89) (L' := [some (.ref 47), some (.int i1), some (.int i2), some (.int v3), some (.int v4)]) (st' := [.int (Int32.ofInt (-4))]) rfl rfl ?_
        exact hp_Ris rfl
      · refine hp_sN [40, 42] (pc' := 42) (L' := [some (.ref 47), some (.int i1), some (.int i2), some (.int v3), some (.int v4)]) (st' := [.int (Int32.ofInt 9), .int v3]) rfl rfl ?_
        refine hp_ic (pc' := 45) rfl rfl (fun h2 => ?_) (fun h2 => ?_)
        · refine hp_sN [89] (pc' := 89) (L' := [some (.ref 47), some (.int i1), some (.int i2), some (.int v3), some (.int v4)]) (st' := [.int (Int32.ofInt (-4))]) rfl rfl ?_
          exact hp_Ris rfl
        · refine hp_sN [46] (pc' := 46) (L' := [some (.ref 47), some (.int i1), some (.int i2), some (.int v3), some (.int v4)]) (st' := [.ref 47]) rfl rfl ?_
          refine hp_gf (pc' := 49) rfl (by decide) (hp_c47 X _) rfl rfl ?_
          refine hp_sN [50] (pc' := 50) (L' := [some (.ref 47), some (.int i1), some (.int i2), some (.int v3), some (.int v4)]) (st' := [.ref 47, .ref 48]) rfl rfl ?_
          refine hp_gf (pc' := 53) rfl (by decide) (hp_c47 X _) rfl rfl ?_
          refine hp_iv (virt := false) (pc' := 56) (rv := none) (M1 := hp_mem X (hq_73 S 48 49)) rfl rfl (by decide) (hk_73 (Or.inl rfl) (Or.inr (Or.inl rfl)) S) rfl rfl ?_
          show hp_T _ 135 56 _ [] _ _ _
          refine hp_sN [57] (pc' := 57) (L' := [some (.ref 47), some (.int i1), some (.int i2), some (.int v3), some (.int v4)]) (st' := [.ref 47]) rfl rfl ?_
          refine hp_gf (pc' := 60) rfl (by decide) (hp_c47 X _) rfl rfl ?_
          refine hp_sN [61, 62] (pc' := 62) (L' := [some (.ref 47), some (.int i1), some (.int i2), some (.int v3), some (.int v4)]) (st' := [.int (Int32.ofInt 2), .int i1, .ref 49]) rfl rfl ?_
          refine hp_iv (virt := false) (pc' := 65) (rv := some (.int (hq_74 (hq_73 S 48 49) i1 (Int32.ofInt 2)))) (M1 := hp_mem X (hq_73 S 48 49)) rfl rfl (by decide) (hk_74 (hq_73 S 48 49) (i1) ((Int32.ofInt 2))) rfl rfl ?_
          show hp_T _ 135 65 _ [.int (hq_74 (hq_73 S 48 49) i1 (Int32.ofInt 2)), .ref 49] _ _ _
          refine hp_sN [67] (pc' := 67) (L' := [some (.ref 47), some (.int i1), some (.int i2), some (.int v3), some (.int v4)]) (st' := [.int v4, .int (hq_74 (hq_73 S 48 49) i1 (Int32.ofInt 2)), .ref 49]) rfl rfl ?_
          refine hp_asg (pc' := 68) rfl (hp_cl (Or.inr (Or.inl rfl))) (fun _ => (hp_cc (Or.inr (Or.inl rfl)) X _)) rfl ?_
          refine hp_sN [69, 70, 71, 72] (pc' := 72) (L' := [some (.ref 47), some (.int i1), some (.int i2), some (.int v3), some (.int v4)]) (st' := [.int i2, .int i1, .int v3, .ref 47]) rfl rfl ?_
          refine hp_iv (virt := true) (pc' := 75) (rv := some (.int (hq_123 (hp_wg 80 (hq_73 S 48 49) 49 (hq_74 (hq_73 S 48 49) i1 (Int32.ofInt 2)) v4) v3 i1 i2).1)) (M1 := hp_mem X ((hq_123 (hp_wg 80 (hq_73 S 48 49) 49 (hq_74 (hq_73 S 48 49) i1 (Int32.ofInt 2)) v4) v3 i1 i2).2)) rfl rfl (by decide) (hk_123 (hp_wg 80 (hq_73 S 48 49) 49 (hq_74 (hq_73 S 48 49) i1 (Int32.ofInt 2)) v4) (v3) (i1) (i2) hn) rfl rfl ?_
          show hp_T _ 135 75 _ [.int (hq_123 (hp_wg 80 (hq_73 S 48 49) 49 (hq_74 (hq_73 S 48 49) i1 (Int32.ofInt 2)) v4) v3 i1 i2).1] _ _ _
          refine hp_if (pc' := 78) rfl rfl (fun h3 => ?_) (fun h3 => ?_)
          · refine hp_sB 84 [32] (pc' := 32) (L' := [some (.ref 47), some (.int i1), some (.int i2), some (.int v3), some (.int (v4 + (Int32.ofInt 1)))]) (st' := []) rfl rfl ?_
            exact ih m ((hq_123 (hp_wg 80 (hq_73 S 48 49) 49 (hq_74 (hq_73 S 48 49) i1 (Int32.ofInt 2)) v4) v3 i1 i2).2) (v3) ((v4 + (Int32.ofInt 1))) (hp_up h1 hm)
          · refine hp_sN [80] (pc' := 80) (L' := [some (.ref 47), some (.int i1), some (.int i2), some (.int v3), some (.int v4)]) (st' := [.int v4]) rfl rfl ?_
            exact hp_Ris rfl
set_option maxRecDepth 10000 in
theorem ht_135 {X : hp_X} (S : hp_S) (i1 : Int32) (i2 : Int32) (n : Nat) : hp_T n 135 0 [some (.ref 47), some (.int i1), some (.int i2), none, none] [] (hp_mem X S) (hp_is X) (hq_135 S i1 i2) := by
  unfold hq_135
  refine hp_sN [1, 2] (pc' := 2) (L' := [some (.ref 47), some (.int i1), some (.int i2), none, none]) (st' := [.int i1, .ref 47]) rfl rfl ?_
  refine hp_iv (virt := true) (pc' := 5) (rv := some (.int (hq_76 S i1))) (M1 := hp_mem X (S)) rfl rfl (by decide) (hk_76 S (i1)) rfl rfl ?_
  show hp_T _ 135 5 _ [.int (hq_76 S i1)] _ _ _
  refine hp_if (pc' := 8) rfl rfl (fun h1 => ?_) (fun h1 => ?_)
  · refine hp_sN [19] (pc' := 19) (L' := [some (.ref 47), some (.int i1), some (.int i2), none, none]) (st' := [.int (Int32.ofInt (-1))]) rfl rfl ?_
    exact hp_Ris rfl
  · refine hp_sN [9, 10, 12] (pc' := 12) (L' := [some (.ref 47), some (.int i1), some (.int i2), none, none]) (st' := [.int (Int32.ofInt 99), .int (Int32.ofInt 1), .int i2]) rfl rfl ?_
    refine hp_iv (virt := false) (pc' := 15) (rv := some (.int (hq_70 S i2 (Int32.ofInt 1) (Int32.ofInt 99)))) (M1 := hp_mem X (S)) rfl rfl (by decide) (hk_70 S (i2) ((Int32.ofInt 1)) ((Int32.ofInt 99))) rfl rfl ?_
    show hp_T _ 135 15 _ [.int (hq_70 S i2 (Int32.ofInt 1) (Int32.ofInt 99))] _ _ _
    refine hp_if (pc' := 18) rfl rfl (fun h2 => ?_) (fun h2 => ?_)
    · refine hp_sN [21] (pc' := 21) (L' := [some (.ref 47), some (.int i1), some (.int i2), none, none]) (st' := [.ref 47]) rfl rfl ?_
      refine hp_gf (pc' := 24) rfl (by decide) (hp_c47 X _) rfl rfl ?_
      refine hp_sN [25] (pc' := 25) (L' := [some (.ref 47), some (.int i1), some (.int i2), none, none]) (st' := [.int i1, .ref 48]) rfl rfl ?_
      refine hp_iv (virt := false) (pc' := 28) (rv := some (.int (hq_88 S 48 i1))) (M1 := hp_mem X (S)) rfl rfl (by decide) (hk_88 (Or.inl rfl) S (i1)) rfl rfl ?_
      show hp_T _ 135 28 _ [.int (hq_88 S 48 i1)] _ _ _
      refine hp_sN [29, 30, 32] (pc' := 32) (L' := [some (.ref 47), some (.int i1), some (.int i2), some (.int (hq_88 S 48 i1)), some (.int (Int32.ofInt 0))]) (st' := []) rfl rfl ?_
      exact ht_135_32 i1 i2 (hp_isin70 (hp_nz1 h2))  n (((Int32.ofInt 10).toInt - (Int32.ofInt 0).toInt).toNat + 1) S ((hq_88 S 48 i1)) ((Int32.ofInt 0))  (Nat.lt_succ_self _)
    · refine hp_sN [19] (pc' := 19) (L' := [some (.ref 47), some (.int i1), some (.int i2), none, none]) (st' := [.int (Int32.ofInt (-1))]) rfl rfl ?_
      exact hp_Ris rfl
theorem hk_135 {X : hp_X} (S : hp_S) (i1 : Int32) (i2 : Int32) : hp_K 135 [.ref 47, .int i1, .int i2] (hp_mem X S) (hp_is X) (hq_135 S i1 i2) := by
  refine hp_mk (q := hzq_135) rfl (by decide) (L := [some (.ref 47), some (.int i1), some (.int i2), none, none]) rfl (fun n => ?_)
  exact ht_135 S i1 i2 n
/-! 136: HatsOfTheWindModel.shut(I)I -/
def hq_136_31 (i1 : Int32) : Nat → hp_S → Int32 → Int32 → Int32 → hp_S × Int32
  | 0, S, _, _, _ => (S, 0)
  | m + 1, S, v2, v3, v4 => (if hz_cmp .ge v4 (Int32.ofInt 21) = true then (S, v3) else (if hz_cmp .lt (hq_80 (hq_94 (hp_wg 80 (hq_73 S 48 49) 49 (Int32.ofInt 4) ((hq_73 S 48 49 49 (Int32.ofInt 4).toNatClampNeg) ||| ((Int32.ofInt 1) <<< (v4 &&& 31)))) 49 i1) (hq_98 (hq_94 (hp_wg 80 (hq_73 S 48 49) 49 (Int32.ofInt 4) ((hq_73 S 48 49 49 (Int32.ofInt 4).toNatClampNeg) ||| ((Int32.ofInt 1) <<< (v4 &&& 31)))) 49 i1) 49)) v2 = true then hq_136_31 i1 m (hq_94 (hp_wg 80 (hq_73 S 48 49) 49 (Int32.ofInt 4) ((hq_73 S 48 49 49 (Int32.ofInt 4).toNatClampNeg) ||| ((Int32.ofInt 1) <<< (v4 &&& 31)))) 49 i1) (hq_80 (hq_94 (hp_wg 80 (hq_73 S 48 49) 49 (Int32.ofInt 4) ((hq_73 S 48 49 49 (Int32.ofInt 4).toNatClampNeg) ||| ((Int32.ofInt 1) <<< (v4 &&& 31)))) 49 i1) (hq_98 (hq_94 (hp_wg 80 (hq_73 S 48 49) 49 (Int32.ofInt 4) ((hq_73 S 48 49 49 (Int32.ofInt 4).toNatClampNeg) ||| ((Int32.ofInt 1) <<< (v4 &&& 31)))) 49 i1) 49)) v4 (v4 + (Int32.ofInt 1)) else hq_136_31 i1 m (hq_94 (hp_wg 80 (hq_73 S 48 49) 49 (Int32.ofInt 4) ((hq_73 S 48 49 49 (Int32.ofInt 4).toNatClampNeg) ||| ((Int32.ofInt 1) <<< (v4 &&& 31)))) 49 i1) v2 v3 (v4 + (Int32.ofInt 1))))
def hq_136 (S : hp_S) (i1 : Int32) : Int32 × hp_S := (if hz_cmp .ne (hq_117 S i1) 0 = true then ((hq_136_31 i1 (((Int32.ofInt 21).toInt - (Int32.ofInt 0).toInt).toNat + 1) (hq_118 S i1) ((hq_80 (hq_118 S i1) (hq_98 (hq_118 S i1) 49))) ((Int32.ofInt (-4))) ((Int32.ofInt 0))).2, (hq_136_31 i1 (((Int32.ofInt 21).toInt - (Int32.ofInt 0).toInt).toNat + 1) (hq_118 S i1) ((hq_80 (hq_118 S i1) (hq_98 (hq_118 S i1) 49))) ((Int32.ofInt (-4))) ((Int32.ofInt 0))).1) else ((Int32.ofInt (-1)), S))
theorem hf_136_31 {i1 : Int32} (j : Nat) (z0 : j ≠ 49) : ∀ (m : Nat) (S : hp_S) (v2 : Int32) (v3 : Int32) (v4 : Int32), (hq_136_31 i1 m S v2 v3 v4).1 j = S j := by
  intro m
  induction m with
  | zero => intros; rfl
  | succ m ih =>
    intro S v2 v3 v4
    rw [hq_136_31]
    repeat' split
    all_goals simp [ih, hp_wo, hp_wgo, hp_cpo, hf_73, hf_94, hf_118, z0]
theorem hf_136 (S : hp_S) (i1 : Int32) (j : Nat) (z0 : j ≠ 49) : (hq_136 S i1).2 j = S j := by
  unfold hq_136
  repeat' split
  all_goals simp [hp_wo, hp_wgo, hp_cpo, hf_73, hf_94, hf_118, z0, hf_136_31]
set_option maxRecDepth 10000 in
theorem ht_136_31 {α : Type} {φ : α → Option Value × hzMem} {R : α} {X : hp_X} (N : Nat) (i1 : Int32) : ∀ (n : Nat), n ≤ N → ∀ (m : Nat) (S : hp_S) (v2 : Int32) (v3 : Int32) (v4 : Int32) (Z : hp_S × Int32), ((Int32.ofInt 21).toInt - v4.toInt).toNat < m → hq_136_31 i1 m S v2 v3 v4 = Z → (∀ (x2 : Option Value) (x4 : Option Value), hp_T N 136 107 [some (.ref 47), some (.int i1), x2, some (.int Z.2), x4] [] (hp_mem X Z.1) φ R) → hp_T n 136 31 [some (.ref 47), some (.int i1), some (.int v2), some (.int v3), some (.int v4)] [] (hp_mem X S) φ R := by
  intro n
  induction n with
  | zero => intros; exact hp_0
  | succ n ih =>
    intro hN m S v2 v3 v4 Z hm hZ kk
    cases m with
    | zero => exact absurd hm (Nat.not_lt_zero _)
    | succ m =>
      rw [hq_136_31] at hZ
      refine hp_sN [33, 35] (pc' := 35) (L' := [some (.ref 47), some (.int i1), some (.int v2), some (.int v3), some (.int v4)]) (st' := [.int (Int32.ofInt 21), .int v4]) rfl rfl ?_
      refine hp_ic2 (pc' := 38) rfl rfl (fun h1 => ?_) (fun h1 => ?_)
      · rw [if_pos h1] at hZ
        subst hZ
        exact hp_le hN (kk (some (.int v2)) (some (.int v4)))
      · rw [if_neg (hp_nt h1)] at hZ
        refine hp_sN [39] (pc' := 39) (L' := [some (.ref 47), some (.int i1), some (.int v2), some (.int v3), some (.int v4)]) (st' := [.ref 47]) rfl rfl ?_
        refine hp_gf (pc' := 42) rfl (by decide) (hp_c47 X _) rfl rfl ?_
        refine hp_sN [43] (pc' := 43) (L' := [some (.ref 47), some (.int i1), some (.int v2), some (.int v3), some (.int v4)]) (st' := [.ref 47, .ref 48]) rfl rfl ?_
        refine hp_gf (pc' := 46) rfl (by decide) (hp_c47 X _) rfl rfl ?_
        refine hp_iv (virt := false) (pc' := 49) (rv := none) (M1 := hp_mem X (hq_73 S 48 49)) rfl rfl (by decide) (hk_73 (Or.inl rfl) (Or.inr (Or.inl rfl)) S) rfl rfl ?_
        show hp_T _ 136 49 _ [] _ _ _
        refine hp_sN [50] (pc' := 50) (L' := [some (.ref 47), some (.int i1), some (.int v2), some (.int v3), some (.int v4)]) (st' := [.ref 47]) rfl rfl ?_
        refine hp_gf (pc' := 53) rfl (by decide) (hp_c47 X _) rfl rfl ?_
        refine hp_sN [54, 55] (pc' := 55) (L' := [some (.ref 47), some (.int i1), some (.int v2), some (.int v3), some (.int v4)]) (st' := [.int (Int32.ofInt 4), .ref 49, .int (Int32.ofInt 4), .ref 49]) rfl rfl ?_
        refine hp_al (pc' := 56) rfl (hp_cl (Or.inr (Or.inl rfl))) (hp_cc (Or.inr (Or.inl rfl)) X _) rfl ?_
        refine hp_sN [57, 59, 60, 61] (pc' := 61) (L' := [some (.ref 47), some (.int i1), some (.int v2), some (.int v3), some (.int v4)]) (st' := [.int ((hq_73 S 48 49 49 (Int32.ofInt 4).toNatClampNeg) ||| ((Int32.ofInt 1) <<< (v4 &&& 31))), .int (Int32.ofInt 4), .ref 49]) rfl rfl ?_
        refine hp_asg (pc' := 62) rfl (hp_cl (Or.inr (Or.inl rfl))) (fun _ => (hp_cc (Or.inr (Or.inl rfl)) X _)) rfl ?_
        refine hp_sN [63] (pc' := 63) (L' := [some (.ref 47), some (.int i1), some (.int v2), some (.int v3), some (.int v4)]) (st' := [.ref 47]) rfl rfl ?_
        refine hp_gf (pc' := 66) rfl (by decide) (hp_c47 X _) rfl rfl ?_
        refine hp_sN [67] (pc' := 67) (L' := [some (.ref 47), some (.int i1), some (.int v2), some (.int v3), some (.int v4)]) (st' := [.int i1, .ref 49]) rfl rfl ?_
        refine hp_iv (virt := false) (pc' := 70) (rv := none) (M1 := hp_mem X (hq_94 (hp_wg 80 (hq_73 S 48 49) 49 (Int32.ofInt 4) ((hq_73 S 48 49 49 (Int32.ofInt 4).toNatClampNeg) ||| ((Int32.ofInt 1) <<< (v4 &&& 31)))) 49 i1)) rfl rfl (by decide) (hk_94 (Or.inr (Or.inl rfl)) (hp_wg 80 (hq_73 S 48 49) 49 (Int32.ofInt 4) ((hq_73 S 48 49 49 (Int32.ofInt 4).toNatClampNeg) ||| ((Int32.ofInt 1) <<< (v4 &&& 31)))) (i1)) rfl rfl ?_
        show hp_T _ 136 70 _ [] _ _ _
        refine hp_sN [71] (pc' := 71) (L' := [some (.ref 47), some (.int i1), some (.int v2), some (.int v3), some (.int v4)]) (st' := [.ref 47]) rfl rfl ?_
        refine hp_gf (pc' := 74) rfl (by decide) (hp_c47 X _) rfl rfl ?_
        refine hp_iv (virt := false) (pc' := 77) (rv := some (.int (hq_98 (hq_94 (hp_wg 80 (hq_73 S 48 49) 49 (Int32.ofInt 4) ((hq_73 S 48 49 49 (Int32.ofInt 4).toNatClampNeg) ||| ((Int32.ofInt 1) <<< (v4 &&& 31)))) 49 i1) 49))) (M1 := hp_mem X (hq_94 (hp_wg 80 (hq_73 S 48 49) 49 (Int32.ofInt 4) ((hq_73 S 48 49 49 (Int32.ofInt 4).toNatClampNeg) ||| ((Int32.ofInt 1) <<< (v4 &&& 31)))) 49 i1)) rfl rfl (by decide) (hk_98 (Or.inr (Or.inl rfl)) (hq_94 (hp_wg 80 (hq_73 S 48 49) 49 (Int32.ofInt 4) ((hq_73 S 48 49 49 (Int32.ofInt 4).toNatClampNeg) ||| ((Int32.ofInt 1) <<< (v4 &&& 31)))) 49 i1)) rfl rfl ?_
        show hp_T _ 136 77 _ [.int (hq_98 (hq_94 (hp_wg 80 (hq_73 S 48 49) 49 (Int32.ofInt 4) ((hq_73 S 48 49 49 (Int32.ofInt 4).toNatClampNeg) ||| ((Int32.ofInt 1) <<< (v4 &&& 31)))) 49 i1) 49)] _ _ _
        refine hp_iv (virt := false) (pc' := 80) (rv := some (.int (hq_80 (hq_94 (hp_wg 80 (hq_73 S 48 49) 49 (Int32.ofInt 4) ((hq_73 S 48 49 49 (Int32.ofInt 4).toNatClampNeg) ||| ((Int32.ofInt 1) <<< (v4 &&& 31)))) 49 i1) (hq_98 (hq_94 (hp_wg 80 (hq_73 S 48 49) 49 (Int32.ofInt 4) ((hq_73 S 48 49 49 (Int32.ofInt 4).toNatClampNeg) ||| ((Int32.ofInt 1) <<< (v4 &&& 31)))) 49 i1) 49)))) (M1 := hp_mem X (hq_94 (hp_wg 80 (hq_73 S 48 49) 49 (Int32.ofInt 4) ((hq_73 S 48 49 49 (Int32.ofInt 4).toNatClampNeg) ||| ((Int32.ofInt 1) <<< (v4 &&& 31)))) 49 i1)) rfl rfl (by decide) (hk_80 (hq_94 (hp_wg 80 (hq_73 S 48 49) 49 (Int32.ofInt 4) ((hq_73 S 48 49 49 (Int32.ofInt 4).toNatClampNeg) ||| ((Int32.ofInt 1) <<< (v4 &&& 31)))) 49 i1) ((hq_98 (hq_94 (hp_wg 80 (hq_73 S 48 49) 49 (Int32.ofInt 4) ((hq_73 S 48 49 49 (Int32.ofInt 4).toNatClampNeg) ||| ((Int32.ofInt 1) <<< (v4 &&& 31)))) 49 i1) 49))) rfl rfl ?_
        show hp_T _ 136 80 _ [.int (hq_80 (hq_94 (hp_wg 80 (hq_73 S 48 49) 49 (Int32.ofInt 4) ((hq_73 S 48 49 49 (Int32.ofInt 4).toNatClampNeg) ||| ((Int32.ofInt 1) <<< (v4 &&& 31)))) 49 i1) (hq_98 (hq_94 (hp_wg 80 (hq_73 S 48 49) 49 (Int32.ofInt 4) ((hq_73 S 48 49 49 (Int32.ofInt 4).toNatClampNeg) ||| ((Int32.ofInt 1) <<< (v4 &&& 31)))) 49 i1) 49))] _ _ _
        refine hp_sN [81] (pc' := 81) (L' := [some (.ref 47), some (.int i1), some (.int v2), some (.int v3), some (.int v4)]) (st' := [.int v2, .int (hq_80 (hq_94 (hp_wg 80 (hq_73 S 48 49) 49 (Int32.ofInt 4) ((hq_73 S 48 49 49 (Int32.ofInt 4).toNatClampNeg) ||| ((Int32.ofInt 1) <<< (v4 &&& 31)))) 49 i1) (hq_98 (hq_94 (hp_wg 80 (hq_73 S 48 49) 49 (Int32.ofInt 4) ((hq_73 S 48 49 49 (Int32.ofInt 4).toNatClampNeg) ||| ((Int32.ofInt 1) <<< (v4 &&& 31)))) 49 i1) 49))]) rfl rfl ?_
        refine hp_ic2 (pc' := 84) rfl rfl (fun h2 => ?_) (fun h2 => ?_)
        · rw [if_pos h2] at hZ
          refine hp_sN [89, 90, 91] (pc' := 91) (L' := [some (.ref 47), some (.int i1), some (.int v2), some (.int v4), some (.int v4)]) (st' := [.ref 47]) rfl rfl ?_
          refine hp_gf (pc' := 94) rfl (by decide) (hp_c47 X _) rfl rfl ?_
          refine hp_iv (virt := false) (pc' := 97) (rv := some (.int (hq_98 (hq_94 (hp_wg 80 (hq_73 S 48 49) 49 (Int32.ofInt 4) ((hq_73 S 48 49 49 (Int32.ofInt 4).toNatClampNeg) ||| ((Int32.ofInt 1) <<< (v4 &&& 31)))) 49 i1) 49))) (M1 := hp_mem X (hq_94 (hp_wg 80 (hq_73 S 48 49) 49 (Int32.ofInt 4) ((hq_73 S 48 49 49 (Int32.ofInt 4).toNatClampNeg) ||| ((Int32.ofInt 1) <<< (v4 &&& 31)))) 49 i1)) rfl rfl (by decide) (hk_98 (Or.inr (Or.inl rfl)) (hq_94 (hp_wg 80 (hq_73 S 48 49) 49 (Int32.ofInt 4) ((hq_73 S 48 49 49 (Int32.ofInt 4).toNatClampNeg) ||| ((Int32.ofInt 1) <<< (v4 &&& 31)))) 49 i1)) rfl rfl ?_
          show hp_T _ 136 97 _ [.int (hq_98 (hq_94 (hp_wg 80 (hq_73 S 48 49) 49 (Int32.ofInt 4) ((hq_73 S 48 49 49 (Int32.ofInt 4).toNatClampNeg) ||| ((Int32.ofInt 1) <<< (v4 &&& 31)))) 49 i1) 49)] _ _ _
          refine hp_iv (virt := false) (pc' := 100) (rv := some (.int (hq_80 (hq_94 (hp_wg 80 (hq_73 S 48 49) 49 (Int32.ofInt 4) ((hq_73 S 48 49 49 (Int32.ofInt 4).toNatClampNeg) ||| ((Int32.ofInt 1) <<< (v4 &&& 31)))) 49 i1) (hq_98 (hq_94 (hp_wg 80 (hq_73 S 48 49) 49 (Int32.ofInt 4) ((hq_73 S 48 49 49 (Int32.ofInt 4).toNatClampNeg) ||| ((Int32.ofInt 1) <<< (v4 &&& 31)))) 49 i1) 49)))) (M1 := hp_mem X (hq_94 (hp_wg 80 (hq_73 S 48 49) 49 (Int32.ofInt 4) ((hq_73 S 48 49 49 (Int32.ofInt 4).toNatClampNeg) ||| ((Int32.ofInt 1) <<< (v4 &&& 31)))) 49 i1)) rfl rfl (by decide) (hk_80 (hq_94 (hp_wg 80 (hq_73 S 48 49) 49 (Int32.ofInt 4) ((hq_73 S 48 49 49 (Int32.ofInt 4).toNatClampNeg) ||| ((Int32.ofInt 1) <<< (v4 &&& 31)))) 49 i1) ((hq_98 (hq_94 (hp_wg 80 (hq_73 S 48 49) 49 (Int32.ofInt 4) ((hq_73 S 48 49 49 (Int32.ofInt 4).toNatClampNeg) ||| ((Int32.ofInt 1) <<< (v4 &&& 31)))) 49 i1) 49))) rfl rfl ?_
          show hp_T _ 136 100 _ [.int (hq_80 (hq_94 (hp_wg 80 (hq_73 S 48 49) 49 (Int32.ofInt 4) ((hq_73 S 48 49 49 (Int32.ofInt 4).toNatClampNeg) ||| ((Int32.ofInt 1) <<< (v4 &&& 31)))) 49 i1) (hq_98 (hq_94 (hp_wg 80 (hq_73 S 48 49) 49 (Int32.ofInt 4) ((hq_73 S 48 49 49 (Int32.ofInt 4).toNatClampNeg) ||| ((Int32.ofInt 1) <<< (v4 &&& 31)))) 49 i1) 49))] _ _ _
          refine hp_sB 101 [104, 31] (pc' := 31) (L' := [some (.ref 47), some (.int i1), some (.int (hq_80 (hq_94 (hp_wg 80 (hq_73 S 48 49) 49 (Int32.ofInt 4) ((hq_73 S 48 49 49 (Int32.ofInt 4).toNatClampNeg) ||| ((Int32.ofInt 1) <<< (v4 &&& 31)))) 49 i1) (hq_98 (hq_94 (hp_wg 80 (hq_73 S 48 49) 49 (Int32.ofInt 4) ((hq_73 S 48 49 49 (Int32.ofInt 4).toNatClampNeg) ||| ((Int32.ofInt 1) <<< (v4 &&& 31)))) 49 i1) 49))), some (.int v4), some (.int (v4 + (Int32.ofInt 1)))]) (st' := []) rfl rfl ?_
          exact ih (Nat.le_trans (Nat.le_succ n) hN) m (hq_94 (hp_wg 80 (hq_73 S 48 49) 49 (Int32.ofInt 4) ((hq_73 S 48 49 49 (Int32.ofInt 4).toNatClampNeg) ||| ((Int32.ofInt 1) <<< (v4 &&& 31)))) 49 i1) ((hq_80 (hq_94 (hp_wg 80 (hq_73 S 48 49) 49 (Int32.ofInt 4) ((hq_73 S 48 49 49 (Int32.ofInt 4).toNatClampNeg) ||| ((Int32.ofInt 1) <<< (v4 &&& 31)))) 49 i1) (hq_98 (hq_94 (hp_wg 80 (hq_73 S 48 49) 49 (Int32.ofInt 4) ((hq_73 S 48 49 49 (Int32.ofInt 4).toNatClampNeg) ||| ((Int32.ofInt 1) <<< (v4 &&& 31)))) 49 i1) 49))) (v4) ((v4 + (Int32.ofInt 1))) Z (hp_up h1 hm) hZ kk
        · rw [if_neg (hp_nt h2)] at hZ
          refine hp_sB 101 [104, 31] (pc' := 31) (L' := [some (.ref 47), some (.int i1), some (.int v2), some (.int v3), some (.int (v4 + (Int32.ofInt 1)))]) (st' := []) rfl rfl ?_
          exact ih (Nat.le_trans (Nat.le_succ n) hN) m (hq_94 (hp_wg 80 (hq_73 S 48 49) 49 (Int32.ofInt 4) ((hq_73 S 48 49 49 (Int32.ofInt 4).toNatClampNeg) ||| ((Int32.ofInt 1) <<< (v4 &&& 31)))) 49 i1) (v2) (v3) ((v4 + (Int32.ofInt 1))) Z (hp_up h1 hm) hZ kk
set_option maxRecDepth 10000 in
theorem ht_136 {X : hp_X} (S : hp_S) (i1 : Int32) (n : Nat) : hp_T n 136 0 [some (.ref 47), some (.int i1), none, none, none] [] (hp_mem X S) (hp_is X) (hq_136 S i1) := by
  unfold hq_136
  refine hp_sN [1] (pc' := 1) (L' := [some (.ref 47), some (.int i1), none, none, none]) (st' := [.int i1]) rfl rfl ?_
  refine hp_iv (virt := false) (pc' := 4) (rv := some (.int (hq_117 S i1))) (M1 := hp_mem X (S)) rfl rfl (by decide) (hk_117 S (i1)) rfl rfl ?_
  show hp_T _ 136 4 _ [.int (hq_117 S i1)] _ _ _
  refine hp_if (pc' := 7) rfl rfl (fun h1 => ?_) (fun h1 => ?_)
  · refine hp_sN [10, 11] (pc' := 11) (L' := [some (.ref 47), some (.int i1), none, none, none]) (st' := [.int i1, .ref 47]) rfl rfl ?_
    refine hp_iv (virt := true) (pc' := 14) (rv := none) (M1 := hp_mem X (hq_118 S i1)) rfl rfl (by decide) (hk_118 S (i1)) rfl rfl ?_
    show hp_T _ 136 14 _ [] _ _ _
    refine hp_sN [15] (pc' := 15) (L' := [some (.ref 47), some (.int i1), none, none, none]) (st' := [.ref 47]) rfl rfl ?_
    refine hp_gf (pc' := 18) rfl (by decide) (hp_c47 X _) rfl rfl ?_
    refine hp_iv (virt := false) (pc' := 21) (rv := some (.int (hq_98 (hq_118 S i1) 49))) (M1 := hp_mem X (hq_118 S i1)) rfl rfl (by decide) (hk_98 (Or.inr (Or.inl rfl)) (hq_118 S i1)) rfl rfl ?_
    show hp_T _ 136 21 _ [.int (hq_98 (hq_118 S i1) 49)] _ _ _
    refine hp_iv (virt := false) (pc' := 24) (rv := some (.int (hq_80 (hq_118 S i1) (hq_98 (hq_118 S i1) 49)))) (M1 := hp_mem X (hq_118 S i1)) rfl rfl (by decide) (hk_80 (hq_118 S i1) ((hq_98 (hq_118 S i1) 49))) rfl rfl ?_
    show hp_T _ 136 24 _ [.int (hq_80 (hq_118 S i1) (hq_98 (hq_118 S i1) 49))] _ _ _
    refine hp_sN [25, 27, 28, 29, 31] (pc' := 31) (L' := [some (.ref 47), some (.int i1), some (.int (hq_80 (hq_118 S i1) (hq_98 (hq_118 S i1) 49))), some (.int (Int32.ofInt (-4))), some (.int (Int32.ofInt 0))]) (st' := []) rfl rfl ?_
    refine ht_136_31 n i1  n (Nat.le_refl _) (((Int32.ofInt 21).toInt - (Int32.ofInt 0).toInt).toNat + 1) (hq_118 S i1) ((hq_80 (hq_118 S i1) (hq_98 (hq_118 S i1) 49))) ((Int32.ofInt (-4))) ((Int32.ofInt 0))  _ (Nat.lt_succ_self _) rfl (fun x2_31 x4_31 => ?_)
    show hp_T _ 136 107 [some (.ref 47), some (.int i1), x2_31, some (.int (hq_136_31 i1 (((Int32.ofInt 21).toInt - (Int32.ofInt 0).toInt).toNat + 1) (hq_118 S i1) ((hq_80 (hq_118 S i1) (hq_98 (hq_118 S i1) 49))) ((Int32.ofInt (-4))) ((Int32.ofInt 0))).2), x4_31] _ (hp_mem X ((hq_136_31 i1 (((Int32.ofInt 21).toInt - (Int32.ofInt 0).toInt).toNat + 1) (hq_118 S i1) ((hq_80 (hq_118 S i1) (hq_98 (hq_118 S i1) 49))) ((Int32.ofInt (-4))) ((Int32.ofInt 0))).1)) _ _
    refine hp_sN [108] (pc' := 108) (L' := [some (.ref 47), some (.int i1), x2_31, some (.int (hq_136_31 i1 (((Int32.ofInt 21).toInt - (Int32.ofInt 0).toInt).toNat + 1) (hq_118 S i1) ((hq_80 (hq_118 S i1) (hq_98 (hq_118 S i1) 49))) ((Int32.ofInt (-4))) ((Int32.ofInt 0))).2), x4_31]) (st' := [.int (hq_136_31 i1 (((Int32.ofInt 21).toInt - (Int32.ofInt 0).toInt).toNat + 1) (hq_118 S i1) ((hq_80 (hq_118 S i1) (hq_98 (hq_118 S i1) 49))) ((Int32.ofInt (-4))) ((Int32.ofInt 0))).2]) rfl rfl ?_
    exact hp_Ris rfl
  · refine hp_sN [8] (pc' := 8) (L' := [some (.ref 47), some (.int i1), none, none, none]) (st' := [.int (Int32.ofInt (-1))]) rfl rfl ?_
    exact hp_Ris rfl
theorem hk_136 {X : hp_X} (S : hp_S) (i1 : Int32) : hp_K 136 [.ref 47, .int i1] (hp_mem X S) (hp_is X) (hq_136 S i1) := by
  refine hp_mk (q := hzq_136) rfl (by decide) (L := [some (.ref 47), some (.int i1), none, none, none]) rfl (fun n => ?_)
  exact ht_136 S i1 n
/-! 137: HatsOfTheWindModel.bestSale(I)I -/
def hq_137_19 (i1 : Int32) : Nat → hp_S → Int32 → Int32 → Int32
  | 0, S, _, _ => 0
  | m + 1, S, v2, v3 => (if hz_cmp .ge v3 (S 49 (Int32.ofInt 1).toNatClampNeg) = true then v2 else (if hz_cmp .ne (hq_97 S 49 v3) 0 = true then hq_137_19 i1 m S v2 (v3 + (Int32.ofInt 1)) else (if hz_cmp .lt v2 0 = true then hq_137_19 i1 m S v3 (v3 + (Int32.ofInt 1)) else (if hz_cmp .le (hq_99 S 49 v3) (hq_99 S 49 v2) = true then hq_137_19 i1 m S v2 (v3 + (Int32.ofInt 1)) else hq_137_19 i1 m S v3 (v3 + (Int32.ofInt 1))))))
def hq_137 (S : hp_S) (i1 : Int32) : Int32 × hp_S := (if hz_cmp .ne (hq_117 S i1) 0 = true then ((hq_137_19 i1 (((hq_118 S i1 49 (Int32.ofInt 1).toNatClampNeg).toInt - (Int32.ofInt 0).toInt).toNat + 1) (hq_118 S i1) ((Int32.ofInt (-4))) ((Int32.ofInt 0))), hq_118 S i1) else ((Int32.ofInt (-1)), S))
theorem hf_137 (S : hp_S) (i1 : Int32) (j : Nat) (z0 : j ≠ 49) : (hq_137 S i1).2 j = S j := by
  unfold hq_137
  repeat' split
  all_goals simp [hp_wo, hp_wgo, hp_cpo, hf_118, z0]
set_option maxRecDepth 10000 in
theorem ht_137_19 {α : Type} {φ : α → Option Value × hzMem} {R : α} {X : hp_X} (N : Nat) (i1 : Int32) (S : hp_S) : ∀ (n : Nat), n ≤ N → ∀ (m : Nat) (v2 : Int32) (v3 : Int32) (Z : Int32), ((S 49 (Int32.ofInt 1).toNatClampNeg).toInt - v3.toInt).toNat < m → hq_137_19 i1 m S v2 v3 = Z → (∀ (x3 : Option Value), hp_T N 137 71 [some (.ref 47), some (.int i1), some (.int Z), x3] [] (hp_mem X S) φ R) → hp_T n 137 19 [some (.ref 47), some (.int i1), some (.int v2), some (.int v3)] [] (hp_mem X S) φ R := by
  intro n
  induction n with
  | zero => intros; exact hp_0
  | succ n ih =>
    intro hN m v2 v3 Z hm hZ kk
    cases m with
    | zero => exact absurd hm (Nat.not_lt_zero _)
    | succ m =>
      rw [hq_137_19] at hZ
      refine hp_sN [20, 21] (pc' := 21) (L' := [some (.ref 47), some (.int i1), some (.int v2), some (.int v3)]) (st' := [.ref 47, .int v3]) rfl rfl ?_
      refine hp_gf (pc' := 24) rfl (by decide) (hp_c47 X _) rfl rfl ?_
      refine hp_sN [25] (pc' := 25) (L' := [some (.ref 47), some (.int i1), some (.int v2), some (.int v3)]) (st' := [.int (Int32.ofInt 1), .ref 49, .int v3]) rfl rfl ?_
      refine hp_al (pc' := 26) rfl (hp_cl (Or.inr (Or.inl rfl))) (hp_cc (Or.inr (Or.inl rfl)) X _) rfl ?_
      refine hp_ic2 (pc' := 29) rfl rfl (fun h1 => ?_) (fun h1 => ?_)
      · rw [if_pos h1] at hZ
        subst hZ
        exact hp_le hN (kk (some (.int v3)))
      · rw [if_neg (hp_nt h1)] at hZ
        refine hp_sN [30] (pc' := 30) (L' := [some (.ref 47), some (.int i1), some (.int v2), some (.int v3)]) (st' := [.ref 47]) rfl rfl ?_
        refine hp_gf (pc' := 33) rfl (by decide) (hp_c47 X _) rfl rfl ?_
        refine hp_sN [34] (pc' := 34) (L' := [some (.ref 47), some (.int i1), some (.int v2), some (.int v3)]) (st' := [.int v3, .ref 49]) rfl rfl ?_
        refine hp_iv (virt := false) (pc' := 37) (rv := some (.int (hq_97 S 49 v3))) (M1 := hp_mem X (S)) rfl rfl (by decide) (hk_97 (Or.inr (Or.inl rfl)) S (v3)) rfl rfl ?_
        show hp_T _ 137 37 _ [.int (hq_97 S 49 v3)] _ _ _
        refine hp_if2 (pc' := 40) rfl rfl (fun h2 => ?_) (fun h2 => ?_)
        · rw [if_pos h2] at hZ
          refine hp_sB 68 [19] (pc' := 19) (L' := [some (.ref 47), some (.int i1), some (.int v2), some (.int (v3 + (Int32.ofInt 1)))]) (st' := []) rfl rfl ?_
          exact ih (Nat.le_trans (Nat.le_succ n) hN) m (v2) ((v3 + (Int32.ofInt 1))) Z (hp_up h1 hm) hZ kk
        · rw [if_neg (hp_nt h2)] at hZ
          refine hp_sN [41] (pc' := 41) (L' := [some (.ref 47), some (.int i1), some (.int v2), some (.int v3)]) (st' := [.int v2]) rfl rfl ?_
          refine hp_if2 (pc' := 44) rfl rfl (fun h3 => ?_) (fun h3 => ?_)
          · rw [if_pos h3] at hZ
            refine hp_sB 64 [65, 68, 19] (pc' := 19) (L' := [some (.ref 47), some (.int i1), some (.int v3), some (.int (v3 + (Int32.ofInt 1)))]) (st' := []) rfl rfl ?_
            exact ih (Nat.le_trans (Nat.le_succ n) hN) m (v3) ((v3 + (Int32.ofInt 1))) Z (hp_up h1 hm) hZ kk
          · rw [if_neg (hp_nt h3)] at hZ
            refine hp_sN [45] (pc' := 45) (L' := [some (.ref 47), some (.int i1), some (.int v2), some (.int v3)]) (st' := [.ref 47]) rfl rfl ?_
            refine hp_gf (pc' := 48) rfl (by decide) (hp_c47 X _) rfl rfl ?_
            refine hp_sN [49] (pc' := 49) (L' := [some (.ref 47), some (.int i1), some (.int v2), some (.int v3)]) (st' := [.int v3, .ref 49]) rfl rfl ?_
            refine hp_iv (virt := false) (pc' := 52) (rv := some (.int (hq_99 S 49 v3))) (M1 := hp_mem X (S)) rfl rfl (by decide) (hk_99 (Or.inr (Or.inl rfl)) S (v3)) rfl rfl ?_
            show hp_T _ 137 52 _ [.int (hq_99 S 49 v3)] _ _ _
            refine hp_sN [53] (pc' := 53) (L' := [some (.ref 47), some (.int i1), some (.int v2), some (.int v3)]) (st' := [.ref 47, .int (hq_99 S 49 v3)]) rfl rfl ?_
            refine hp_gf (pc' := 56) rfl (by decide) (hp_c47 X _) rfl rfl ?_
            refine hp_sN [57] (pc' := 57) (L' := [some (.ref 47), some (.int i1), some (.int v2), some (.int v3)]) (st' := [.int v2, .ref 49, .int (hq_99 S 49 v3)]) rfl rfl ?_
            refine hp_iv (virt := false) (pc' := 60) (rv := some (.int (hq_99 S 49 v2))) (M1 := hp_mem X (S)) rfl rfl (by decide) (hk_99 (Or.inr (Or.inl rfl)) S (v2)) rfl rfl ?_
            show hp_T _ 137 60 _ [.int (hq_99 S 49 v2), .int (hq_99 S 49 v3)] _ _ _
            refine hp_ic2 (pc' := 63) rfl rfl (fun h4 => ?_) (fun h4 => ?_)
            · rw [if_pos h4] at hZ
              refine hp_sB 68 [19] (pc' := 19) (L' := [some (.ref 47), some (.int i1), some (.int v2), some (.int (v3 + (Int32.ofInt 1)))]) (st' := []) rfl rfl ?_
              exact ih (Nat.le_trans (Nat.le_succ n) hN) m (v2) ((v3 + (Int32.ofInt 1))) Z (hp_up h1 hm) hZ kk
            · rw [if_neg (hp_nt h4)] at hZ
              refine hp_sB 64 [65, 68, 19] (pc' := 19) (L' := [some (.ref 47), some (.int i1), some (.int v3), some (.int (v3 + (Int32.ofInt 1)))]) (st' := []) rfl rfl ?_
              exact ih (Nat.le_trans (Nat.le_succ n) hN) m (v3) ((v3 + (Int32.ofInt 1))) Z (hp_up h1 hm) hZ kk
set_option maxRecDepth 10000 in
theorem ht_137 {X : hp_X} (S : hp_S) (i1 : Int32) (n : Nat) : hp_T n 137 0 [some (.ref 47), some (.int i1), none, none] [] (hp_mem X S) (hp_is X) (hq_137 S i1) := by
  unfold hq_137
  refine hp_sN [1] (pc' := 1) (L' := [some (.ref 47), some (.int i1), none, none]) (st' := [.int i1]) rfl rfl ?_
  refine hp_iv (virt := false) (pc' := 4) (rv := some (.int (hq_117 S i1))) (M1 := hp_mem X (S)) rfl rfl (by decide) (hk_117 S (i1)) rfl rfl ?_
  show hp_T _ 137 4 _ [.int (hq_117 S i1)] _ _ _
  refine hp_if (pc' := 7) rfl rfl (fun h1 => ?_) (fun h1 => ?_)
  · refine hp_sN [10, 11] (pc' := 11) (L' := [some (.ref 47), some (.int i1), none, none]) (st' := [.int i1, .ref 47]) rfl rfl ?_
    refine hp_iv (virt := true) (pc' := 14) (rv := none) (M1 := hp_mem X (hq_118 S i1)) rfl rfl (by decide) (hk_118 S (i1)) rfl rfl ?_
    show hp_T _ 137 14 _ [] _ _ _
    refine hp_sN [16, 17, 18, 19] (pc' := 19) (L' := [some (.ref 47), some (.int i1), some (.int (Int32.ofInt (-4))), some (.int (Int32.ofInt 0))]) (st' := []) rfl rfl ?_
    refine ht_137_19 n i1 (hq_118 S i1) n (Nat.le_refl _) (((hq_118 S i1 49 (Int32.ofInt 1).toNatClampNeg).toInt - (Int32.ofInt 0).toInt).toNat + 1)  ((Int32.ofInt (-4))) ((Int32.ofInt 0))  _ (Nat.lt_succ_self _) rfl (fun x3_19 => ?_)
    show hp_T _ 137 71 [some (.ref 47), some (.int i1), some (.int (hq_137_19 i1 (((hq_118 S i1 49 (Int32.ofInt 1).toNatClampNeg).toInt - (Int32.ofInt 0).toInt).toNat + 1) (hq_118 S i1) ((Int32.ofInt (-4))) ((Int32.ofInt 0)))), x3_19] _ (hp_mem X (hq_118 S i1)) _ _
    refine hp_sN [72] (pc' := 72) (L' := [some (.ref 47), some (.int i1), some (.int (hq_137_19 i1 (((hq_118 S i1 49 (Int32.ofInt 1).toNatClampNeg).toInt - (Int32.ofInt 0).toInt).toNat + 1) (hq_118 S i1) ((Int32.ofInt (-4))) ((Int32.ofInt 0)))), x3_19]) (st' := [.int (hq_137_19 i1 (((hq_118 S i1 49 (Int32.ofInt 1).toNatClampNeg).toInt - (Int32.ofInt 0).toInt).toNat + 1) (hq_118 S i1) ((Int32.ofInt (-4))) ((Int32.ofInt 0)))]) rfl rfl ?_
    exact hp_Ris rfl
  · refine hp_sN [8] (pc' := 8) (L' := [some (.ref 47), some (.int i1), none, none]) (st' := [.int (Int32.ofInt (-1))]) rfl rfl ?_
    exact hp_Ris rfl
theorem hk_137 {X : hp_X} (S : hp_S) (i1 : Int32) : hp_K 137 [.ref 47, .int i1] (hp_mem X S) (hp_is X) (hq_137 S i1) := by
  refine hp_mk (q := hzq_137) rfl (by decide) (L := [some (.ref 47), some (.int i1), none, none]) rfl (fun n => ?_)
  exact ht_137 S i1 n
/-! 138: HatsOfTheWindModel.race()I -/
def hq_138_8 : Nat → hp_S → Int32 → Int32 → Int32 → hp_S × Int32
  | 0, S, _, _, _ => (S, 0)
  | m + 1, S, v1, v2, v3 => (if hz_cmp .ge v3 (S 48 (Int32.ofInt 0).toNatClampNeg) = true then (S, v1) else (if hz_cmp .eq (hq_88 S 48 v3) (Int32.ofInt 9) = true then (if hz_cmp .lt (hq_125 S v3).1 0 = true then hq_138_8 m ((hq_125 S v3).2) v1 v2 (v3 + (Int32.ofInt 1)) else (if hz_cmp .lt (hq_125 S v3).1 v2 = true then hq_138_8 m ((hq_125 S v3).2) v3 (hq_125 S v3).1 (v3 + (Int32.ofInt 1)) else hq_138_8 m ((hq_125 S v3).2) v1 v2 (v3 + (Int32.ofInt 1)))) else (if hz_cmp .lt (Int32.ofInt (-4)) 0 = true then hq_138_8 m S v1 v2 (v3 + (Int32.ofInt 1)) else (if hz_cmp .lt (Int32.ofInt (-4)) v2 = true then hq_138_8 m S v3 (Int32.ofInt (-4)) (v3 + (Int32.ofInt 1)) else hq_138_8 m S v1 v2 (v3 + (Int32.ofInt 1))))))
def hq_138 (S : hp_S) : Int32 × hp_S := ((hq_138_8 (((S 48 (Int32.ofInt 0).toNatClampNeg).toInt - (Int32.ofInt 0).toInt).toNat + 1) S ((Int32.ofInt (-4))) ((Int32.ofInt 1000000000)) ((Int32.ofInt 0))).2, (hq_138_8 (((S 48 (Int32.ofInt 0).toNatClampNeg).toInt - (Int32.ofInt 0).toInt).toNat + 1) S ((Int32.ofInt (-4))) ((Int32.ofInt 1000000000)) ((Int32.ofInt 0))).1)
theorem hf_138_8 (j : Nat) (z0 : j ≠ 49) : ∀ (m : Nat) (S : hp_S) (v1 : Int32) (v2 : Int32) (v3 : Int32), (hq_138_8 m S v1 v2 v3).1 j = S j := by
  intro m
  induction m with
  | zero => intros; rfl
  | succ m ih =>
    intro S v1 v2 v3
    rw [hq_138_8]
    repeat' split
    all_goals simp [ih, hp_wo, hp_wgo, hp_cpo, hf_125, z0]
theorem hf_138 (S : hp_S) (j : Nat) (z0 : j ≠ 49) : (hq_138 S).2 j = S j := by
  unfold hq_138
  repeat' split
  all_goals simp [hp_wo, hp_wgo, hp_cpo, hf_125, z0, hf_138_8]
set_option maxRecDepth 10000 in
theorem ht_138_8 {α : Type} {φ : α → Option Value × hzMem} {R : α} {X : hp_X} (N : Nat) : ∀ (n : Nat), n ≤ N → ∀ (m : Nat) (S : hp_S) (v1 : Int32) (v2 : Int32) (v3 : Int32) (x4 : Option Value) (Z : hp_S × Int32), ((S 48 (Int32.ofInt 0).toNatClampNeg).toInt - v3.toInt).toNat < m → hq_138_8 m S v1 v2 v3 = Z → (∀ (x4 : Option Value) (x2 : Option Value) (x3 : Option Value), hp_T N 138 68 [some (.ref 47), some (.int Z.2), x2, x3, x4] [] (hp_mem X Z.1) φ R) → hp_T n 138 8 [some (.ref 47), some (.int v1), some (.int v2), some (.int v3), x4] [] (hp_mem X S) φ R := by
  intro n
  induction n with
  | zero => intros; exact hp_0
  | succ n ih =>
    intro hN m S v1 v2 v3 x4 Z hm hZ kk
    cases m with
    | zero => exact absurd hm (Nat.not_lt_zero _)
    | succ m =>
      rw [hq_138_8] at hZ
      refine hp_sN [9, 10] (pc' := 10) (L' := [some (.ref 47), some (.int v1), some (.int v2), some (.int v3), x4]) (st' := [.ref 47, .int v3]) rfl rfl ?_
      refine hp_gf (pc' := 13) rfl (by decide) (hp_c47 X _) rfl rfl ?_
      refine hp_sN [14] (pc' := 14) (L' := [some (.ref 47), some (.int v1), some (.int v2), some (.int v3), x4]) (st' := [.int (Int32.ofInt 0), .ref 48, .int v3]) rfl rfl ?_
      refine hp_al (pc' := 15) rfl (hp_cl (Or.inl rfl)) (hp_cc (Or.inl rfl) X _) rfl ?_
      refine hp_ic2 (pc' := 18) rfl rfl (fun h1 => ?_) (fun h1 => ?_)
      · rw [if_pos h1] at hZ
        subst hZ
        exact hp_le hN (kk (x4) (some (.int v2)) (some (.int v3)))
      · rw [if_neg (hp_nt h1)] at hZ
        refine hp_sN [19] (pc' := 19) (L' := [some (.ref 47), some (.int v1), some (.int v2), some (.int v3), x4]) (st' := [.ref 47]) rfl rfl ?_
        refine hp_gf (pc' := 22) rfl (by decide) (hp_c47 X _) rfl rfl ?_
        refine hp_sN [23] (pc' := 23) (L' := [some (.ref 47), some (.int v1), some (.int v2), some (.int v3), x4]) (st' := [.int v3, .ref 48]) rfl rfl ?_
        refine hp_iv (virt := false) (pc' := 26) (rv := some (.int (hq_88 S 48 v3))) (M1 := hp_mem X (S)) rfl rfl (by decide) (hk_88 (Or.inl rfl) S (v3)) rfl rfl ?_
        show hp_T _ 138 26 _ [.int (hq_88 S 48 v3)] _ _ _
        refine hp_sN [28] (pc' := 28) (L' := [some (.ref 47), some (.int v1), some (.int v2), some (.int v3), x4]) (st' := [.int (Int32.ofInt 9), .int (hq_88 S 48 v3)]) rfl rfl ?_
        refine hp_ic2 (pc' := 31) rfl rfl (fun h2 => ?_) (fun h2 => ?_)
        · rw [if_pos h2] at hZ
          refine hp_sN [37, 38] (pc' := 38) (L' := [some (.ref 47), some (.int v1), some (.int v2), some (.int v3), x4]) (st' := [.int v3, .ref 47]) rfl rfl ?_
          refine hp_iv (virt := true) (pc' := 41) (rv := some (.int (hq_125 S v3).1)) (M1 := hp_mem X ((hq_125 S v3).2)) rfl rfl (by decide) (hk_125 S (v3)) rfl rfl ?_
          show hp_T _ 138 41 _ [.int (hq_125 S v3).1] _ _ _
          refine hp_sN [43, 45] (pc' := 45) (L' := [some (.ref 47), some (.int v1), some (.int v2), some (.int v3), some (.int (hq_125 S v3).1)]) (st' := [.int (hq_125 S v3).1]) rfl rfl ?_
          refine hp_if2 (pc' := 48) rfl rfl (fun h3 => ?_) (fun h3 => ?_)
          · rw [if_pos h3] at hZ
            refine hp_sB 65 [8] (pc' := 8) (L' := [some (.ref 47), some (.int v1), some (.int v2), some (.int (v3 + (Int32.ofInt 1))), some (.int (hq_125 S v3).1)]) (st' := []) rfl rfl ?_
            exact ih (Nat.le_trans (Nat.le_succ n) hN) m ((hq_125 S v3).2) (v1) (v2) ((v3 + (Int32.ofInt 1))) (some (.int (hq_125 S v3).1)) Z (by rw [show (((hq_125 S v3).2) 48 (Int32.ofInt 0).toNatClampNeg) = (S 48 (Int32.ofInt 0).toNatClampNeg) from by simp (disch := omega) [hp_wo, hp_wgo, hp_cpo, hf_125]]; exact (hp_up h1 hm)) hZ kk
          · rw [if_neg (hp_nt h3)] at hZ
            refine hp_sN [50, 51] (pc' := 51) (L' := [some (.ref 47), some (.int v1), some (.int v2), some (.int v3), some (.int (hq_125 S v3).1)]) (st' := [.int v2, .int (hq_125 S v3).1]) rfl rfl ?_
            refine hp_ic2 (pc' := 54) rfl rfl (fun h4 => ?_) (fun h4 => ?_)
            · rw [if_pos h4] at hZ
              refine hp_sB 58 [59, 61, 62, 65, 8] (pc' := 8) (L' := [some (.ref 47), some (.int v3), some (.int (hq_125 S v3).1), some (.int (v3 + (Int32.ofInt 1))), some (.int (hq_125 S v3).1)]) (st' := []) rfl rfl ?_
              exact ih (Nat.le_trans (Nat.le_succ n) hN) m ((hq_125 S v3).2) (v3) ((hq_125 S v3).1) ((v3 + (Int32.ofInt 1))) (some (.int (hq_125 S v3).1)) Z (by rw [show (((hq_125 S v3).2) 48 (Int32.ofInt 0).toNatClampNeg) = (S 48 (Int32.ofInt 0).toNatClampNeg) from by simp (disch := omega) [hp_wo, hp_wgo, hp_cpo, hf_125]]; exact (hp_up h1 hm)) hZ kk
            · rw [if_neg (hp_nt h4)] at hZ
              refine hp_sB 62 [65, 8] (pc' := 8) (L' := [some (.ref 47), some (.int v1), some (.int v2), some (.int (v3 + (Int32.ofInt 1))), some (.int (hq_125 S v3).1)]) (st' := []) rfl rfl ?_
              exact ih (Nat.le_trans (Nat.le_succ n) hN) m ((hq_125 S v3).2) (v1) (v2) ((v3 + (Int32.ofInt 1))) (some (.int (hq_125 S v3).1)) Z (by rw [show (((hq_125 S v3).2) 48 (Int32.ofInt 0).toNatClampNeg) = (S 48 (Int32.ofInt 0).toNatClampNeg) from by simp (disch := omega) [hp_wo, hp_wgo, hp_cpo, hf_125]]; exact (hp_up h1 hm)) hZ kk
        · rw [if_neg (hp_nt h2)] at hZ
          refine hp_sN [33, 41, 43, 45] (pc' := 45) (L' := [some (.ref 47), some (.int v1), some (.int v2), some (.int v3), some (.int (Int32.ofInt (-4)))]) (st' := [.int (Int32.ofInt (-4))]) rfl rfl ?_
          refine hp_if2 (pc' := 48) rfl rfl (fun h5 => ?_) (fun h5 => ?_)
          · rw [if_pos h5] at hZ
            refine hp_sB 65 [8] (pc' := 8) (L' := [some (.ref 47), some (.int v1), some (.int v2), some (.int (v3 + (Int32.ofInt 1))), some (.int (Int32.ofInt (-4)))]) (st' := []) rfl rfl ?_
            exact ih (Nat.le_trans (Nat.le_succ n) hN) m S (v1) (v2) ((v3 + (Int32.ofInt 1))) (some (.int (Int32.ofInt (-4)))) Z (hp_up h1 hm) hZ kk
          · rw [if_neg (hp_nt h5)] at hZ
            refine hp_sN [50, 51] (pc' := 51) (L' := [some (.ref 47), some (.int v1), some (.int v2), some (.int v3), some (.int (Int32.ofInt (-4)))]) (st' := [.int v2, .int (Int32.ofInt (-4))]) rfl rfl ?_
            refine hp_ic2 (pc' := 54) rfl rfl (fun h6 => ?_) (fun h6 => ?_)
            · rw [if_pos h6] at hZ
              refine hp_sB 58 [59, 61, 62, 65, 8] (pc' := 8) (L' := [some (.ref 47), some (.int v3), some (.int (Int32.ofInt (-4))), some (.int (v3 + (Int32.ofInt 1))), some (.int (Int32.ofInt (-4)))]) (st' := []) rfl rfl ?_
              exact ih (Nat.le_trans (Nat.le_succ n) hN) m S (v3) ((Int32.ofInt (-4))) ((v3 + (Int32.ofInt 1))) (some (.int (Int32.ofInt (-4)))) Z (hp_up h1 hm) hZ kk
            · rw [if_neg (hp_nt h6)] at hZ
              refine hp_sB 62 [65, 8] (pc' := 8) (L' := [some (.ref 47), some (.int v1), some (.int v2), some (.int (v3 + (Int32.ofInt 1))), some (.int (Int32.ofInt (-4)))]) (st' := []) rfl rfl ?_
              exact ih (Nat.le_trans (Nat.le_succ n) hN) m S (v1) (v2) ((v3 + (Int32.ofInt 1))) (some (.int (Int32.ofInt (-4)))) Z (hp_up h1 hm) hZ kk
set_option maxRecDepth 10000 in
theorem ht_138 {X : hp_X} (S : hp_S) (n : Nat) : hp_T n 138 0 [some (.ref 47), none, none, none, none] [] (hp_mem X S) (hp_is X) (hq_138 S) := by
  unfold hq_138
  refine hp_sN [2, 3, 5, 6, 7, 8] (pc' := 8) (L' := [some (.ref 47), some (.int (Int32.ofInt (-4))), some (.int (Int32.ofInt 1000000000)), some (.int (Int32.ofInt 0)), none]) (st' := []) rfl rfl ?_
  refine ht_138_8 n  n (Nat.le_refl _) (((S 48 (Int32.ofInt 0).toNatClampNeg).toInt - (Int32.ofInt 0).toInt).toNat + 1) S ((Int32.ofInt (-4))) ((Int32.ofInt 1000000000)) ((Int32.ofInt 0)) (none) _ (Nat.lt_succ_self _) rfl (fun x4_8 x2_8 x3_8 => ?_)
  show hp_T _ 138 68 [some (.ref 47), some (.int (hq_138_8 (((S 48 (Int32.ofInt 0).toNatClampNeg).toInt - (Int32.ofInt 0).toInt).toNat + 1) S ((Int32.ofInt (-4))) ((Int32.ofInt 1000000000)) ((Int32.ofInt 0))).2), x2_8, x3_8, x4_8] _ (hp_mem X ((hq_138_8 (((S 48 (Int32.ofInt 0).toNatClampNeg).toInt - (Int32.ofInt 0).toInt).toNat + 1) S ((Int32.ofInt (-4))) ((Int32.ofInt 1000000000)) ((Int32.ofInt 0))).1)) _ _
  refine hp_sN [69] (pc' := 69) (L' := [some (.ref 47), some (.int (hq_138_8 (((S 48 (Int32.ofInt 0).toNatClampNeg).toInt - (Int32.ofInt 0).toInt).toNat + 1) S ((Int32.ofInt (-4))) ((Int32.ofInt 1000000000)) ((Int32.ofInt 0))).2), x2_8, x3_8, x4_8]) (st' := [.int (hq_138_8 (((S 48 (Int32.ofInt 0).toNatClampNeg).toInt - (Int32.ofInt 0).toInt).toNat + 1) S ((Int32.ofInt (-4))) ((Int32.ofInt 1000000000)) ((Int32.ofInt 0))).2]) rfl rfl ?_
  exact hp_Ris rfl
theorem hk_138 {X : hp_X} (S : hp_S) : hp_K 138 [.ref 47] (hp_mem X S) (hp_is X) (hq_138 S) := by
  refine hp_mk (q := hzq_138) rfl (by decide) (L := [some (.ref 47), none, none, none, none]) rfl (fun n => ?_)
  exact ht_138 S n

/-! 139: HatsOfTheWindModel.swaps(I)I -/
def hq_139_18 (i1 : Int32) : Nat → hp_S → Int32 → Int32 → Int32
  | 0, S, _, _ => 0
  | m + 1, S, v2, v3 => (if hz_cmp .ge v3 (S 48 (Int32.ofInt 1).toNatClampNeg) = true then v2 else (if hz_cmp .eq (hq_85 S 48 v3) 0 = true then hq_139_18 i1 m S (v2 + (Int32.ofInt 0)) (v3 + (Int32.ofInt 1)) else (if hz_cmp .eq (hq_85 S 49 v3) 0 = true then hq_139_18 i1 m S (v2 + (Int32.ofInt 0)) (v3 + (Int32.ofInt 1)) else (if hz_cmp .eq (S 48 (hq_75 S v3 (Int32.ofInt 2)).toNatClampNeg) (S 49 (hq_75 S v3 (Int32.ofInt 2)).toNatClampNeg) = true then hq_139_18 i1 m S (v2 + (Int32.ofInt 0)) (v3 + (Int32.ofInt 1)) else hq_139_18 i1 m S (v2 + (Int32.ofInt 1)) (v3 + (Int32.ofInt 1))))))
def hq_139 (S : hp_S) (i1 : Int32) : Int32 × hp_S := (if hz_cmp .ne (hq_117 S i1) 0 = true then ((hq_139_18 i1 (((hq_118 S i1 48 (Int32.ofInt 1).toNatClampNeg).toInt - (Int32.ofInt 0).toInt).toNat + 1) (hq_118 S i1) ((Int32.ofInt 0)) ((Int32.ofInt 0))), hq_118 S i1) else ((Int32.ofInt (-1)), S))
theorem hf_139 (S : hp_S) (i1 : Int32) (j : Nat) (z0 : j ≠ 49) : (hq_139 S i1).2 j = S j := by
  unfold hq_139
  repeat' split
  all_goals simp [hp_wo, hp_wgo, hp_cpo, hf_118, z0]
set_option maxRecDepth 10000 in
theorem ht_139_18 {α : Type} {φ : α → Option Value × hzMem} {R : α} {X : hp_X} (N : Nat) (i1 : Int32) (S : hp_S) : ∀ (n : Nat), n ≤ N → ∀ (m : Nat) (v2 : Int32) (v3 : Int32) (Z : Int32), ((S 48 (Int32.ofInt 1).toNatClampNeg).toInt - v3.toInt).toNat < m → hq_139_18 i1 m S v2 v3 = Z → (∀ (x3 : Option Value), hp_T N 139 87 [some (.ref 47), some (.int i1), some (.int Z), x3] [] (hp_mem X S) φ R) → hp_T n 139 18 [some (.ref 47), some (.int i1), some (.int v2), some (.int v3)] [] (hp_mem X S) φ R := by
  intro n
  induction n with
  | zero => intros; exact hp_0
  | succ n ih =>
    intro hN m v2 v3 Z hm hZ kk
    cases m with
    | zero => exact absurd hm (Nat.not_lt_zero _)
    | succ m =>
      rw [hq_139_18] at hZ
      refine hp_sN [19, 20] (pc' := 20) (L' := [some (.ref 47), some (.int i1), some (.int v2), some (.int v3)]) (st' := [.ref 47, .int v3]) rfl rfl ?_
      refine hp_gf (pc' := 23) rfl (by decide) (hp_c47 X _) rfl rfl ?_
      refine hp_sN [24] (pc' := 24) (L' := [some (.ref 47), some (.int i1), some (.int v2), some (.int v3)]) (st' := [.int (Int32.ofInt 1), .ref 48, .int v3]) rfl rfl ?_
      refine hp_al (pc' := 25) rfl (hp_cl (Or.inl rfl)) (hp_cc (Or.inl rfl) X _) rfl ?_
      refine hp_ic2 (pc' := 28) rfl rfl (fun h1 => ?_) (fun h1 => ?_)
      · rw [if_pos h1] at hZ
        subst hZ
        exact hp_le hN (kk (some (.int v3)))
      · rw [if_neg (hp_nt h1)] at hZ
        refine hp_sN [29, 30] (pc' := 30) (L' := [some (.ref 47), some (.int i1), some (.int v2), some (.int v3)]) (st' := [.ref 47, .int v2]) rfl rfl ?_
        refine hp_gf (pc' := 33) rfl (by decide) (hp_c47 X _) rfl rfl ?_
        refine hp_sN [34] (pc' := 34) (L' := [some (.ref 47), some (.int i1), some (.int v2), some (.int v3)]) (st' := [.int v3, .ref 48, .int v2]) rfl rfl ?_
        refine hp_iv (virt := false) (pc' := 37) (rv := some (.int (hq_85 S 48 v3))) (M1 := hp_mem X (S)) rfl rfl (by decide) (hk_85 (Or.inl rfl) S (v3)) rfl rfl ?_
        show hp_T _ 139 37 _ [.int (hq_85 S 48 v3), .int v2] _ _ _
        refine hp_if2 (pc' := 40) rfl rfl (fun h2 => ?_) (fun h2 => ?_)
        · rw [if_pos h2] at hZ
          refine hp_sB 79 [80, 81, 84, 18] (pc' := 18) (L' := [some (.ref 47), some (.int i1), some (.int (v2 + (Int32.ofInt 0))), some (.int (v3 + (Int32.ofInt 1)))]) (st' := []) rfl rfl ?_
          exact ih (Nat.le_trans (Nat.le_succ n) hN) m ((v2 + (Int32.ofInt 0))) ((v3 + (Int32.ofInt 1))) Z (hp_up h1 hm) hZ kk
        · rw [if_neg (hp_nt h2)] at hZ
          refine hp_sN [41] (pc' := 41) (L' := [some (.ref 47), some (.int i1), some (.int v2), some (.int v3)]) (st' := [.ref 47, .int v2]) rfl rfl ?_
          refine hp_gf (pc' := 44) rfl (by decide) (hp_c47 X _) rfl rfl ?_
          refine hp_sN [45] (pc' := 45) (L' := [some (.ref 47), some (.int i1), some (.int v2), some (.int v3)]) (st' := [.int v3, .ref 49, .int v2]) rfl rfl ?_
          refine hp_iv (virt := false) (pc' := 48) (rv := some (.int (hq_85 S 49 v3))) (M1 := hp_mem X (S)) rfl rfl (by decide) (hk_85 (Or.inr (Or.inl rfl)) S (v3)) rfl rfl ?_
          show hp_T _ 139 48 _ [.int (hq_85 S 49 v3), .int v2] _ _ _
          refine hp_if2 (pc' := 51) rfl rfl (fun h3 => ?_) (fun h3 => ?_)
          · rw [if_pos h3] at hZ
            refine hp_sB 79 [80, 81, 84, 18] (pc' := 18) (L' := [some (.ref 47), some (.int i1), some (.int (v2 + (Int32.ofInt 0))), some (.int (v3 + (Int32.ofInt 1)))]) (st' := []) rfl rfl ?_
            exact ih (Nat.le_trans (Nat.le_succ n) hN) m ((v2 + (Int32.ofInt 0))) ((v3 + (Int32.ofInt 1))) Z (hp_up h1 hm) hZ kk
          · rw [if_neg (hp_nt h3)] at hZ
            refine hp_sN [52] (pc' := 52) (L' := [some (.ref 47), some (.int i1), some (.int v2), some (.int v3)]) (st' := [.ref 47, .int v2]) rfl rfl ?_
            refine hp_gf (pc' := 55) rfl (by decide) (hp_c47 X _) rfl rfl ?_
            refine hp_sN [56, 57] (pc' := 57) (L' := [some (.ref 47), some (.int i1), some (.int v2), some (.int v3)]) (st' := [.int (Int32.ofInt 2), .int v3, .ref 48, .int v2]) rfl rfl ?_
            refine hp_iv (virt := false) (pc' := 60) (rv := some (.int (hq_75 S v3 (Int32.ofInt 2)))) (M1 := hp_mem X (S)) rfl rfl (by decide) (hk_75 S (v3) ((Int32.ofInt 2))) rfl rfl ?_
            show hp_T _ 139 60 _ [.int (hq_75 S v3 (Int32.ofInt 2)), .ref 48, .int v2] _ _ _
            refine hp_al (pc' := 61) rfl (hp_cl (Or.inl rfl)) (hp_cc (Or.inl rfl) X _) rfl ?_
            refine hp_sN [62] (pc' := 62) (L' := [some (.ref 47), some (.int i1), some (.int v2), some (.int v3)]) (st' := [.ref 47, .int (S 48 (hq_75 S v3 (Int32.ofInt 2)).toNatClampNeg), .int v2]) rfl rfl ?_
            refine hp_gf (pc' := 65) rfl (by decide) (hp_c47 X _) rfl rfl ?_
            refine hp_sN [66, 67] (pc' := 67) (L' := [some (.ref 47), some (.int i1), some (.int v2), some (.int v3)]) (st' := [.int (Int32.ofInt 2), .int v3, .ref 49, .int (S 48 (hq_75 S v3 (Int32.ofInt 2)).toNatClampNeg), .int v2]) rfl rfl ?_
            refine hp_iv (virt := false) (pc' := 70) (rv := some (.int (hq_75 S v3 (Int32.ofInt 2)))) (M1 := hp_mem X (S)) rfl rfl (by decide) (hk_75 S (v3) ((Int32.ofInt 2))) rfl rfl ?_
            show hp_T _ 139 70 _ [.int (hq_75 S v3 (Int32.ofInt 2)), .ref 49, .int (S 48 (hq_75 S v3 (Int32.ofInt 2)).toNatClampNeg), .int v2] _ _ _
            refine hp_al (pc' := 71) rfl (hp_cl (Or.inr (Or.inl rfl))) (hp_cc (Or.inr (Or.inl rfl)) X _) rfl ?_
            refine hp_ic2 (pc' := 74) rfl rfl (fun h4 => ?_) (fun h4 => ?_)
            · rw [if_pos h4] at hZ
              refine hp_sB 79 [80, 81, 84, 18] (pc' := 18) (L' := [some (.ref 47), some (.int i1), some (.int (v2 + (Int32.ofInt 0))), some (.int (v3 + (Int32.ofInt 1)))]) (st' := []) rfl rfl ?_
              exact ih (Nat.le_trans (Nat.le_succ n) hN) m ((v2 + (Int32.ofInt 0))) ((v3 + (Int32.ofInt 1))) Z (hp_up h1 hm) hZ kk
            · rw [if_neg (hp_nt h4)] at hZ
              refine hp_sB 75 [79, 80, 81, 84, 18] (pc' := 18) (L' := [some (.ref 47), some (.int i1), some (.int (v2 + (Int32.ofInt 1))), some (.int (v3 + (Int32.ofInt 1)))]) (st' := []) rfl rfl ?_
              exact ih (Nat.le_trans (Nat.le_succ n) hN) m ((v2 + (Int32.ofInt 1))) ((v3 + (Int32.ofInt 1))) Z (hp_up h1 hm) hZ kk
set_option maxRecDepth 10000 in
theorem ht_139 {X : hp_X} (S : hp_S) (i1 : Int32) (n : Nat) : hp_T n 139 0 [some (.ref 47), some (.int i1), none, none] [] (hp_mem X S) (hp_is X) (hq_139 S i1) := by
  unfold hq_139
  refine hp_sN [1] (pc' := 1) (L' := [some (.ref 47), some (.int i1), none, none]) (st' := [.int i1]) rfl rfl ?_
  refine hp_iv (virt := false) (pc' := 4) (rv := some (.int (hq_117 S i1))) (M1 := hp_mem X (S)) rfl rfl (by decide) (hk_117 S (i1)) rfl rfl ?_
  show hp_T _ 139 4 _ [.int (hq_117 S i1)] _ _ _
  refine hp_if (pc' := 7) rfl rfl (fun h1 => ?_) (fun h1 => ?_)
  · refine hp_sN [10, 11] (pc' := 11) (L' := [some (.ref 47), some (.int i1), none, none]) (st' := [.int i1, .ref 47]) rfl rfl ?_
    refine hp_iv (virt := true) (pc' := 14) (rv := none) (M1 := hp_mem X (hq_118 S i1)) rfl rfl (by decide) (hk_118 S (i1)) rfl rfl ?_
    show hp_T _ 139 14 _ [] _ _ _
    refine hp_sN [15, 16, 17, 18] (pc' := 18) (L' := [some (.ref 47), some (.int i1), some (.int (Int32.ofInt 0)), some (.int (Int32.ofInt 0))]) (st' := []) rfl rfl ?_
    refine ht_139_18 n i1 (hq_118 S i1) n (Nat.le_refl _) (((hq_118 S i1 48 (Int32.ofInt 1).toNatClampNeg).toInt - (Int32.ofInt 0).toInt).toNat + 1)  ((Int32.ofInt 0)) ((Int32.ofInt 0))  _ (Nat.lt_succ_self _) rfl (fun x3_18 => ?_)
    show hp_T _ 139 87 [some (.ref 47), some (.int i1), some (.int (hq_139_18 i1 (((hq_118 S i1 48 (Int32.ofInt 1).toNatClampNeg).toInt - (Int32.ofInt 0).toInt).toNat + 1) (hq_118 S i1) ((Int32.ofInt 0)) ((Int32.ofInt 0)))), x3_18] _ (hp_mem X (hq_118 S i1)) _ _
    refine hp_sN [88] (pc' := 88) (L' := [some (.ref 47), some (.int i1), some (.int (hq_139_18 i1 (((hq_118 S i1 48 (Int32.ofInt 1).toNatClampNeg).toInt - (Int32.ofInt 0).toInt).toNat + 1) (hq_118 S i1) ((Int32.ofInt 0)) ((Int32.ofInt 0)))), x3_18]) (st' := [.int (hq_139_18 i1 (((hq_118 S i1 48 (Int32.ofInt 1).toNatClampNeg).toInt - (Int32.ofInt 0).toInt).toNat + 1) (hq_118 S i1) ((Int32.ofInt 0)) ((Int32.ofInt 0)))]) rfl rfl ?_
    exact hp_Ris rfl
  · refine hp_sN [8] (pc' := 8) (L' := [some (.ref 47), some (.int i1), none, none]) (st' := [.int (Int32.ofInt (-1))]) rfl rfl ?_
    exact hp_Ris rfl
theorem hk_139 {X : hp_X} (S : hp_S) (i1 : Int32) : hp_K 139 [.ref 47, .int i1] (hp_mem X S) (hp_is X) (hq_139 S i1) := by
  refine hp_mk (q := hzq_139) rfl (by decide) (L := [some (.ref 47), some (.int i1), none, none]) rfl (fun n => ?_)
  exact ht_139 S i1 n
/-! 140: HatsOfTheWindModel.leastOf(I)I -/
def hq_140 (S : hp_S) (i1 : Int32) : Int32 := (if hz_cmp .ne i1 0 = true then (if hz_cmp .ne i1 (Int32.ofInt 1) = true then (Int32.ofInt (-2147483648)) else (Int32.ofInt (-32768))) else (Int32.ofInt (-128)))
set_option maxRecDepth 10000 in
theorem ht_140 {X : hp_X} (S : hp_S) (i1 : Int32) (n : Nat) : hp_T n 140 0 [some (.int i1)] [] (hp_mem X S) (hp_i X S) (hq_140 S i1) := by
  unfold hq_140
  refine hp_sN [1] (pc' := 1) (L' := [some (.int i1)]) (st' := [.int i1]) rfl rfl ?_
  refine hp_if (pc' := 4) rfl rfl (fun h1 => ?_) (fun h1 => ?_)
  · refine hp_sN [10, 11] (pc' := 11) (L' := [some (.int i1)]) (st' := [.int (Int32.ofInt 1), .int i1]) rfl rfl ?_
    refine hp_ic (pc' := 14) rfl rfl (fun h2 => ?_) (fun h2 => ?_)
    · refine hp_sN [22] (pc' := 22) (L' := [some (.int i1)]) (st' := [.int (Int32.ofInt (-2147483648))]) rfl rfl ?_
      exact hp_Ri rfl
    · refine hp_sN [17, 22] (pc' := 22) (L' := [some (.int i1)]) (st' := [.int (Int32.ofInt (-32768))]) rfl rfl ?_
      exact hp_Ri rfl
  · refine hp_sN [6, 22] (pc' := 22) (L' := [some (.int i1)]) (st' := [.int (Int32.ofInt (-128))]) rfl rfl ?_
    exact hp_Ri rfl
theorem hk_140 {X : hp_X} (S : hp_S) (i1 : Int32) : hp_K 140 [.int i1] (hp_mem X S) (hp_i X S) (hq_140 S i1) := by
  refine hp_mk (q := hzq_140) rfl (by decide) (L := [some (.int i1)]) rfl (fun n => ?_)
  exact ht_140 S i1 n
/-! 158: HatsOfTheWindModel.wrongRow(II)I -/
def hq_158 (S : hp_S) (i1 : Int32) (i2 : Int32) : Int32 := (if hz_cmp .ne (hq_157 S i1) 0 = true then (if hz_cmp .ne (S 53 i1.toNatClampNeg) 0 = true then (if hz_cmp .ne (S 53 i1.toNatClampNeg) (Int32.ofInt 2) = true then (Int32.ofInt (-12)) else (if hz_cmp .lt i2 0 = true then (Int32.ofInt 0) else (if hz_cmp .eq (S 56 i1.toNatClampNeg) i2 = true then (Int32.ofInt 0) else (Int32.ofInt (-12))))) else (Int32.ofInt (-11))) else (Int32.ofInt (-1)))
set_option maxRecDepth 10000 in
theorem ht_158 {X : hp_X} (S : hp_S) (i1 : Int32) (i2 : Int32) (n : Nat) : hp_T n 158 0 [some (.ref 47), some (.int i1), some (.int i2)] [] (hp_mem X S) (hp_i X S) (hq_158 S i1 i2) := by
  unfold hq_158
  refine hp_sN [1] (pc' := 1) (L' := [some (.ref 47), some (.int i1), some (.int i2)]) (st' := [.int i1]) rfl rfl ?_
  refine hp_iv (virt := false) (pc' := 4) (rv := some (.int (hq_157 S i1))) (M1 := hp_mem X (S)) rfl rfl (by decide) (hk_157 S (i1)) rfl rfl ?_
  show hp_T _ 158 4 _ [.int (hq_157 S i1)] _ _ _
  refine hp_if (pc' := 7) rfl rfl (fun h1 => ?_) (fun h1 => ?_)
  · refine hp_sN [12] (pc' := 12) (L' := [some (.ref 47), some (.int i1), some (.int i2)]) (st' := [.ref 47]) rfl rfl ?_
    refine hp_gf (pc' := 15) rfl (by decide) (hp_c47 X _) rfl rfl ?_
    refine hp_sN [16] (pc' := 16) (L' := [some (.ref 47), some (.int i1), some (.int i2)]) (st' := [.int i1, .ref 53]) rfl rfl ?_
    refine hp_al (pc' := 17) rfl (by decide) rfl rfl ?_
    refine hp_if (pc' := 20) rfl rfl (fun h2 => ?_) (fun h2 => ?_)
    · refine hp_sN [26] (pc' := 26) (L' := [some (.ref 47), some (.int i1), some (.int i2)]) (st' := [.ref 47]) rfl rfl ?_
      refine hp_gf (pc' := 29) rfl (by decide) (hp_c47 X _) rfl rfl ?_
      refine hp_sN [30] (pc' := 30) (L' := [some (.ref 47), some (.int i1), some (.int i2)]) (st' := [.int i1, .ref 53]) rfl rfl ?_
      refine hp_al (pc' := 31) rfl (by decide) rfl rfl ?_
      refine hp_sN [32] (pc' := 32) (L' := [some (.ref 47), some (.int i1), some (.int i2)]) (st' := [.int (Int32.ofInt 2), .int (S 53 i1.toNatClampNeg)]) rfl rfl ?_
      refine hp_ic (pc' := 35) rfl rfl (fun h3 => ?_) (fun h3 => ?_)
      · refine hp_sN [51, 55] (pc' := 55) (L' := [some (.ref 47), some (.int i1), some (.int i2)]) (st' := [.int (Int32.ofInt (-12))]) rfl rfl ?_
        exact hp_Ri rfl
      · refine hp_sN [36] (pc' := 36) (L' := [some (.ref 47), some (.int i1), some (.int i2)]) (st' := [.int i2]) rfl rfl ?_
        refine hp_if (pc' := 39) rfl rfl (fun h4 => ?_) (fun h4 => ?_)
        · refine hp_sN [55] (pc' := 55) (L' := [some (.ref 47), some (.int i1), some (.int i2)]) (st' := [.int (Int32.ofInt 0)]) rfl rfl ?_
          exact hp_Ri rfl
        · refine hp_sN [40] (pc' := 40) (L' := [some (.ref 47), some (.int i1), some (.int i2)]) (st' := [.ref 47]) rfl rfl ?_
          refine hp_gf (pc' := 43) rfl (by decide) (hp_c47 X _) rfl rfl ?_
          refine hp_sN [44] (pc' := 44) (L' := [some (.ref 47), some (.int i1), some (.int i2)]) (st' := [.int i1, .ref 56]) rfl rfl ?_
          refine hp_al (pc' := 45) rfl (by decide) rfl rfl ?_
          refine hp_sN [46] (pc' := 46) (L' := [some (.ref 47), some (.int i1), some (.int i2)]) (st' := [.int i2, .int (S 56 i1.toNatClampNeg)]) rfl rfl ?_
          refine hp_ic (pc' := 49) rfl rfl (fun h5 => ?_) (fun h5 => ?_)
          · refine hp_sN [55] (pc' := 55) (L' := [some (.ref 47), some (.int i1), some (.int i2)]) (st' := [.int (Int32.ofInt 0)]) rfl rfl ?_
            exact hp_Ri rfl
          · refine hp_sN [51, 55] (pc' := 55) (L' := [some (.ref 47), some (.int i1), some (.int i2)]) (st' := [.int (Int32.ofInt (-12))]) rfl rfl ?_
            exact hp_Ri rfl
    · refine hp_sN [22, 55] (pc' := 55) (L' := [some (.ref 47), some (.int i1), some (.int i2)]) (st' := [.int (Int32.ofInt (-11))]) rfl rfl ?_
      exact hp_Ri rfl
  · refine hp_sN [8, 55] (pc' := 55) (L' := [some (.ref 47), some (.int i1), some (.int i2)]) (st' := [.int (Int32.ofInt (-1))]) rfl rfl ?_
    exact hp_Ri rfl
theorem hk_158 {X : hp_X} (S : hp_S) (i1 : Int32) (i2 : Int32) : hp_K 158 [.ref 47, .int i1, .int i2] (hp_mem X S) (hp_i X S) (hq_158 S i1 i2) := by
  refine hp_mk (q := hzq_158) rfl (by decide) (L := [some (.ref 47), some (.int i1), some (.int i2)]) rfl (fun n => ?_)
  exact ht_158 S i1 i2 n
/-! 141: HatsOfTheWindModel.whatIs(III)I -/
def hq_141_105 (i1 : Int32) (i2 : Int32) (i3 : Int32) : Nat → hp_S → Int32 → Int32 → Int32 → Int32 → Int32 → hp_S × Int32
  | 0, S, _, _, _, _, _ => (S, 0)
  | m + 1, S, v4, v5, v6, v7, v8 => (if hz_cmp .ge v8 (S 57 i1.toNatClampNeg) = true then (S, v7) else (if hz_cmp .eq (S 58 (((Int32.ofInt 100) * i1) + v8).toNatClampNeg) (hq_140 S (S 56 i1.toNatClampNeg)) = true then hq_141_105 i1 i2 i3 m (hq_93 S 49 (Int32.ofInt 0)) v4 v5 v6 (v7 &&& (Int32.ofInt 1)) (v8 + (Int32.ofInt 1)) else (if hz_cmp .ne (S 58 (((Int32.ofInt 100) * i1) + v8).toNatClampNeg) (hq_87 S 49 i2) = true then hq_141_105 i1 i2 i3 m (hq_93 S 49 (Int32.ofInt 0)) v4 v5 v6 (v7 &&& (Int32.ofInt 0)) (v8 + (Int32.ofInt 1)) else hq_141_105 i1 i2 i3 m (hq_93 S 49 (Int32.ofInt 0)) v4 v5 v6 (v7 &&& (Int32.ofInt 1)) (v8 + (Int32.ofInt 1)))))
def hq_141_41 (i1 : Int32) (i2 : Int32) (i3 : Int32) : Nat → hp_S → Int32 → Int32 → Int32 → hp_S × Int32
  | 0, S, _, _, _ => (S, 0)
  | m + 1, S, v4, v5, v6 => (if hz_cmp .ne i3 (Int32.ofInt 1) = true then (if hz_cmp .ge v6 (Int32.ofInt 10) = true then (S, v5) else (if hz_cmp .ne i3 0 = true then (if hz_cmp .eq (hq_141_105 i1 i2 i3 (((hp_wg 80 (hq_73 S 48 49) 49 (hq_75 (hq_73 S 48 49) i2 (i3 - (Int32.ofInt 1))) v6 57 i1.toNatClampNeg).toInt - (Int32.ofInt 0).toInt).toNat + 1) (hp_wg 80 (hq_73 S 48 49) 49 (hq_75 (hq_73 S 48 49) i2 (i3 - (Int32.ofInt 1))) v6) (v4) (v5) (v6) ((Int32.ofInt 1)) ((Int32.ofInt 0))).2 0 = true then hq_141_41 i1 i2 i3 m ((hq_141_105 i1 i2 i3 (((hp_wg 80 (hq_73 S 48 49) 49 (hq_75 (hq_73 S 48 49) i2 (i3 - (Int32.ofInt 1))) v6 57 i1.toNatClampNeg).toInt - (Int32.ofInt 0).toInt).toNat + 1) (hp_wg 80 (hq_73 S 48 49) 49 (hq_75 (hq_73 S 48 49) i2 (i3 - (Int32.ofInt 1))) v6) (v4) (v5) (v6) ((Int32.ofInt 1)) ((Int32.ofInt 0))).1) v4 (v5 ||| (Int32.ofInt 0)) (v6 + (Int32.ofInt 1)) else hq_141_41 i1 i2 i3 m ((hq_141_105 i1 i2 i3 (((hp_wg 80 (hq_73 S 48 49) 49 (hq_75 (hq_73 S 48 49) i2 (i3 - (Int32.ofInt 1))) v6 57 i1.toNatClampNeg).toInt - (Int32.ofInt 0).toInt).toNat + 1) (hp_wg 80 (hq_73 S 48 49) 49 (hq_75 (hq_73 S 48 49) i2 (i3 - (Int32.ofInt 1))) v6) (v4) (v5) (v6) ((Int32.ofInt 1)) ((Int32.ofInt 0))).1) v4 (v5 ||| ((Int32.ofInt 1) <<< (v6 &&& 31))) (v6 + (Int32.ofInt 1))) else (if hz_cmp .eq (hq_141_105 i1 i2 i3 (((hp_wg 80 (hq_73 S 48 49) 49 ((Int32.ofInt 6) + (hq_73 S 48 49 48 (Int32.ofInt 2).toNatClampNeg)) v6 57 i1.toNatClampNeg).toInt - (Int32.ofInt 0).toInt).toNat + 1) (hp_wg 80 (hq_73 S 48 49) 49 ((Int32.ofInt 6) + (hq_73 S 48 49 48 (Int32.ofInt 2).toNatClampNeg)) v6) (v4) (v5) (v6) ((Int32.ofInt 1)) ((Int32.ofInt 0))).2 0 = true then hq_141_41 i1 i2 i3 m ((hq_141_105 i1 i2 i3 (((hp_wg 80 (hq_73 S 48 49) 49 ((Int32.ofInt 6) + (hq_73 S 48 49 48 (Int32.ofInt 2).toNatClampNeg)) v6 57 i1.toNatClampNeg).toInt - (Int32.ofInt 0).toInt).toNat + 1) (hp_wg 80 (hq_73 S 48 49) 49 ((Int32.ofInt 6) + (hq_73 S 48 49 48 (Int32.ofInt 2).toNatClampNeg)) v6) (v4) (v5) (v6) ((Int32.ofInt 1)) ((Int32.ofInt 0))).1) v4 (v5 ||| (Int32.ofInt 0)) (v6 + (Int32.ofInt 1)) else hq_141_41 i1 i2 i3 m ((hq_141_105 i1 i2 i3 (((hp_wg 80 (hq_73 S 48 49) 49 ((Int32.ofInt 6) + (hq_73 S 48 49 48 (Int32.ofInt 2).toNatClampNeg)) v6 57 i1.toNatClampNeg).toInt - (Int32.ofInt 0).toInt).toNat + 1) (hp_wg 80 (hq_73 S 48 49) 49 ((Int32.ofInt 6) + (hq_73 S 48 49 48 (Int32.ofInt 2).toNatClampNeg)) v6) (v4) (v5) (v6) ((Int32.ofInt 1)) ((Int32.ofInt 0))).1) v4 (v5 ||| ((Int32.ofInt 1) <<< (v6 &&& 31))) (v6 + (Int32.ofInt 1))))) else (if hz_cmp .ge v6 (Int32.ofInt 8) = true then (S, v5) else (if hz_cmp .ne i3 0 = true then (if hz_cmp .eq (hq_141_105 i1 i2 i3 (((hp_wg 80 (hq_73 S 48 49) 49 (hq_75 (hq_73 S 48 49) i2 (i3 - (Int32.ofInt 1))) v6 57 i1.toNatClampNeg).toInt - (Int32.ofInt 0).toInt).toNat + 1) (hp_wg 80 (hq_73 S 48 49) 49 (hq_75 (hq_73 S 48 49) i2 (i3 - (Int32.ofInt 1))) v6) (v4) (v5) (v6) ((Int32.ofInt 1)) ((Int32.ofInt 0))).2 0 = true then hq_141_41 i1 i2 i3 m ((hq_141_105 i1 i2 i3 (((hp_wg 80 (hq_73 S 48 49) 49 (hq_75 (hq_73 S 48 49) i2 (i3 - (Int32.ofInt 1))) v6 57 i1.toNatClampNeg).toInt - (Int32.ofInt 0).toInt).toNat + 1) (hp_wg 80 (hq_73 S 48 49) 49 (hq_75 (hq_73 S 48 49) i2 (i3 - (Int32.ofInt 1))) v6) (v4) (v5) (v6) ((Int32.ofInt 1)) ((Int32.ofInt 0))).1) v4 (v5 ||| (Int32.ofInt 0)) (v6 + (Int32.ofInt 1)) else hq_141_41 i1 i2 i3 m ((hq_141_105 i1 i2 i3 (((hp_wg 80 (hq_73 S 48 49) 49 (hq_75 (hq_73 S 48 49) i2 (i3 - (Int32.ofInt 1))) v6 57 i1.toNatClampNeg).toInt - (Int32.ofInt 0).toInt).toNat + 1) (hp_wg 80 (hq_73 S 48 49) 49 (hq_75 (hq_73 S 48 49) i2 (i3 - (Int32.ofInt 1))) v6) (v4) (v5) (v6) ((Int32.ofInt 1)) ((Int32.ofInt 0))).1) v4 (v5 ||| ((Int32.ofInt 1) <<< (v6 &&& 31))) (v6 + (Int32.ofInt 1))) else (if hz_cmp .eq (hq_141_105 i1 i2 i3 (((hp_wg 80 (hq_73 S 48 49) 49 ((Int32.ofInt 6) + (hq_73 S 48 49 48 (Int32.ofInt 2).toNatClampNeg)) v6 57 i1.toNatClampNeg).toInt - (Int32.ofInt 0).toInt).toNat + 1) (hp_wg 80 (hq_73 S 48 49) 49 ((Int32.ofInt 6) + (hq_73 S 48 49 48 (Int32.ofInt 2).toNatClampNeg)) v6) (v4) (v5) (v6) ((Int32.ofInt 1)) ((Int32.ofInt 0))).2 0 = true then hq_141_41 i1 i2 i3 m ((hq_141_105 i1 i2 i3 (((hp_wg 80 (hq_73 S 48 49) 49 ((Int32.ofInt 6) + (hq_73 S 48 49 48 (Int32.ofInt 2).toNatClampNeg)) v6 57 i1.toNatClampNeg).toInt - (Int32.ofInt 0).toInt).toNat + 1) (hp_wg 80 (hq_73 S 48 49) 49 ((Int32.ofInt 6) + (hq_73 S 48 49 48 (Int32.ofInt 2).toNatClampNeg)) v6) (v4) (v5) (v6) ((Int32.ofInt 1)) ((Int32.ofInt 0))).1) v4 (v5 ||| (Int32.ofInt 0)) (v6 + (Int32.ofInt 1)) else hq_141_41 i1 i2 i3 m ((hq_141_105 i1 i2 i3 (((hp_wg 80 (hq_73 S 48 49) 49 ((Int32.ofInt 6) + (hq_73 S 48 49 48 (Int32.ofInt 2).toNatClampNeg)) v6 57 i1.toNatClampNeg).toInt - (Int32.ofInt 0).toInt).toNat + 1) (hp_wg 80 (hq_73 S 48 49) 49 ((Int32.ofInt 6) + (hq_73 S 48 49 48 (Int32.ofInt 2).toNatClampNeg)) v6) (v4) (v5) (v6) ((Int32.ofInt 1)) ((Int32.ofInt 0))).1) v4 (v5 ||| ((Int32.ofInt 1) <<< (v6 &&& 31))) (v6 + (Int32.ofInt 1))))))
def hq_141 (S : hp_S) (i1 : Int32) (i2 : Int32) (i3 : Int32) : Int32 × hp_S := (if hz_cmp .eq (hq_77 S i2) 0 = true then ((Int32.ofInt (-1)), S) else (if hz_cmp .ne (hq_70 S i3 (Int32.ofInt 0) (Int32.ofInt 2)) 0 = true then (if hz_cmp .eq (hq_158 S i1 (Int32.ofInt (-1))) 0 = true then ((hq_141_41 i1 i2 i3 (((10 : Int) - (Int32.ofInt 0).toInt).toNat + 1) S ((hq_158 S i1 (Int32.ofInt (-1)))) ((Int32.ofInt 0)) ((Int32.ofInt 0))).2, (hq_141_41 i1 i2 i3 (((10 : Int) - (Int32.ofInt 0).toInt).toNat + 1) S ((hq_158 S i1 (Int32.ofInt (-1)))) ((Int32.ofInt 0)) ((Int32.ofInt 0))).1) else ((hq_158 S i1 (Int32.ofInt (-1))), S)) else ((Int32.ofInt (-1)), S)))
theorem hf_141_105 {i1 : Int32} {i2 : Int32} {i3 : Int32} (j : Nat) (z0 : j ≠ 49) : ∀ (m : Nat) (S : hp_S) (v4 : Int32) (v5 : Int32) (v6 : Int32) (v7 : Int32) (v8 : Int32), (hq_141_105 i1 i2 i3 m S v4 v5 v6 v7 v8).1 j = S j := by
  intro m
  induction m with
  | zero => intros; rfl
  | succ m ih =>
    intro S v4 v5 v6 v7 v8
    rw [hq_141_105]
    repeat' split
    all_goals simp [ih, hp_wo, hp_wgo, hp_cpo, hf_73, hf_93, z0]
theorem hf_141_41 {i1 : Int32} {i2 : Int32} {i3 : Int32} (j : Nat) (z0 : j ≠ 49) : ∀ (m : Nat) (S : hp_S) (v4 : Int32) (v5 : Int32) (v6 : Int32), (hq_141_41 i1 i2 i3 m S v4 v5 v6).1 j = S j := by
  intro m
  induction m with
  | zero => intros; rfl
  | succ m ih =>
    intro S v4 v5 v6
    rw [hq_141_41]
    repeat' split
    all_goals simp [ih, hp_wo, hp_wgo, hp_cpo, hf_73, hf_93, z0, hf_141_105]
theorem hf_141 (S : hp_S) (i1 : Int32) (i2 : Int32) (i3 : Int32) (j : Nat) (z0 : j ≠ 49) : (hq_141 S i1 i2 i3).2 j = S j := by
  unfold hq_141
  repeat' split
  all_goals simp [hp_wo, hp_wgo, hp_cpo, hf_73, hf_93, z0, hf_141_105, hf_141_41]
set_option maxRecDepth 10000 in
theorem ht_141_105 {α : Type} {φ : α → Option Value × hzMem} {R : α} {X : hp_X} (N : Nat) (i1 : Int32) (i2 : Int32) (i3 : Int32) : ∀ (n : Nat), n ≤ N → ∀ (m : Nat) (S : hp_S) (v4 : Int32) (v5 : Int32) (v6 : Int32) (v7 : Int32) (v8 : Int32) (x9 : Option Value) (Z : hp_S × Int32), ((S 57 i1.toNatClampNeg).toInt - v8.toInt).toNat < m → hq_141_105 i1 i2 i3 m S v4 v5 v6 v7 v8 = Z → (∀ (x9 : Option Value) (x8 : Option Value), hp_T N 141 181 [some (.ref 47), some (.int i1), some (.int i2), some (.int i3), some (.int v4), some (.int v5), some (.int v6), some (.int Z.2), x8, x9] [] (hp_mem X Z.1) φ R) → hp_T n 141 105 [some (.ref 47), some (.int i1), some (.int i2), some (.int i3), some (.int v4), some (.int v5), some (.int v6), some (.int v7), some (.int v8), x9] [] (hp_mem X S) φ R := by
  intro n
  induction n with
  | zero => intros; exact hp_0
  | succ n ih =>
    intro hN m S v4 v5 v6 v7 v8 x9 Z hm hZ kk
    cases m with
    | zero => exact absurd hm (Nat.not_lt_zero _)
    | succ m =>
      rw [hq_141_105] at hZ
      refine hp_sN [107, 108] (pc' := 108) (L' := [some (.ref 47), some (.int i1), some (.int i2), some (.int i3), some (.int v4), some (.int v5), some (.int v6), some (.int v7), some (.int v8), x9]) (st' := [.ref 47, .int v8]) rfl rfl ?_
      refine hp_gf (pc' := 111) rfl (by decide) (hp_c47 X _) rfl rfl ?_
      refine hp_sN [112] (pc' := 112) (L' := [some (.ref 47), some (.int i1), some (.int i2), some (.int i3), some (.int v4), some (.int v5), some (.int v6), some (.int v7), some (.int v8), x9]) (st' := [.int i1, .ref 57, .int v8]) rfl rfl ?_
      refine hp_al (pc' := 113) rfl (by decide) rfl rfl ?_
      refine hp_ic2 (pc' := 116) rfl rfl (fun h1 => ?_) (fun h1 => ?_)
      · rw [if_pos h1] at hZ
        subst hZ
        exact hp_le hN (kk (x9) (some (.int v8)))
      · rw [if_neg (hp_nt h1)] at hZ
        refine hp_sN [117] (pc' := 117) (L' := [some (.ref 47), some (.int i1), some (.int i2), some (.int i3), some (.int v4), some (.int v5), some (.int v6), some (.int v7), some (.int v8), x9]) (st' := [.ref 47]) rfl rfl ?_
        refine hp_gf (pc' := 120) rfl (by decide) (hp_c47 X _) rfl rfl ?_
        refine hp_sN [122, 123, 124, 126, 127] (pc' := 127) (L' := [some (.ref 47), some (.int i1), some (.int i2), some (.int i3), some (.int v4), some (.int v5), some (.int v6), some (.int v7), some (.int v8), x9]) (st' := [.int (((Int32.ofInt 100) * i1) + v8), .ref 58]) rfl rfl ?_
        refine hp_al (pc' := 128) rfl (by decide) rfl rfl ?_
        refine hp_sN [130, 132, 134, 135] (pc' := 135) (L' := [some (.ref 47), some (.int i1), some (.int i2), some (.int i3), some (.int v4), some (.int v5), some (.int v6), some (.int v7), some (.int v8), some (.int (S 58 (((Int32.ofInt 100) * i1) + v8).toNatClampNeg))]) (st' := [.ref 47, .int (S 58 (((Int32.ofInt 100) * i1) + v8).toNatClampNeg), .int v7]) rfl rfl ?_
        refine hp_gf (pc' := 138) rfl (by decide) (hp_c47 X _) rfl rfl ?_
        refine hp_sN [139] (pc' := 139) (L' := [some (.ref 47), some (.int i1), some (.int i2), some (.int i3), some (.int v4), some (.int v5), some (.int v6), some (.int v7), some (.int v8), some (.int (S 58 (((Int32.ofInt 100) * i1) + v8).toNatClampNeg))]) (st' := [.int i1, .ref 56, .int (S 58 (((Int32.ofInt 100) * i1) + v8).toNatClampNeg), .int v7]) rfl rfl ?_
        refine hp_al (pc' := 140) rfl (by decide) rfl rfl ?_
        refine hp_iv (virt := false) (pc' := 143) (rv := some (.int (hq_140 S (S 56 i1.toNatClampNeg)))) (M1 := hp_mem X (S)) rfl rfl (by decide) (hk_140 S ((S 56 i1.toNatClampNeg))) rfl rfl ?_
        show hp_T _ 141 143 _ [.int (hq_140 S (S 56 i1.toNatClampNeg)), .int (S 58 (((Int32.ofInt 100) * i1) + v8).toNatClampNeg), .int v7] _ _ _
        refine hp_ic2 (pc' := 146) rfl rfl (fun h2 => ?_) (fun h2 => ?_)
        · rw [if_pos h2] at hZ
          refine hp_sN [160, 164, 165, 167, 168] (pc' := 168) (L' := [some (.ref 47), some (.int i1), some (.int i2), some (.int i3), some (.int v4), some (.int v5), some (.int v6), some (.int (v7 &&& (Int32.ofInt 1))), some (.int v8), some (.int (S 58 (((Int32.ofInt 100) * i1) + v8).toNatClampNeg))]) (st' := [.ref 47]) rfl rfl ?_
          refine hp_gf (pc' := 171) rfl (by decide) (hp_c47 X _) rfl rfl ?_
          refine hp_sN [172] (pc' := 172) (L' := [some (.ref 47), some (.int i1), some (.int i2), some (.int i3), some (.int v4), some (.int v5), some (.int v6), some (.int (v7 &&& (Int32.ofInt 1))), some (.int v8), some (.int (S 58 (((Int32.ofInt 100) * i1) + v8).toNatClampNeg))]) (st' := [.int (Int32.ofInt 0), .ref 49]) rfl rfl ?_
          refine hp_iv (virt := false) (pc' := 175) (rv := none) (M1 := hp_mem X (hq_93 S 49 (Int32.ofInt 0))) rfl rfl (by decide) (hk_93 (Or.inr (Or.inl rfl)) S ((Int32.ofInt 0))) rfl rfl ?_
          show hp_T _ 141 175 _ [] _ _ _
          refine hp_sB 178 [105] (pc' := 105) (L' := [some (.ref 47), some (.int i1), some (.int i2), some (.int i3), some (.int v4), some (.int v5), some (.int v6), some (.int (v7 &&& (Int32.ofInt 1))), some (.int (v8 + (Int32.ofInt 1))), some (.int (S 58 (((Int32.ofInt 100) * i1) + v8).toNatClampNeg))]) (st' := []) rfl rfl ?_
          exact ih (Nat.le_trans (Nat.le_succ n) hN) m (hq_93 S 49 (Int32.ofInt 0)) (v4) (v5) (v6) ((v7 &&& (Int32.ofInt 1))) ((v8 + (Int32.ofInt 1))) (some (.int (S 58 (((Int32.ofInt 100) * i1) + v8).toNatClampNeg))) Z (by rw [show ((hq_93 S 49 (Int32.ofInt 0)) 57 i1.toNatClampNeg) = (S 57 i1.toNatClampNeg) from by simp (disch := omega) [hp_wo, hp_wgo, hp_cpo, hf_73, hf_93]]; exact (hp_up h1 hm)) hZ kk
        · rw [if_neg (hp_nt h2)] at hZ
          refine hp_sN [148, 149] (pc' := 149) (L' := [some (.ref 47), some (.int i1), some (.int i2), some (.int i3), some (.int v4), some (.int v5), some (.int v6), some (.int v7), some (.int v8), some (.int (S 58 (((Int32.ofInt 100) * i1) + v8).toNatClampNeg))]) (st' := [.ref 47, .int (S 58 (((Int32.ofInt 100) * i1) + v8).toNatClampNeg), .int v7]) rfl rfl ?_
          refine hp_gf (pc' := 152) rfl (by decide) (hp_c47 X _) rfl rfl ?_
          refine hp_sN [153] (pc' := 153) (L' := [some (.ref 47), some (.int i1), some (.int i2), some (.int i3), some (.int v4), some (.int v5), some (.int v6), some (.int v7), some (.int v8), some (.int (S 58 (((Int32.ofInt 100) * i1) + v8).toNatClampNeg))]) (st' := [.int i2, .ref 49, .int (S 58 (((Int32.ofInt 100) * i1) + v8).toNatClampNeg), .int v7]) rfl rfl ?_
          refine hp_iv (virt := false) (pc' := 156) (rv := some (.int (hq_87 S 49 i2))) (M1 := hp_mem X (S)) rfl rfl (by decide) (hk_87 (Or.inr (Or.inl rfl)) S (i2)) rfl rfl ?_
          show hp_T _ 141 156 _ [.int (hq_87 S 49 i2), .int (S 58 (((Int32.ofInt 100) * i1) + v8).toNatClampNeg), .int v7] _ _ _
          refine hp_ic2 (pc' := 159) rfl rfl (fun h3 => ?_) (fun h3 => ?_)
          · rw [if_pos h3] at hZ
            refine hp_sN [164, 165, 167, 168] (pc' := 168) (L' := [some (.ref 47), some (.int i1), some (.int i2), some (.int i3), some (.int v4), some (.int v5), some (.int v6), some (.int (v7 &&& (Int32.ofInt 0))), some (.int v8), some (.int (S 58 (((Int32.ofInt 100) * i1) + v8).toNatClampNeg))]) (st' := [.ref 47]) rfl rfl ?_
            refine hp_gf (pc' := 171) rfl (by decide) (hp_c47 X _) rfl rfl ?_
            refine hp_sN [172] (pc' := 172) (L' := [some (.ref 47), some (.int i1), some (.int i2), some (.int i3), some (.int v4), some (.int v5), some (.int v6), some (.int (v7 &&& (Int32.ofInt 0))), some (.int v8), some (.int (S 58 (((Int32.ofInt 100) * i1) + v8).toNatClampNeg))]) (st' := [.int (Int32.ofInt 0), .ref 49]) rfl rfl ?_
            refine hp_iv (virt := false) (pc' := 175) (rv := none) (M1 := hp_mem X (hq_93 S 49 (Int32.ofInt 0))) rfl rfl (by decide) (hk_93 (Or.inr (Or.inl rfl)) S ((Int32.ofInt 0))) rfl rfl ?_
            show hp_T _ 141 175 _ [] _ _ _
            refine hp_sB 178 [105] (pc' := 105) (L' := [some (.ref 47), some (.int i1), some (.int i2), some (.int i3), some (.int v4), some (.int v5), some (.int v6), some (.int (v7 &&& (Int32.ofInt 0))), some (.int (v8 + (Int32.ofInt 1))), some (.int (S 58 (((Int32.ofInt 100) * i1) + v8).toNatClampNeg))]) (st' := []) rfl rfl ?_
            exact ih (Nat.le_trans (Nat.le_succ n) hN) m (hq_93 S 49 (Int32.ofInt 0)) (v4) (v5) (v6) ((v7 &&& (Int32.ofInt 0))) ((v8 + (Int32.ofInt 1))) (some (.int (S 58 (((Int32.ofInt 100) * i1) + v8).toNatClampNeg))) Z (by rw [show ((hq_93 S 49 (Int32.ofInt 0)) 57 i1.toNatClampNeg) = (S 57 i1.toNatClampNeg) from by simp (disch := omega) [hp_wo, hp_wgo, hp_cpo, hf_73, hf_93]]; exact (hp_up h1 hm)) hZ kk
          · rw [if_neg (hp_nt h3)] at hZ
            refine hp_sN [160, 164, 165, 167, 168] (pc' := 168) (L' := [some (.ref 47), some (.int i1), some (.int i2), some (.int i3), some (.int v4), some (.int v5), some (.int v6), some (.int (v7 &&& (Int32.ofInt 1))), some (.int v8), some (.int (S 58 (((Int32.ofInt 100) * i1) + v8).toNatClampNeg))]) (st' := [.ref 47]) rfl rfl ?_
            refine hp_gf (pc' := 171) rfl (by decide) (hp_c47 X _) rfl rfl ?_
            refine hp_sN [172] (pc' := 172) (L' := [some (.ref 47), some (.int i1), some (.int i2), some (.int i3), some (.int v4), some (.int v5), some (.int v6), some (.int (v7 &&& (Int32.ofInt 1))), some (.int v8), some (.int (S 58 (((Int32.ofInt 100) * i1) + v8).toNatClampNeg))]) (st' := [.int (Int32.ofInt 0), .ref 49]) rfl rfl ?_
            refine hp_iv (virt := false) (pc' := 175) (rv := none) (M1 := hp_mem X (hq_93 S 49 (Int32.ofInt 0))) rfl rfl (by decide) (hk_93 (Or.inr (Or.inl rfl)) S ((Int32.ofInt 0))) rfl rfl ?_
            show hp_T _ 141 175 _ [] _ _ _
            refine hp_sB 178 [105] (pc' := 105) (L' := [some (.ref 47), some (.int i1), some (.int i2), some (.int i3), some (.int v4), some (.int v5), some (.int v6), some (.int (v7 &&& (Int32.ofInt 1))), some (.int (v8 + (Int32.ofInt 1))), some (.int (S 58 (((Int32.ofInt 100) * i1) + v8).toNatClampNeg))]) (st' := []) rfl rfl ?_
            exact ih (Nat.le_trans (Nat.le_succ n) hN) m (hq_93 S 49 (Int32.ofInt 0)) (v4) (v5) (v6) ((v7 &&& (Int32.ofInt 1))) ((v8 + (Int32.ofInt 1))) (some (.int (S 58 (((Int32.ofInt 100) * i1) + v8).toNatClampNeg))) Z (by rw [show ((hq_93 S 49 (Int32.ofInt 0)) 57 i1.toNatClampNeg) = (S 57 i1.toNatClampNeg) from by simp (disch := omega) [hp_wo, hp_wgo, hp_cpo, hf_73, hf_93]]; exact (hp_up h1 hm)) hZ kk
set_option maxRecDepth 10000 in
theorem ht_141_41 {α : Type} {φ : α → Option Value × hzMem} {R : α} {X : hp_X} (N : Nat) (i1 : Int32) (i2 : Int32) (i3 : Int32) : ∀ (n : Nat), n ≤ N → ∀ (m : Nat) (S : hp_S) (v4 : Int32) (v5 : Int32) (v6 : Int32) (x7 : Option Value) (x8 : Option Value) (x9 : Option Value) (Z : hp_S × Int32), ((10 : Int) - v6.toInt).toNat < m → hq_141_41 i1 i2 i3 m S v4 v5 v6 = Z → (∀ (x7 : Option Value) (x8 : Option Value) (x9 : Option Value) (x6 : Option Value), hp_T N 141 205 [some (.ref 47), some (.int i1), some (.int i2), some (.int i3), some (.int v4), some (.int Z.2), x6, x7, x8, x9] [] (hp_mem X Z.1) φ R) → hp_T n 141 41 [some (.ref 47), some (.int i1), some (.int i2), some (.int i3), some (.int v4), some (.int v5), some (.int v6), x7, x8, x9] [] (hp_mem X S) φ R := by
  intro n
  induction n with
  | zero => intros; exact hp_0
  | succ n ih =>
    intro hN m S v4 v5 v6 x7 x8 x9 Z hm hZ kk
    cases m with
    | zero => exact absurd hm (Nat.not_lt_zero _)
    | succ m =>
      rw [hq_141_41] at hZ
      refine hp_sN [43, 44, 45] (pc' := 45) (L' := [some (.ref 47), some (.int i1), some (.int i2), some (.int i3), some (.int v4), some (.int v5), some (.int v6), x7, x8, x9]) (st' := [.int (Int32.ofInt 1), .int i3, .int v6]) rfl rfl ?_
      refine hp_ic2 (pc' := 48) rfl rfl (fun h1 => ?_) (fun h1 => ?_)
      · rw [if_pos h1] at hZ
        refine hp_sN [55] (pc' := 55) (L' := [some (.ref 47), some (.int i1), some (.int i2), some (.int i3), some (.int v4), some (.int v5), some (.int v6), x7, x8, x9]) (st' := [.int (Int32.ofInt 10), .int v6]) rfl rfl ?_
        refine hp_ic2 (pc' := 58) rfl rfl (fun h2 => ?_) (fun h2 => ?_)
        · rw [if_pos h2] at hZ
          subst hZ
          exact hp_le hN (kk (x7) (x8) (x9) (some (.int v6)))
        · rw [if_neg (hp_nt h2)] at hZ
          refine hp_sN [59, 61, 62] (pc' := 62) (L' := [some (.ref 47), some (.int i1), some (.int i2), some (.int i3), some (.int v4), some (.int v5), some (.int v6), some (.int (Int32.ofInt 1)), x8, x9]) (st' := [.ref 47]) rfl rfl ?_
          refine hp_gf (pc' := 65) rfl (by decide) (hp_c47 X _) rfl rfl ?_
          refine hp_sN [66] (pc' := 66) (L' := [some (.ref 47), some (.int i1), some (.int i2), some (.int i3), some (.int v4), some (.int v5), some (.int v6), some (.int (Int32.ofInt 1)), x8, x9]) (st' := [.ref 47, .ref 48]) rfl rfl ?_
          refine hp_gf (pc' := 69) rfl (by decide) (hp_c47 X _) rfl rfl ?_
          refine hp_iv (virt := false) (pc' := 72) (rv := none) (M1 := hp_mem X (hq_73 S 48 49)) rfl rfl (by decide) (hk_73 (Or.inl rfl) (Or.inr (Or.inl rfl)) S) rfl rfl ?_
          show hp_T _ 141 72 _ [] _ _ _
          refine hp_sN [73] (pc' := 73) (L' := [some (.ref 47), some (.int i1), some (.int i2), some (.int i3), some (.int v4), some (.int v5), some (.int v6), some (.int (Int32.ofInt 1)), x8, x9]) (st' := [.ref 47]) rfl rfl ?_
          refine hp_gf (pc' := 76) rfl (by decide) (hp_c47 X _) rfl rfl ?_
          refine hp_sN [77] (pc' := 77) (L' := [some (.ref 47), some (.int i1), some (.int i2), some (.int i3), some (.int v4), some (.int v5), some (.int v6), some (.int (Int32.ofInt 1)), x8, x9]) (st' := [.int i3, .ref 49]) rfl rfl ?_
          refine hp_if2 (pc' := 80) rfl rfl (fun h3 => ?_) (fun h3 => ?_)
          · rw [if_pos h3] at hZ
            refine hp_sN [93, 94, 95, 96] (pc' := 96) (L' := [some (.ref 47), some (.int i1), some (.int i2), some (.int i3), some (.int v4), some (.int v5), some (.int v6), some (.int (Int32.ofInt 1)), x8, x9]) (st' := [.int (i3 - (Int32.ofInt 1)), .int i2, .ref 49]) rfl rfl ?_
            refine hp_iv (virt := false) (pc' := 99) (rv := some (.int (hq_75 (hq_73 S 48 49) i2 (i3 - (Int32.ofInt 1))))) (M1 := hp_mem X (hq_73 S 48 49)) rfl rfl (by decide) (hk_75 (hq_73 S 48 49) (i2) ((i3 - (Int32.ofInt 1)))) rfl rfl ?_
            show hp_T _ 141 99 _ [.int (hq_75 (hq_73 S 48 49) i2 (i3 - (Int32.ofInt 1))), .ref 49] _ _ _
            refine hp_sN [101] (pc' := 101) (L' := [some (.ref 47), some (.int i1), some (.int i2), some (.int i3), some (.int v4), some (.int v5), some (.int v6), some (.int (Int32.ofInt 1)), x8, x9]) (st' := [.int v6, .int (hq_75 (hq_73 S 48 49) i2 (i3 - (Int32.ofInt 1))), .ref 49]) rfl rfl ?_
            refine hp_asg (pc' := 102) rfl (hp_cl (Or.inr (Or.inl rfl))) (fun _ => (hp_cc (Or.inr (Or.inl rfl)) X _)) rfl ?_
            refine hp_sN [103, 105] (pc' := 105) (L' := [some (.ref 47), some (.int i1), some (.int i2), some (.int i3), some (.int v4), some (.int v5), some (.int v6), some (.int (Int32.ofInt 1)), some (.int (Int32.ofInt 0)), x9]) (st' := []) rfl rfl ?_
            refine ht_141_105 (n + 1) i1 i2 i3  (n + 1) (Nat.le_refl _) (((hp_wg 80 (hq_73 S 48 49) 49 (hq_75 (hq_73 S 48 49) i2 (i3 - (Int32.ofInt 1))) v6 57 i1.toNatClampNeg).toInt - (Int32.ofInt 0).toInt).toNat + 1) (hp_wg 80 (hq_73 S 48 49) 49 (hq_75 (hq_73 S 48 49) i2 (i3 - (Int32.ofInt 1))) v6) (v4) (v5) (v6) ((Int32.ofInt 1)) ((Int32.ofInt 0)) (x9) _ (Nat.lt_succ_self _) rfl (fun x9_105 x8_105 => ?_)
            show hp_T _ 141 181 [some (.ref 47), some (.int i1), some (.int i2), some (.int i3), some (.int v4), some (.int v5), some (.int v6), some (.int (hq_141_105 i1 i2 i3 (((hp_wg 80 (hq_73 S 48 49) 49 (hq_75 (hq_73 S 48 49) i2 (i3 - (Int32.ofInt 1))) v6 57 i1.toNatClampNeg).toInt - (Int32.ofInt 0).toInt).toNat + 1) (hp_wg 80 (hq_73 S 48 49) 49 (hq_75 (hq_73 S 48 49) i2 (i3 - (Int32.ofInt 1))) v6) (v4) (v5) (v6) ((Int32.ofInt 1)) ((Int32.ofInt 0))).2), x8_105, x9_105] _ (hp_mem X ((hq_141_105 i1 i2 i3 (((hp_wg 80 (hq_73 S 48 49) 49 (hq_75 (hq_73 S 48 49) i2 (i3 - (Int32.ofInt 1))) v6 57 i1.toNatClampNeg).toInt - (Int32.ofInt 0).toInt).toNat + 1) (hp_wg 80 (hq_73 S 48 49) 49 (hq_75 (hq_73 S 48 49) i2 (i3 - (Int32.ofInt 1))) v6) (v4) (v5) (v6) ((Int32.ofInt 1)) ((Int32.ofInt 0))).1)) _ _
            refine hp_sN [183, 185] (pc' := 185) (L' := [some (.ref 47), some (.int i1), some (.int i2), some (.int i3), some (.int v4), some (.int v5), some (.int v6), some (.int (hq_141_105 i1 i2 i3 (((hp_wg 80 (hq_73 S 48 49) 49 (hq_75 (hq_73 S 48 49) i2 (i3 - (Int32.ofInt 1))) v6 57 i1.toNatClampNeg).toInt - (Int32.ofInt 0).toInt).toNat + 1) (hp_wg 80 (hq_73 S 48 49) 49 (hq_75 (hq_73 S 48 49) i2 (i3 - (Int32.ofInt 1))) v6) (v4) (v5) (v6) ((Int32.ofInt 1)) ((Int32.ofInt 0))).2), x8_105, x9_105]) (st' := [.int (hq_141_105 i1 i2 i3 (((hp_wg 80 (hq_73 S 48 49) 49 (hq_75 (hq_73 S 48 49) i2 (i3 - (Int32.ofInt 1))) v6 57 i1.toNatClampNeg).toInt - (Int32.ofInt 0).toInt).toNat + 1) (hp_wg 80 (hq_73 S 48 49) 49 (hq_75 (hq_73 S 48 49) i2 (i3 - (Int32.ofInt 1))) v6) (v4) (v5) (v6) ((Int32.ofInt 1)) ((Int32.ofInt 0))).2, .int v5]) rfl rfl ?_
            refine hp_if2 (pc' := 188) rfl rfl (fun h4 => ?_) (fun h4 => ?_)
            · rw [if_pos h4] at hZ
              refine hp_sB 196 [197, 199, 202, 41] (pc' := 41) (L' := [some (.ref 47), some (.int i1), some (.int i2), some (.int i3), some (.int v4), some (.int (v5 ||| (Int32.ofInt 0))), some (.int (v6 + (Int32.ofInt 1))), some (.int (hq_141_105 i1 i2 i3 (((hp_wg 80 (hq_73 S 48 49) 49 (hq_75 (hq_73 S 48 49) i2 (i3 - (Int32.ofInt 1))) v6 57 i1.toNatClampNeg).toInt - (Int32.ofInt 0).toInt).toNat + 1) (hp_wg 80 (hq_73 S 48 49) 49 (hq_75 (hq_73 S 48 49) i2 (i3 - (Int32.ofInt 1))) v6) (v4) (v5) (v6) ((Int32.ofInt 1)) ((Int32.ofInt 0))).2), x8_105, x9_105]) (st' := []) rfl rfl ?_
              exact ih (Nat.le_trans (Nat.le_succ n) hN) m ((hq_141_105 i1 i2 i3 (((hp_wg 80 (hq_73 S 48 49) 49 (hq_75 (hq_73 S 48 49) i2 (i3 - (Int32.ofInt 1))) v6 57 i1.toNatClampNeg).toInt - (Int32.ofInt 0).toInt).toNat + 1) (hp_wg 80 (hq_73 S 48 49) 49 (hq_75 (hq_73 S 48 49) i2 (i3 - (Int32.ofInt 1))) v6) (v4) (v5) (v6) ((Int32.ofInt 1)) ((Int32.ofInt 0))).1) (v4) ((v5 ||| (Int32.ofInt 0))) ((v6 + (Int32.ofInt 1))) (some (.int (hq_141_105 i1 i2 i3 (((hp_wg 80 (hq_73 S 48 49) 49 (hq_75 (hq_73 S 48 49) i2 (i3 - (Int32.ofInt 1))) v6 57 i1.toNatClampNeg).toInt - (Int32.ofInt 0).toInt).toNat + 1) (hp_wg 80 (hq_73 S 48 49) 49 (hq_75 (hq_73 S 48 49) i2 (i3 - (Int32.ofInt 1))) v6) (v4) (v5) (v6) ((Int32.ofInt 1)) ((Int32.ofInt 0))).2)) (x8_105) (x9_105) Z (hp_up3 (B := 10) h2 (by decide) hm) hZ kk
            · rw [if_neg (hp_nt h4)] at hZ
              refine hp_sB 189 [191, 192, 196, 197, 199, 202, 41] (pc' := 41) (L' := [some (.ref 47), some (.int i1), some (.int i2), some (.int i3), some (.int v4), some (.int (v5 ||| ((Int32.ofInt 1) <<< (v6 &&& 31)))), some (.int (v6 + (Int32.ofInt 1))), some (.int (hq_141_105 i1 i2 i3 (((hp_wg 80 (hq_73 S 48 49) 49 (hq_75 (hq_73 S 48 49) i2 (i3 - (Int32.ofInt 1))) v6 57 i1.toNatClampNeg).toInt - (Int32.ofInt 0).toInt).toNat + 1) (hp_wg 80 (hq_73 S 48 49) 49 (hq_75 (hq_73 S 48 49) i2 (i3 - (Int32.ofInt 1))) v6) (v4) (v5) (v6) ((Int32.ofInt 1)) ((Int32.ofInt 0))).2), x8_105, x9_105]) (st' := []) rfl rfl ?_
              exact ih (Nat.le_trans (Nat.le_succ n) hN) m ((hq_141_105 i1 i2 i3 (((hp_wg 80 (hq_73 S 48 49) 49 (hq_75 (hq_73 S 48 49) i2 (i3 - (Int32.ofInt 1))) v6 57 i1.toNatClampNeg).toInt - (Int32.ofInt 0).toInt).toNat + 1) (hp_wg 80 (hq_73 S 48 49) 49 (hq_75 (hq_73 S 48 49) i2 (i3 - (Int32.ofInt 1))) v6) (v4) (v5) (v6) ((Int32.ofInt 1)) ((Int32.ofInt 0))).1) (v4) ((v5 ||| ((Int32.ofInt 1) <<< (v6 &&& 31)))) ((v6 + (Int32.ofInt 1))) (some (.int (hq_141_105 i1 i2 i3 (((hp_wg 80 (hq_73 S 48 49) 49 (hq_75 (hq_73 S 48 49) i2 (i3 - (Int32.ofInt 1))) v6 57 i1.toNatClampNeg).toInt - (Int32.ofInt 0).toInt).toNat + 1) (hp_wg 80 (hq_73 S 48 49) 49 (hq_75 (hq_73 S 48 49) i2 (i3 - (Int32.ofInt 1))) v6) (v4) (v5) (v6) ((Int32.ofInt 1)) ((Int32.ofInt 0))).2)) (x8_105) (x9_105) Z (hp_up3 (B := 10) h2 (by decide) hm) hZ kk
          · rw [if_neg (hp_nt h3)] at hZ
            refine hp_sN [82, 83] (pc' := 83) (L' := [some (.ref 47), some (.int i1), some (.int i2), some (.int i3), some (.int v4), some (.int v5), some (.int v6), some (.int (Int32.ofInt 1)), x8, x9]) (st' := [.ref 47, .int (Int32.ofInt 6), .ref 49]) rfl rfl ?_
            refine hp_gf (pc' := 86) rfl (by decide) (hp_c47 X _) rfl rfl ?_
            refine hp_sN [87] (pc' := 87) (L' := [some (.ref 47), some (.int i1), some (.int i2), some (.int i3), some (.int v4), some (.int v5), some (.int v6), some (.int (Int32.ofInt 1)), x8, x9]) (st' := [.int (Int32.ofInt 2), .ref 48, .int (Int32.ofInt 6), .ref 49]) rfl rfl ?_
            refine hp_al (pc' := 88) rfl (hp_cl (Or.inl rfl)) (hp_cc (Or.inl rfl) X _) rfl ?_
            refine hp_sN [89, 99, 101] (pc' := 101) (L' := [some (.ref 47), some (.int i1), some (.int i2), some (.int i3), some (.int v4), some (.int v5), some (.int v6), some (.int (Int32.ofInt 1)), x8, x9]) (st' := [.int v6, .int ((Int32.ofInt 6) + (hq_73 S 48 49 48 (Int32.ofInt 2).toNatClampNeg)), .ref 49]) rfl rfl ?_
            refine hp_asg (pc' := 102) rfl (hp_cl (Or.inr (Or.inl rfl))) (fun _ => (hp_cc (Or.inr (Or.inl rfl)) X _)) rfl ?_
            refine hp_sN [103, 105] (pc' := 105) (L' := [some (.ref 47), some (.int i1), some (.int i2), some (.int i3), some (.int v4), some (.int v5), some (.int v6), some (.int (Int32.ofInt 1)), some (.int (Int32.ofInt 0)), x9]) (st' := []) rfl rfl ?_
            refine ht_141_105 (n + 1) i1 i2 i3  (n + 1) (Nat.le_refl _) (((hp_wg 80 (hq_73 S 48 49) 49 ((Int32.ofInt 6) + (hq_73 S 48 49 48 (Int32.ofInt 2).toNatClampNeg)) v6 57 i1.toNatClampNeg).toInt - (Int32.ofInt 0).toInt).toNat + 1) (hp_wg 80 (hq_73 S 48 49) 49 ((Int32.ofInt 6) + (hq_73 S 48 49 48 (Int32.ofInt 2).toNatClampNeg)) v6) (v4) (v5) (v6) ((Int32.ofInt 1)) ((Int32.ofInt 0)) (x9) _ (Nat.lt_succ_self _) rfl (fun x9_105 x8_105 => ?_)
            show hp_T _ 141 181 [some (.ref 47), some (.int i1), some (.int i2), some (.int i3), some (.int v4), some (.int v5), some (.int v6), some (.int (hq_141_105 i1 i2 i3 (((hp_wg 80 (hq_73 S 48 49) 49 ((Int32.ofInt 6) + (hq_73 S 48 49 48 (Int32.ofInt 2).toNatClampNeg)) v6 57 i1.toNatClampNeg).toInt - (Int32.ofInt 0).toInt).toNat + 1) (hp_wg 80 (hq_73 S 48 49) 49 ((Int32.ofInt 6) + (hq_73 S 48 49 48 (Int32.ofInt 2).toNatClampNeg)) v6) (v4) (v5) (v6) ((Int32.ofInt 1)) ((Int32.ofInt 0))).2), x8_105, x9_105] _ (hp_mem X ((hq_141_105 i1 i2 i3 (((hp_wg 80 (hq_73 S 48 49) 49 ((Int32.ofInt 6) + (hq_73 S 48 49 48 (Int32.ofInt 2).toNatClampNeg)) v6 57 i1.toNatClampNeg).toInt - (Int32.ofInt 0).toInt).toNat + 1) (hp_wg 80 (hq_73 S 48 49) 49 ((Int32.ofInt 6) + (hq_73 S 48 49 48 (Int32.ofInt 2).toNatClampNeg)) v6) (v4) (v5) (v6) ((Int32.ofInt 1)) ((Int32.ofInt 0))).1)) _ _
            refine hp_sN [183, 185] (pc' := 185) (L' := [some (.ref 47), some (.int i1), some (.int i2), some (.int i3), some (.int v4), some (.int v5), some (.int v6), some (.int (hq_141_105 i1 i2 i3 (((hp_wg 80 (hq_73 S 48 49) 49 ((Int32.ofInt 6) + (hq_73 S 48 49 48 (Int32.ofInt 2).toNatClampNeg)) v6 57 i1.toNatClampNeg).toInt - (Int32.ofInt 0).toInt).toNat + 1) (hp_wg 80 (hq_73 S 48 49) 49 ((Int32.ofInt 6) + (hq_73 S 48 49 48 (Int32.ofInt 2).toNatClampNeg)) v6) (v4) (v5) (v6) ((Int32.ofInt 1)) ((Int32.ofInt 0))).2), x8_105, x9_105]) (st' := [.int (hq_141_105 i1 i2 i3 (((hp_wg 80 (hq_73 S 48 49) 49 ((Int32.ofInt 6) + (hq_73 S 48 49 48 (Int32.ofInt 2).toNatClampNeg)) v6 57 i1.toNatClampNeg).toInt - (Int32.ofInt 0).toInt).toNat + 1) (hp_wg 80 (hq_73 S 48 49) 49 ((Int32.ofInt 6) + (hq_73 S 48 49 48 (Int32.ofInt 2).toNatClampNeg)) v6) (v4) (v5) (v6) ((Int32.ofInt 1)) ((Int32.ofInt 0))).2, .int v5]) rfl rfl ?_
            refine hp_if2 (pc' := 188) rfl rfl (fun h5 => ?_) (fun h5 => ?_)
            · rw [if_pos h5] at hZ
              refine hp_sB 196 [197, 199, 202, 41] (pc' := 41) (L' := [some (.ref 47), some (.int i1), some (.int i2), some (.int i3), some (.int v4), some (.int (v5 ||| (Int32.ofInt 0))), some (.int (v6 + (Int32.ofInt 1))), some (.int (hq_141_105 i1 i2 i3 (((hp_wg 80 (hq_73 S 48 49) 49 ((Int32.ofInt 6) + (hq_73 S 48 49 48 (Int32.ofInt 2).toNatClampNeg)) v6 57 i1.toNatClampNeg).toInt - (Int32.ofInt 0).toInt).toNat + 1) (hp_wg 80 (hq_73 S 48 49) 49 ((Int32.ofInt 6) + (hq_73 S 48 49 48 (Int32.ofInt 2).toNatClampNeg)) v6) (v4) (v5) (v6) ((Int32.ofInt 1)) ((Int32.ofInt 0))).2), x8_105, x9_105]) (st' := []) rfl rfl ?_
              exact ih (Nat.le_trans (Nat.le_succ n) hN) m ((hq_141_105 i1 i2 i3 (((hp_wg 80 (hq_73 S 48 49) 49 ((Int32.ofInt 6) + (hq_73 S 48 49 48 (Int32.ofInt 2).toNatClampNeg)) v6 57 i1.toNatClampNeg).toInt - (Int32.ofInt 0).toInt).toNat + 1) (hp_wg 80 (hq_73 S 48 49) 49 ((Int32.ofInt 6) + (hq_73 S 48 49 48 (Int32.ofInt 2).toNatClampNeg)) v6) (v4) (v5) (v6) ((Int32.ofInt 1)) ((Int32.ofInt 0))).1) (v4) ((v5 ||| (Int32.ofInt 0))) ((v6 + (Int32.ofInt 1))) (some (.int (hq_141_105 i1 i2 i3 (((hp_wg 80 (hq_73 S 48 49) 49 ((Int32.ofInt 6) + (hq_73 S 48 49 48 (Int32.ofInt 2).toNatClampNeg)) v6 57 i1.toNatClampNeg).toInt - (Int32.ofInt 0).toInt).toNat + 1) (hp_wg 80 (hq_73 S 48 49) 49 ((Int32.ofInt 6) + (hq_73 S 48 49 48 (Int32.ofInt 2).toNatClampNeg)) v6) (v4) (v5) (v6) ((Int32.ofInt 1)) ((Int32.ofInt 0))).2)) (x8_105) (x9_105) Z (hp_up3 (B := 10) h2 (by decide) hm) hZ kk
            · rw [if_neg (hp_nt h5)] at hZ
              refine hp_sB 189 [191, 192, 196, 197, 199, 202, 41] (pc' := 41) (L' := [some (.ref 47), some (.int i1), some (.int i2), some (.int i3), some (.int v4), some (.int (v5 ||| ((Int32.ofInt 1) <<< (v6 &&& 31)))), some (.int (v6 + (Int32.ofInt 1))), some (.int (hq_141_105 i1 i2 i3 (((hp_wg 80 (hq_73 S 48 49) 49 ((Int32.ofInt 6) + (hq_73 S 48 49 48 (Int32.ofInt 2).toNatClampNeg)) v6 57 i1.toNatClampNeg).toInt - (Int32.ofInt 0).toInt).toNat + 1) (hp_wg 80 (hq_73 S 48 49) 49 ((Int32.ofInt 6) + (hq_73 S 48 49 48 (Int32.ofInt 2).toNatClampNeg)) v6) (v4) (v5) (v6) ((Int32.ofInt 1)) ((Int32.ofInt 0))).2), x8_105, x9_105]) (st' := []) rfl rfl ?_
              exact ih (Nat.le_trans (Nat.le_succ n) hN) m ((hq_141_105 i1 i2 i3 (((hp_wg 80 (hq_73 S 48 49) 49 ((Int32.ofInt 6) + (hq_73 S 48 49 48 (Int32.ofInt 2).toNatClampNeg)) v6 57 i1.toNatClampNeg).toInt - (Int32.ofInt 0).toInt).toNat + 1) (hp_wg 80 (hq_73 S 48 49) 49 ((Int32.ofInt 6) + (hq_73 S 48 49 48 (Int32.ofInt 2).toNatClampNeg)) v6) (v4) (v5) (v6) ((Int32.ofInt 1)) ((Int32.ofInt 0))).1) (v4) ((v5 ||| ((Int32.ofInt 1) <<< (v6 &&& 31)))) ((v6 + (Int32.ofInt 1))) (some (.int (hq_141_105 i1 i2 i3 (((hp_wg 80 (hq_73 S 48 49) 49 ((Int32.ofInt 6) + (hq_73 S 48 49 48 (Int32.ofInt 2).toNatClampNeg)) v6 57 i1.toNatClampNeg).toInt - (Int32.ofInt 0).toInt).toNat + 1) (hp_wg 80 (hq_73 S 48 49) 49 ((Int32.ofInt 6) + (hq_73 S 48 49 48 (Int32.ofInt 2).toNatClampNeg)) v6) (v4) (v5) (v6) ((Int32.ofInt 1)) ((Int32.ofInt 0))).2)) (x8_105) (x9_105) Z (hp_up3 (B := 10) h2 (by decide) hm) hZ kk
      · rw [if_neg (hp_nt h1)] at hZ
        refine hp_sN [50, 55] (pc' := 55) (L' := [some (.ref 47), some (.int i1), some (.int i2), some (.int i3), some (.int v4), some (.int v5), some (.int v6), x7, x8, x9]) (st' := [.int (Int32.ofInt 8), .int v6]) rfl rfl ?_
        refine hp_ic2 (pc' := 58) rfl rfl (fun h6 => ?_) (fun h6 => ?_)
        · rw [if_pos h6] at hZ
          subst hZ
          exact hp_le hN (kk (x7) (x8) (x9) (some (.int v6)))
        · rw [if_neg (hp_nt h6)] at hZ
          refine hp_sN [59, 61, 62] (pc' := 62) (L' := [some (.ref 47), some (.int i1), some (.int i2), some (.int i3), some (.int v4), some (.int v5), some (.int v6), some (.int (Int32.ofInt 1)), x8, x9]) (st' := [.ref 47]) rfl rfl ?_
          refine hp_gf (pc' := 65) rfl (by decide) (hp_c47 X _) rfl rfl ?_
          refine hp_sN [66] (pc' := 66) (L' := [some (.ref 47), some (.int i1), some (.int i2), some (.int i3), some (.int v4), some (.int v5), some (.int v6), some (.int (Int32.ofInt 1)), x8, x9]) (st' := [.ref 47, .ref 48]) rfl rfl ?_
          refine hp_gf (pc' := 69) rfl (by decide) (hp_c47 X _) rfl rfl ?_
          refine hp_iv (virt := false) (pc' := 72) (rv := none) (M1 := hp_mem X (hq_73 S 48 49)) rfl rfl (by decide) (hk_73 (Or.inl rfl) (Or.inr (Or.inl rfl)) S) rfl rfl ?_
          show hp_T _ 141 72 _ [] _ _ _
          refine hp_sN [73] (pc' := 73) (L' := [some (.ref 47), some (.int i1), some (.int i2), some (.int i3), some (.int v4), some (.int v5), some (.int v6), some (.int (Int32.ofInt 1)), x8, x9]) (st' := [.ref 47]) rfl rfl ?_
          refine hp_gf (pc' := 76) rfl (by decide) (hp_c47 X _) rfl rfl ?_
          refine hp_sN [77] (pc' := 77) (L' := [some (.ref 47), some (.int i1), some (.int i2), some (.int i3), some (.int v4), some (.int v5), some (.int v6), some (.int (Int32.ofInt 1)), x8, x9]) (st' := [.int i3, .ref 49]) rfl rfl ?_
          refine hp_if2 (pc' := 80) rfl rfl (fun h7 => ?_) (fun h7 => ?_)
          · rw [if_pos h7] at hZ
            refine hp_sN [93, 94, 95, 96] (pc' := 96) (L' := [some (.ref 47), some (.int i1), some (.int i2), some (.int i3), some (.int v4), some (.int v5), some (.int v6), some (.int (Int32.ofInt 1)), x8, x9]) (st' := [.int (i3 - (Int32.ofInt 1)), .int i2, .ref 49]) rfl rfl ?_
            refine hp_iv (virt := false) (pc' := 99) (rv := some (.int (hq_75 (hq_73 S 48 49) i2 (i3 - (Int32.ofInt 1))))) (M1 := hp_mem X (hq_73 S 48 49)) rfl rfl (by decide) (hk_75 (hq_73 S 48 49) (i2) ((i3 - (Int32.ofInt 1)))) rfl rfl ?_
            show hp_T _ 141 99 _ [.int (hq_75 (hq_73 S 48 49) i2 (i3 - (Int32.ofInt 1))), .ref 49] _ _ _
            refine hp_sN [101] (pc' := 101) (L' := [some (.ref 47), some (.int i1), some (.int i2), some (.int i3), some (.int v4), some (.int v5), some (.int v6), some (.int (Int32.ofInt 1)), x8, x9]) (st' := [.int v6, .int (hq_75 (hq_73 S 48 49) i2 (i3 - (Int32.ofInt 1))), .ref 49]) rfl rfl ?_
            refine hp_asg (pc' := 102) rfl (hp_cl (Or.inr (Or.inl rfl))) (fun _ => (hp_cc (Or.inr (Or.inl rfl)) X _)) rfl ?_
            refine hp_sN [103, 105] (pc' := 105) (L' := [some (.ref 47), some (.int i1), some (.int i2), some (.int i3), some (.int v4), some (.int v5), some (.int v6), some (.int (Int32.ofInt 1)), some (.int (Int32.ofInt 0)), x9]) (st' := []) rfl rfl ?_
            refine ht_141_105 (n + 1) i1 i2 i3  (n + 1) (Nat.le_refl _) (((hp_wg 80 (hq_73 S 48 49) 49 (hq_75 (hq_73 S 48 49) i2 (i3 - (Int32.ofInt 1))) v6 57 i1.toNatClampNeg).toInt - (Int32.ofInt 0).toInt).toNat + 1) (hp_wg 80 (hq_73 S 48 49) 49 (hq_75 (hq_73 S 48 49) i2 (i3 - (Int32.ofInt 1))) v6) (v4) (v5) (v6) ((Int32.ofInt 1)) ((Int32.ofInt 0)) (x9) _ (Nat.lt_succ_self _) rfl (fun x9_105 x8_105 => ?_)
            show hp_T _ 141 181 [some (.ref 47), some (.int i1), some (.int i2), some (.int i3), some (.int v4), some (.int v5), some (.int v6), some (.int (hq_141_105 i1 i2 i3 (((hp_wg 80 (hq_73 S 48 49) 49 (hq_75 (hq_73 S 48 49) i2 (i3 - (Int32.ofInt 1))) v6 57 i1.toNatClampNeg).toInt - (Int32.ofInt 0).toInt).toNat + 1) (hp_wg 80 (hq_73 S 48 49) 49 (hq_75 (hq_73 S 48 49) i2 (i3 - (Int32.ofInt 1))) v6) (v4) (v5) (v6) ((Int32.ofInt 1)) ((Int32.ofInt 0))).2), x8_105, x9_105] _ (hp_mem X ((hq_141_105 i1 i2 i3 (((hp_wg 80 (hq_73 S 48 49) 49 (hq_75 (hq_73 S 48 49) i2 (i3 - (Int32.ofInt 1))) v6 57 i1.toNatClampNeg).toInt - (Int32.ofInt 0).toInt).toNat + 1) (hp_wg 80 (hq_73 S 48 49) 49 (hq_75 (hq_73 S 48 49) i2 (i3 - (Int32.ofInt 1))) v6) (v4) (v5) (v6) ((Int32.ofInt 1)) ((Int32.ofInt 0))).1)) _ _
            refine hp_sN [183, 185] (pc' := 185) (L' := [some (.ref 47), some (.int i1), some (.int i2), some (.int i3), some (.int v4), some (.int v5), some (.int v6), some (.int (hq_141_105 i1 i2 i3 (((hp_wg 80 (hq_73 S 48 49) 49 (hq_75 (hq_73 S 48 49) i2 (i3 - (Int32.ofInt 1))) v6 57 i1.toNatClampNeg).toInt - (Int32.ofInt 0).toInt).toNat + 1) (hp_wg 80 (hq_73 S 48 49) 49 (hq_75 (hq_73 S 48 49) i2 (i3 - (Int32.ofInt 1))) v6) (v4) (v5) (v6) ((Int32.ofInt 1)) ((Int32.ofInt 0))).2), x8_105, x9_105]) (st' := [.int (hq_141_105 i1 i2 i3 (((hp_wg 80 (hq_73 S 48 49) 49 (hq_75 (hq_73 S 48 49) i2 (i3 - (Int32.ofInt 1))) v6 57 i1.toNatClampNeg).toInt - (Int32.ofInt 0).toInt).toNat + 1) (hp_wg 80 (hq_73 S 48 49) 49 (hq_75 (hq_73 S 48 49) i2 (i3 - (Int32.ofInt 1))) v6) (v4) (v5) (v6) ((Int32.ofInt 1)) ((Int32.ofInt 0))).2, .int v5]) rfl rfl ?_
            refine hp_if2 (pc' := 188) rfl rfl (fun h8 => ?_) (fun h8 => ?_)
            · rw [if_pos h8] at hZ
              refine hp_sB 196 [197, 199, 202, 41] (pc' := 41) (L' := [some (.ref 47), some (.int i1), some (.int i2), some (.int i3), some (.int v4), some (.int (v5 ||| (Int32.ofInt 0))), some (.int (v6 + (Int32.ofInt 1))), some (.int (hq_141_105 i1 i2 i3 (((hp_wg 80 (hq_73 S 48 49) 49 (hq_75 (hq_73 S 48 49) i2 (i3 - (Int32.ofInt 1))) v6 57 i1.toNatClampNeg).toInt - (Int32.ofInt 0).toInt).toNat + 1) (hp_wg 80 (hq_73 S 48 49) 49 (hq_75 (hq_73 S 48 49) i2 (i3 - (Int32.ofInt 1))) v6) (v4) (v5) (v6) ((Int32.ofInt 1)) ((Int32.ofInt 0))).2), x8_105, x9_105]) (st' := []) rfl rfl ?_
              exact ih (Nat.le_trans (Nat.le_succ n) hN) m ((hq_141_105 i1 i2 i3 (((hp_wg 80 (hq_73 S 48 49) 49 (hq_75 (hq_73 S 48 49) i2 (i3 - (Int32.ofInt 1))) v6 57 i1.toNatClampNeg).toInt - (Int32.ofInt 0).toInt).toNat + 1) (hp_wg 80 (hq_73 S 48 49) 49 (hq_75 (hq_73 S 48 49) i2 (i3 - (Int32.ofInt 1))) v6) (v4) (v5) (v6) ((Int32.ofInt 1)) ((Int32.ofInt 0))).1) (v4) ((v5 ||| (Int32.ofInt 0))) ((v6 + (Int32.ofInt 1))) (some (.int (hq_141_105 i1 i2 i3 (((hp_wg 80 (hq_73 S 48 49) 49 (hq_75 (hq_73 S 48 49) i2 (i3 - (Int32.ofInt 1))) v6 57 i1.toNatClampNeg).toInt - (Int32.ofInt 0).toInt).toNat + 1) (hp_wg 80 (hq_73 S 48 49) 49 (hq_75 (hq_73 S 48 49) i2 (i3 - (Int32.ofInt 1))) v6) (v4) (v5) (v6) ((Int32.ofInt 1)) ((Int32.ofInt 0))).2)) (x8_105) (x9_105) Z (hp_up3 (B := 10) h6 (by decide) hm) hZ kk
            · rw [if_neg (hp_nt h8)] at hZ
              refine hp_sB 189 [191, 192, 196, 197, 199, 202, 41] (pc' := 41) (L' := [some (.ref 47), some (.int i1), some (.int i2), some (.int i3), some (.int v4), some (.int (v5 ||| ((Int32.ofInt 1) <<< (v6 &&& 31)))), some (.int (v6 + (Int32.ofInt 1))), some (.int (hq_141_105 i1 i2 i3 (((hp_wg 80 (hq_73 S 48 49) 49 (hq_75 (hq_73 S 48 49) i2 (i3 - (Int32.ofInt 1))) v6 57 i1.toNatClampNeg).toInt - (Int32.ofInt 0).toInt).toNat + 1) (hp_wg 80 (hq_73 S 48 49) 49 (hq_75 (hq_73 S 48 49) i2 (i3 - (Int32.ofInt 1))) v6) (v4) (v5) (v6) ((Int32.ofInt 1)) ((Int32.ofInt 0))).2), x8_105, x9_105]) (st' := []) rfl rfl ?_
              exact ih (Nat.le_trans (Nat.le_succ n) hN) m ((hq_141_105 i1 i2 i3 (((hp_wg 80 (hq_73 S 48 49) 49 (hq_75 (hq_73 S 48 49) i2 (i3 - (Int32.ofInt 1))) v6 57 i1.toNatClampNeg).toInt - (Int32.ofInt 0).toInt).toNat + 1) (hp_wg 80 (hq_73 S 48 49) 49 (hq_75 (hq_73 S 48 49) i2 (i3 - (Int32.ofInt 1))) v6) (v4) (v5) (v6) ((Int32.ofInt 1)) ((Int32.ofInt 0))).1) (v4) ((v5 ||| ((Int32.ofInt 1) <<< (v6 &&& 31)))) ((v6 + (Int32.ofInt 1))) (some (.int (hq_141_105 i1 i2 i3 (((hp_wg 80 (hq_73 S 48 49) 49 (hq_75 (hq_73 S 48 49) i2 (i3 - (Int32.ofInt 1))) v6 57 i1.toNatClampNeg).toInt - (Int32.ofInt 0).toInt).toNat + 1) (hp_wg 80 (hq_73 S 48 49) 49 (hq_75 (hq_73 S 48 49) i2 (i3 - (Int32.ofInt 1))) v6) (v4) (v5) (v6) ((Int32.ofInt 1)) ((Int32.ofInt 0))).2)) (x8_105) (x9_105) Z (hp_up3 (B := 10) h6 (by decide) hm) hZ kk
          · rw [if_neg (hp_nt h7)] at hZ
            refine hp_sN [82, 83] (pc' := 83) (L' := [some (.ref 47), some (.int i1), some (.int i2), some (.int i3), some (.int v4), some (.int v5), some (.int v6), some (.int (Int32.ofInt 1)), x8, x9]) (st' := [.ref 47, .int (Int32.ofInt 6), .ref 49]) rfl rfl ?_
            refine hp_gf (pc' := 86) rfl (by decide) (hp_c47 X _) rfl rfl ?_
            refine hp_sN [87] (pc' := 87) (L' := [some (.ref 47), some (.int i1), some (.int i2), some (.int i3), some (.int v4), some (.int v5), some (.int v6), some (.int (Int32.ofInt 1)), x8, x9]) (st' := [.int (Int32.ofInt 2), .ref 48, .int (Int32.ofInt 6), .ref 49]) rfl rfl ?_
            refine hp_al (pc' := 88) rfl (hp_cl (Or.inl rfl)) (hp_cc (Or.inl rfl) X _) rfl ?_
            refine hp_sN [89, 99, 101] (pc' := 101) (L' := [some (.ref 47), some (.int i1), some (.int i2), some (.int i3), some (.int v4), some (.int v5), some (.int v6), some (.int (Int32.ofInt 1)), x8, x9]) (st' := [.int v6, .int ((Int32.ofInt 6) + (hq_73 S 48 49 48 (Int32.ofInt 2).toNatClampNeg)), .ref 49]) rfl rfl ?_
            refine hp_asg (pc' := 102) rfl (hp_cl (Or.inr (Or.inl rfl))) (fun _ => (hp_cc (Or.inr (Or.inl rfl)) X _)) rfl ?_
            refine hp_sN [103, 105] (pc' := 105) (L' := [some (.ref 47), some (.int i1), some (.int i2), some (.int i3), some (.int v4), some (.int v5), some (.int v6), some (.int (Int32.ofInt 1)), some (.int (Int32.ofInt 0)), x9]) (st' := []) rfl rfl ?_
            refine ht_141_105 (n + 1) i1 i2 i3  (n + 1) (Nat.le_refl _) (((hp_wg 80 (hq_73 S 48 49) 49 ((Int32.ofInt 6) + (hq_73 S 48 49 48 (Int32.ofInt 2).toNatClampNeg)) v6 57 i1.toNatClampNeg).toInt - (Int32.ofInt 0).toInt).toNat + 1) (hp_wg 80 (hq_73 S 48 49) 49 ((Int32.ofInt 6) + (hq_73 S 48 49 48 (Int32.ofInt 2).toNatClampNeg)) v6) (v4) (v5) (v6) ((Int32.ofInt 1)) ((Int32.ofInt 0)) (x9) _ (Nat.lt_succ_self _) rfl (fun x9_105 x8_105 => ?_)
            show hp_T _ 141 181 [some (.ref 47), some (.int i1), some (.int i2), some (.int i3), some (.int v4), some (.int v5), some (.int v6), some (.int (hq_141_105 i1 i2 i3 (((hp_wg 80 (hq_73 S 48 49) 49 ((Int32.ofInt 6) + (hq_73 S 48 49 48 (Int32.ofInt 2).toNatClampNeg)) v6 57 i1.toNatClampNeg).toInt - (Int32.ofInt 0).toInt).toNat + 1) (hp_wg 80 (hq_73 S 48 49) 49 ((Int32.ofInt 6) + (hq_73 S 48 49 48 (Int32.ofInt 2).toNatClampNeg)) v6) (v4) (v5) (v6) ((Int32.ofInt 1)) ((Int32.ofInt 0))).2), x8_105, x9_105] _ (hp_mem X ((hq_141_105 i1 i2 i3 (((hp_wg 80 (hq_73 S 48 49) 49 ((Int32.ofInt 6) + (hq_73 S 48 49 48 (Int32.ofInt 2).toNatClampNeg)) v6 57 i1.toNatClampNeg).toInt - (Int32.ofInt 0).toInt).toNat + 1) (hp_wg 80 (hq_73 S 48 49) 49 ((Int32.ofInt 6) + (hq_73 S 48 49 48 (Int32.ofInt 2).toNatClampNeg)) v6) (v4) (v5) (v6) ((Int32.ofInt 1)) ((Int32.ofInt 0))).1)) _ _
            refine hp_sN [183, 185] (pc' := 185) (L' := [some (.ref 47), some (.int i1), some (.int i2), some (.int i3), some (.int v4), some (.int v5), some (.int v6), some (.int (hq_141_105 i1 i2 i3 (((hp_wg 80 (hq_73 S 48 49) 49 ((Int32.ofInt 6) + (hq_73 S 48 49 48 (Int32.ofInt 2).toNatClampNeg)) v6 57 i1.toNatClampNeg).toInt - (Int32.ofInt 0).toInt).toNat + 1) (hp_wg 80 (hq_73 S 48 49) 49 ((Int32.ofInt 6) + (hq_73 S 48 49 48 (Int32.ofInt 2).toNatClampNeg)) v6) (v4) (v5) (v6) ((Int32.ofInt 1)) ((Int32.ofInt 0))).2), x8_105, x9_105]) (st' := [.int (hq_141_105 i1 i2 i3 (((hp_wg 80 (hq_73 S 48 49) 49 ((Int32.ofInt 6) + (hq_73 S 48 49 48 (Int32.ofInt 2).toNatClampNeg)) v6 57 i1.toNatClampNeg).toInt - (Int32.ofInt 0).toInt).toNat + 1) (hp_wg 80 (hq_73 S 48 49) 49 ((Int32.ofInt 6) + (hq_73 S 48 49 48 (Int32.ofInt 2).toNatClampNeg)) v6) (v4) (v5) (v6) ((Int32.ofInt 1)) ((Int32.ofInt 0))).2, .int v5]) rfl rfl ?_
            refine hp_if2 (pc' := 188) rfl rfl (fun h9 => ?_) (fun h9 => ?_)
            · rw [if_pos h9] at hZ
              refine hp_sB 196 [197, 199, 202, 41] (pc' := 41) (L' := [some (.ref 47), some (.int i1), some (.int i2), some (.int i3), some (.int v4), some (.int (v5 ||| (Int32.ofInt 0))), some (.int (v6 + (Int32.ofInt 1))), some (.int (hq_141_105 i1 i2 i3 (((hp_wg 80 (hq_73 S 48 49) 49 ((Int32.ofInt 6) + (hq_73 S 48 49 48 (Int32.ofInt 2).toNatClampNeg)) v6 57 i1.toNatClampNeg).toInt - (Int32.ofInt 0).toInt).toNat + 1) (hp_wg 80 (hq_73 S 48 49) 49 ((Int32.ofInt 6) + (hq_73 S 48 49 48 (Int32.ofInt 2).toNatClampNeg)) v6) (v4) (v5) (v6) ((Int32.ofInt 1)) ((Int32.ofInt 0))).2), x8_105, x9_105]) (st' := []) rfl rfl ?_
              exact ih (Nat.le_trans (Nat.le_succ n) hN) m ((hq_141_105 i1 i2 i3 (((hp_wg 80 (hq_73 S 48 49) 49 ((Int32.ofInt 6) + (hq_73 S 48 49 48 (Int32.ofInt 2).toNatClampNeg)) v6 57 i1.toNatClampNeg).toInt - (Int32.ofInt 0).toInt).toNat + 1) (hp_wg 80 (hq_73 S 48 49) 49 ((Int32.ofInt 6) + (hq_73 S 48 49 48 (Int32.ofInt 2).toNatClampNeg)) v6) (v4) (v5) (v6) ((Int32.ofInt 1)) ((Int32.ofInt 0))).1) (v4) ((v5 ||| (Int32.ofInt 0))) ((v6 + (Int32.ofInt 1))) (some (.int (hq_141_105 i1 i2 i3 (((hp_wg 80 (hq_73 S 48 49) 49 ((Int32.ofInt 6) + (hq_73 S 48 49 48 (Int32.ofInt 2).toNatClampNeg)) v6 57 i1.toNatClampNeg).toInt - (Int32.ofInt 0).toInt).toNat + 1) (hp_wg 80 (hq_73 S 48 49) 49 ((Int32.ofInt 6) + (hq_73 S 48 49 48 (Int32.ofInt 2).toNatClampNeg)) v6) (v4) (v5) (v6) ((Int32.ofInt 1)) ((Int32.ofInt 0))).2)) (x8_105) (x9_105) Z (hp_up3 (B := 10) h6 (by decide) hm) hZ kk
            · rw [if_neg (hp_nt h9)] at hZ
              refine hp_sB 189 [191, 192, 196, 197, 199, 202, 41] (pc' := 41) (L' := [some (.ref 47), some (.int i1), some (.int i2), some (.int i3), some (.int v4), some (.int (v5 ||| ((Int32.ofInt 1) <<< (v6 &&& 31)))), some (.int (v6 + (Int32.ofInt 1))), some (.int (hq_141_105 i1 i2 i3 (((hp_wg 80 (hq_73 S 48 49) 49 ((Int32.ofInt 6) + (hq_73 S 48 49 48 (Int32.ofInt 2).toNatClampNeg)) v6 57 i1.toNatClampNeg).toInt - (Int32.ofInt 0).toInt).toNat + 1) (hp_wg 80 (hq_73 S 48 49) 49 ((Int32.ofInt 6) + (hq_73 S 48 49 48 (Int32.ofInt 2).toNatClampNeg)) v6) (v4) (v5) (v6) ((Int32.ofInt 1)) ((Int32.ofInt 0))).2), x8_105, x9_105]) (st' := []) rfl rfl ?_
              exact ih (Nat.le_trans (Nat.le_succ n) hN) m ((hq_141_105 i1 i2 i3 (((hp_wg 80 (hq_73 S 48 49) 49 ((Int32.ofInt 6) + (hq_73 S 48 49 48 (Int32.ofInt 2).toNatClampNeg)) v6 57 i1.toNatClampNeg).toInt - (Int32.ofInt 0).toInt).toNat + 1) (hp_wg 80 (hq_73 S 48 49) 49 ((Int32.ofInt 6) + (hq_73 S 48 49 48 (Int32.ofInt 2).toNatClampNeg)) v6) (v4) (v5) (v6) ((Int32.ofInt 1)) ((Int32.ofInt 0))).1) (v4) ((v5 ||| ((Int32.ofInt 1) <<< (v6 &&& 31)))) ((v6 + (Int32.ofInt 1))) (some (.int (hq_141_105 i1 i2 i3 (((hp_wg 80 (hq_73 S 48 49) 49 ((Int32.ofInt 6) + (hq_73 S 48 49 48 (Int32.ofInt 2).toNatClampNeg)) v6 57 i1.toNatClampNeg).toInt - (Int32.ofInt 0).toInt).toNat + 1) (hp_wg 80 (hq_73 S 48 49) 49 ((Int32.ofInt 6) + (hq_73 S 48 49 48 (Int32.ofInt 2).toNatClampNeg)) v6) (v4) (v5) (v6) ((Int32.ofInt 1)) ((Int32.ofInt 0))).2)) (x8_105) (x9_105) Z (hp_up3 (B := 10) h6 (by decide) hm) hZ kk
set_option maxRecDepth 10000 in
theorem ht_141 {X : hp_X} (S : hp_S) (i1 : Int32) (i2 : Int32) (i3 : Int32) (n : Nat) : hp_T n 141 0 [some (.ref 47), some (.int i1), some (.int i2), some (.int i3), none, none, none, none, none, none] [] (hp_mem X S) (hp_is X) (hq_141 S i1 i2 i3) := by
  unfold hq_141
  refine hp_sN [1, 2] (pc' := 2) (L' := [some (.ref 47), some (.int i1), some (.int i2), some (.int i3), none, none, none, none, none, none]) (st' := [.int i2, .ref 47]) rfl rfl ?_
  refine hp_iv (virt := true) (pc' := 5) (rv := some (.int (hq_77 S i2))) (M1 := hp_mem X (S)) rfl rfl (by decide) (hk_77 S (i2)) rfl rfl ?_
  show hp_T _ 141 5 _ [.int (hq_77 S i2)] _ _ _
  refine hp_if (pc' := 8) rfl rfl (fun h1 => ?_) (fun h1 => ?_)
  · refine hp_sN [18] (pc' := 18) (L' := [some (.ref 47), some (.int i1), some (.int i2), some (.int i3), none, none, none, none, none, none]) (st' := [.int (Int32.ofInt (-1))]) rfl rfl ?_
    exact hp_Ris rfl
  · refine hp_sN [9, 10, 11] (pc' := 11) (L' := [some (.ref 47), some (.int i1), some (.int i2), some (.int i3), none, none, none, none, none, none]) (st' := [.int (Int32.ofInt 2), .int (Int32.ofInt 0), .int i3]) rfl rfl ?_
    refine hp_iv (virt := false) (pc' := 14) (rv := some (.int (hq_70 S i3 (Int32.ofInt 0) (Int32.ofInt 2)))) (M1 := hp_mem X (S)) rfl rfl (by decide) (hk_70 S (i3) ((Int32.ofInt 0)) ((Int32.ofInt 2))) rfl rfl ?_
    show hp_T _ 141 14 _ [.int (hq_70 S i3 (Int32.ofInt 0) (Int32.ofInt 2))] _ _ _
    refine hp_if (pc' := 17) rfl rfl (fun h2 => ?_) (fun h2 => ?_)
    · refine hp_sN [20, 21, 22] (pc' := 22) (L' := [some (.ref 47), some (.int i1), some (.int i2), some (.int i3), none, none, none, none, none, none]) (st' := [.int (Int32.ofInt (-1)), .int i1, .ref 47]) rfl rfl ?_
      refine hp_iv (virt := true) (pc' := 25) (rv := some (.int (hq_158 S i1 (Int32.ofInt (-1))))) (M1 := hp_mem X (S)) rfl rfl (by decide) (hk_158 S (i1) ((Int32.ofInt (-1)))) rfl rfl ?_
      show hp_T _ 141 25 _ [.int (hq_158 S i1 (Int32.ofInt (-1)))] _ _ _
      refine hp_sN [27, 29] (pc' := 29) (L' := [some (.ref 47), some (.int i1), some (.int i2), some (.int i3), some (.int (hq_158 S i1 (Int32.ofInt (-1)))), none, none, none, none, none]) (st' := [.int (hq_158 S i1 (Int32.ofInt (-1)))]) rfl rfl ?_
      refine hp_if (pc' := 32) rfl rfl (fun h3 => ?_) (fun h3 => ?_)
      · refine hp_sN [36, 38, 39, 41] (pc' := 41) (L' := [some (.ref 47), some (.int i1), some (.int i2), some (.int i3), some (.int (hq_158 S i1 (Int32.ofInt (-1)))), some (.int (Int32.ofInt 0)), some (.int (Int32.ofInt 0)), none, none, none]) (st' := []) rfl rfl ?_
        refine ht_141_41 n i1 i2 i3  n (Nat.le_refl _) (((10 : Int) - (Int32.ofInt 0).toInt).toNat + 1) S ((hq_158 S i1 (Int32.ofInt (-1)))) ((Int32.ofInt 0)) ((Int32.ofInt 0)) (none) (none) (none) _ (Nat.lt_succ_self _) rfl (fun x7_41 x8_41 x9_41 x6_41 => ?_)
        show hp_T _ 141 205 [some (.ref 47), some (.int i1), some (.int i2), some (.int i3), some (.int (hq_158 S i1 (Int32.ofInt (-1)))), some (.int (hq_141_41 i1 i2 i3 (((10 : Int) - (Int32.ofInt 0).toInt).toNat + 1) S ((hq_158 S i1 (Int32.ofInt (-1)))) ((Int32.ofInt 0)) ((Int32.ofInt 0))).2), x6_41, x7_41, x8_41, x9_41] _ (hp_mem X ((hq_141_41 i1 i2 i3 (((10 : Int) - (Int32.ofInt 0).toInt).toNat + 1) S ((hq_158 S i1 (Int32.ofInt (-1)))) ((Int32.ofInt 0)) ((Int32.ofInt 0))).1)) _ _
        refine hp_sN [207] (pc' := 207) (L' := [some (.ref 47), some (.int i1), some (.int i2), some (.int i3), some (.int (hq_158 S i1 (Int32.ofInt (-1)))), some (.int (hq_141_41 i1 i2 i3 (((10 : Int) - (Int32.ofInt 0).toInt).toNat + 1) S ((hq_158 S i1 (Int32.ofInt (-1)))) ((Int32.ofInt 0)) ((Int32.ofInt 0))).2), x6_41, x7_41, x8_41, x9_41]) (st' := [.int (hq_141_41 i1 i2 i3 (((10 : Int) - (Int32.ofInt 0).toInt).toNat + 1) S ((hq_158 S i1 (Int32.ofInt (-1)))) ((Int32.ofInt 0)) ((Int32.ofInt 0))).2]) rfl rfl ?_
        exact hp_Ris rfl
      · refine hp_sN [34] (pc' := 34) (L' := [some (.ref 47), some (.int i1), some (.int i2), some (.int i3), some (.int (hq_158 S i1 (Int32.ofInt (-1)))), none, none, none, none, none]) (st' := [.int (hq_158 S i1 (Int32.ofInt (-1)))]) rfl rfl ?_
        exact hp_Ris rfl
    · refine hp_sN [18] (pc' := 18) (L' := [some (.ref 47), some (.int i1), some (.int i2), some (.int i3), none, none, none, none, none, none]) (st' := [.int (Int32.ofInt (-1))]) rfl rfl ?_
      exact hp_Ris rfl
theorem hk_141 {X : hp_X} (S : hp_S) (i1 : Int32) (i2 : Int32) (i3 : Int32) : hp_K 141 [.ref 47, .int i1, .int i2, .int i3] (hp_mem X S) (hp_is X) (hq_141 S i1 i2 i3) := by
  refine hp_mk (q := hzq_141) rfl (by decide) (L := [some (.ref 47), some (.int i1), some (.int i2), some (.int i3), none, none, none, none, none, none]) rfl (fun n => ?_)
  exact ht_141 S i1 i2 i3 n

