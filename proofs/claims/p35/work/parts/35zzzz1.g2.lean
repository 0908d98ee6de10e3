/-! 23: HatsOfTheWind.shut(I)I -/
def hq_23_31 (i1 : Int32) : Nat → hp_S → Int32 → Int32 → Int32 → hp_S × Int32
  | 0, S, _, _, _ => (S, 0)
  | m + 1, S, v2, v3, v4 => (if hz_cmp .ge v4 (Int32.ofInt 21) = true then (S, v2) else (if hz_cmp .ge (hq_216 (hq_200 (hp_w (hq_55 S (Int32.ofInt 0)) 10 1 ((hq_55 S (Int32.ofInt 0) 10 1) ||| ((Int32.ofInt 1) <<< (v4 &&& 31)))) 10 i1) (hq_190 (hq_200 (hp_w (hq_55 S (Int32.ofInt 0)) 10 1 ((hq_55 S (Int32.ofInt 0) 10 1) ||| ((Int32.ofInt 1) <<< (v4 &&& 31)))) 10 i1) 10)) v3 = true then hq_23_31 i1 m (hq_200 (hp_w (hq_55 S (Int32.ofInt 0)) 10 1 ((hq_55 S (Int32.ofInt 0) 10 1) ||| ((Int32.ofInt 1) <<< (v4 &&& 31)))) 10 i1) v2 v3 (v4 + (Int32.ofInt 1)) else hq_23_31 i1 m (hq_200 (hp_w (hq_55 S (Int32.ofInt 0)) 10 1 ((hq_55 S (Int32.ofInt 0) 10 1) ||| ((Int32.ofInt 1) <<< (v4 &&& 31)))) 10 i1) v4 (hq_216 (hq_200 (hp_w (hq_55 S (Int32.ofInt 0)) 10 1 ((hq_55 S (Int32.ofInt 0) 10 1) ||| ((Int32.ofInt 1) <<< (v4 &&& 31)))) 10 i1) (hq_190 (hq_200 (hp_w (hq_55 S (Int32.ofInt 0)) 10 1 ((hq_55 S (Int32.ofInt 0) 10 1) ||| ((Int32.ofInt 1) <<< (v4 &&& 31)))) 10 i1) 10)) (v4 + (Int32.ofInt 1))))
def hq_23 (S : hp_S) (i1 : Int32) : Int32 × hp_S := (if hz_cmp .ne (hq_50 S i1) 0 = true then ((hq_23_31 i1 (((Int32.ofInt 21).toInt - (Int32.ofInt 0).toInt).toNat + 1) (hq_55 S i1) ((Int32.ofInt (-4))) ((hq_216 (hq_55 S i1) (hq_190 (hq_55 S i1) 10))) ((Int32.ofInt 0))).2, (hq_23_31 i1 (((Int32.ofInt 21).toInt - (Int32.ofInt 0).toInt).toNat + 1) (hq_55 S i1) ((Int32.ofInt (-4))) ((hq_216 (hq_55 S i1) (hq_190 (hq_55 S i1) 10))) ((Int32.ofInt 0))).1) else ((Int32.ofInt (-1)), S))
theorem hf_23_31 {i1 : Int32} (j : Nat) (z0 : j ≠ (10 + 1)) (z1 : j ≠ 10) (z2 : j ≠ (10 + 2)) (z3 : j ≠ (10 + 3)) (z4 : j ≠ (10 + 4)) (z5 : j ≠ (10 + 5)) (z6 : j ≠ (10 + 6)) (z7 : j ≠ (10 + 7)) (z8 : j ≠ (10 + 8)) : ∀ (m : Nat) (S : hp_S) (v2 : Int32) (v3 : Int32) (v4 : Int32), (hq_23_31 i1 m S v2 v3 v4).1 j = S j := by
  intro m
  induction m with
  | zero => intros; rfl
  | succ m ih =>
    intro S v2 v3 v4
    rw [hq_23_31]
    repeat' split
    all_goals simp [ih, hp_wo, hp_wgo, hp_cpo, hf_55, hf_200, z0, z1, z2, z3, z4, z5, z6, z7, z8]
theorem hf_23 (S : hp_S) (i1 : Int32) (j : Nat) (z0 : j ≠ (10 + 1)) (z1 : j ≠ 10) (z2 : j ≠ (10 + 2)) (z3 : j ≠ (10 + 3)) (z4 : j ≠ (10 + 4)) (z5 : j ≠ (10 + 5)) (z6 : j ≠ (10 + 6)) (z7 : j ≠ (10 + 7)) (z8 : j ≠ (10 + 8)) : (hq_23 S i1).2 j = S j := by
  unfold hq_23
  repeat' split
  all_goals simp [hp_wo, hp_wgo, hp_cpo, hf_55, hf_200, z0, z1, z2, z3, z4, z5, z6, z7, z8, hf_23_31]
set_option maxRecDepth 10000 in
theorem ht_23_31 {α : Type} {φ : α → Option Value × hzMem} {R : α} {X : hp_X} (N : Nat) (i1 : Int32) : ∀ (n : Nat), n ≤ N → ∀ (m : Nat) (S : hp_S) (v2 : Int32) (v3 : Int32) (v4 : Int32) (x5 : Option Value) (Z : hp_S × Int32), ((Int32.ofInt 21).toInt - v4.toInt).toNat < m → hq_23_31 i1 m S v2 v3 v4 = Z → (∀ (x5 : Option Value) (x3 : Option Value) (x4 : Option Value), hp_T N 23 97 [some (.ref 0), some (.int i1), some (.int Z.2), x3, x4, x5] [] (hp_mem X Z.1) φ R) → hp_T n 23 31 [some (.ref 0), some (.int i1), some (.int v2), some (.int v3), some (.int v4), x5] [] (hp_mem X S) φ R := by
  intro n
  induction n with
  | zero => intros; exact hp_0
  | succ n ih =>
    intro hN m S v2 v3 v4 x5 Z hm hZ kk
    cases m with
    | zero => exact absurd hm (Nat.not_lt_zero _)
    | succ m =>
      rw [hq_23_31] at hZ
      refine hp_sN [33, 35] (pc' := 35) (L' := [some (.ref 0), some (.int i1), some (.int v2), some (.int v3), some (.int v4), x5]) (st' := [.int (Int32.ofInt 21), .int v4]) rfl rfl ?_
      refine hp_ic2 (pc' := 38) rfl rfl (fun h1 => ?_) (fun h1 => ?_)
      · rw [if_pos h1] at hZ
        subst hZ
        exact hp_le hN (kk (x5) (some (.int v3)) (some (.int v4)))
      · rw [if_neg (hp_nt h1)] at hZ
        refine hp_sN [39, 40] (pc' := 40) (L' := [some (.ref 0), some (.int i1), some (.int v2), some (.int v3), some (.int v4), x5]) (st' := [.int (Int32.ofInt 0), .ref 0]) rfl rfl ?_
        refine hp_iv (virt := true) (pc' := 43) (rv := none) (M1 := hp_mem X (hq_55 S (Int32.ofInt 0))) rfl rfl (by decide) (hk_55 S ((Int32.ofInt 0))) rfl rfl ?_
        show hp_T _ 23 43 _ [] _ _ _
        refine hp_sN [44] (pc' := 44) (L' := [some (.ref 0), some (.int i1), some (.int v2), some (.int v3), some (.int v4), x5]) (st' := [.ref 0]) rfl rfl ?_
        refine hp_gf (pc' := 47) rfl (by decide) (hp_c0 X _) rfl rfl ?_
        refine hp_sN [48] (pc' := 48) (L' := [some (.ref 0), some (.int i1), some (.int v2), some (.int v3), some (.int v4), x5]) (st' := [.ref 10, .ref 10]) rfl rfl ?_
        refine hp_gf (pc' := 51) rfl (hp_bl (Or.inr (Or.inl rfl)) 0 (by decide)) (hp_b0 (Or.inr (Or.inl rfl)) X _) rfl rfl ?_
        refine hp_sN [52, 54, 55, 56] (pc' := 56) (L' := [some (.ref 0), some (.int i1), some (.int v2), some (.int v3), some (.int v4), x5]) (st' := [.int ((hq_55 S (Int32.ofInt 0) 10 1) ||| ((Int32.ofInt 1) <<< (v4 &&& 31))), .ref 10]) rfl rfl ?_
        refine hp_pf (pc' := 59) rfl (hp_bl (Or.inr (Or.inl rfl)) 0 (by decide)) (hp_b0 (Or.inr (Or.inl rfl)) X _) (hp_wb (Or.inr (Or.inl rfl)) X _ _ _ (by decide)) rfl ?_
        refine hp_sN [60] (pc' := 60) (L' := [some (.ref 0), some (.int i1), some (.int v2), some (.int v3), some (.int v4), x5]) (st' := [.ref 0]) rfl rfl ?_
        refine hp_gf (pc' := 63) rfl (by decide) (hp_c0 X _) rfl rfl ?_
        refine hp_sN [64] (pc' := 64) (L' := [some (.ref 0), some (.int i1), some (.int v2), some (.int v3), some (.int v4), x5]) (st' := [.int i1, .ref 10]) rfl rfl ?_
        refine hp_iv (virt := true) (pc' := 67) (rv := none) (M1 := hp_mem X (hq_200 (hp_w (hq_55 S (Int32.ofInt 0)) 10 1 ((hq_55 S (Int32.ofInt 0) 10 1) ||| ((Int32.ofInt 1) <<< (v4 &&& 31)))) 10 i1)) rfl rfl (by decide) (hk_200 (Or.inr (Or.inl rfl)) (hp_w (hq_55 S (Int32.ofInt 0)) 10 1 ((hq_55 S (Int32.ofInt 0) 10 1) ||| ((Int32.ofInt 1) <<< (v4 &&& 31)))) (i1)) rfl rfl ?_
        show hp_T _ 23 67 _ [] _ _ _
        refine hp_sN [68] (pc' := 68) (L' := [some (.ref 0), some (.int i1), some (.int v2), some (.int v3), some (.int v4), x5]) (st' := [.ref 0]) rfl rfl ?_
        refine hp_gf (pc' := 71) rfl (by decide) (hp_c0 X _) rfl rfl ?_
        refine hp_iv (virt := true) (pc' := 74) (rv := some (.int (hq_190 (hq_200 (hp_w (hq_55 S (Int32.ofInt 0)) 10 1 ((hq_55 S (Int32.ofInt 0) 10 1) ||| ((Int32.ofInt 1) <<< (v4 &&& 31)))) 10 i1) 10))) (M1 := hp_mem X (hq_200 (hp_w (hq_55 S (Int32.ofInt 0)) 10 1 ((hq_55 S (Int32.ofInt 0) 10 1) ||| ((Int32.ofInt 1) <<< (v4 &&& 31)))) 10 i1)) rfl rfl (by decide) (hk_190 (Or.inr (Or.inl rfl)) (hq_200 (hp_w (hq_55 S (Int32.ofInt 0)) 10 1 ((hq_55 S (Int32.ofInt 0) 10 1) ||| ((Int32.ofInt 1) <<< (v4 &&& 31)))) 10 i1)) rfl rfl ?_
        show hp_T _ 23 74 _ [.int (hq_190 (hq_200 (hp_w (hq_55 S (Int32.ofInt 0)) 10 1 ((hq_55 S (Int32.ofInt 0) 10 1) ||| ((Int32.ofInt 1) <<< (v4 &&& 31)))) 10 i1) 10)] _ _ _
        refine hp_iv (virt := false) (pc' := 77) (rv := some (.int (hq_216 (hq_200 (hp_w (hq_55 S (Int32.ofInt 0)) 10 1 ((hq_55 S (Int32.ofInt 0) 10 1) ||| ((Int32.ofInt 1) <<< (v4 &&& 31)))) 10 i1) (hq_190 (hq_200 (hp_w (hq_55 S (Int32.ofInt 0)) 10 1 ((hq_55 S (Int32.ofInt 0) 10 1) ||| ((Int32.ofInt 1) <<< (v4 &&& 31)))) 10 i1) 10)))) (M1 := hp_mem X (hq_200 (hp_w (hq_55 S (Int32.ofInt 0)) 10 1 ((hq_55 S (Int32.ofInt 0) 10 1) ||| ((Int32.ofInt 1) <<< (v4 &&& 31)))) 10 i1)) rfl rfl (by decide) (hk_216 (hq_200 (hp_w (hq_55 S (Int32.ofInt 0)) 10 1 ((hq_55 S (Int32.ofInt 0) 10 1) ||| ((Int32.ofInt 1) <<< (v4 &&& 31)))) 10 i1) ((hq_190 (hq_200 (hp_w (hq_55 S (Int32.ofInt 0)) 10 1 ((hq_55 S (Int32.ofInt 0) 10 1) ||| ((Int32.ofInt 1) <<< (v4 &&& 31)))) 10 i1) 10))) rfl rfl ?_
        show hp_T _ 23 77 _ [.int (hq_216 (hq_200 (hp_w (hq_55 S (Int32.ofInt 0)) 10 1 ((hq_55 S (Int32.ofInt 0) 10 1) ||| ((Int32.ofInt 1) <<< (v4 &&& 31)))) 10 i1) (hq_190 (hq_200 (hp_w (hq_55 S (Int32.ofInt 0)) 10 1 ((hq_55 S (Int32.ofInt 0) 10 1) ||| ((Int32.ofInt 1) <<< (v4 &&& 31)))) 10 i1) 10))] _ _ _
        refine hp_sN [79, 81, 82] (pc' := 82) (L' := [some (.ref 0), some (.int i1), some (.int v2), some (.int v3), some (.int v4), some (.int (hq_216 (hq_200 (hp_w (hq_55 S (Int32.ofInt 0)) 10 1 ((hq_55 S (Int32.ofInt 0) 10 1) ||| ((Int32.ofInt 1) <<< (v4 &&& 31)))) 10 i1) (hq_190 (hq_200 (hp_w (hq_55 S (Int32.ofInt 0)) 10 1 ((hq_55 S (Int32.ofInt 0) 10 1) ||| ((Int32.ofInt 1) <<< (v4 &&& 31)))) 10 i1) 10)))]) (st' := [.int v3, .int (hq_216 (hq_200 (hp_w (hq_55 S (Int32.ofInt 0)) 10 1 ((hq_55 S (Int32.ofInt 0) 10 1) ||| ((Int32.ofInt 1) <<< (v4 &&& 31)))) 10 i1) (hq_190 (hq_200 (hp_w (hq_55 S (Int32.ofInt 0)) 10 1 ((hq_55 S (Int32.ofInt 0) 10 1) ||| ((Int32.ofInt 1) <<< (v4 &&& 31)))) 10 i1) 10))]) rfl rfl ?_
        refine hp_ic2 (pc' := 85) rfl rfl (fun h2 => ?_) (fun h2 => ?_)
        · rw [if_pos h2] at hZ
          refine hp_sB 94 [31] (pc' := 31) (L' := [some (.ref 0), some (.int i1), some (.int v2), some (.int v3), some (.int (v4 + (Int32.ofInt 1))), some (.int (hq_216 (hq_200 (hp_w (hq_55 S (Int32.ofInt 0)) 10 1 ((hq_55 S (Int32.ofInt 0) 10 1) ||| ((Int32.ofInt 1) <<< (v4 &&& 31)))) 10 i1) (hq_190 (hq_200 (hp_w (hq_55 S (Int32.ofInt 0)) 10 1 ((hq_55 S (Int32.ofInt 0) 10 1) ||| ((Int32.ofInt 1) <<< (v4 &&& 31)))) 10 i1) 10)))]) (st' := []) rfl rfl ?_
          exact ih (Nat.le_trans (Nat.le_succ n) hN) m (hq_200 (hp_w (hq_55 S (Int32.ofInt 0)) 10 1 ((hq_55 S (Int32.ofInt 0) 10 1) ||| ((Int32.ofInt 1) <<< (v4 &&& 31)))) 10 i1) (v2) (v3) ((v4 + (Int32.ofInt 1))) (some (.int (hq_216 (hq_200 (hp_w (hq_55 S (Int32.ofInt 0)) 10 1 ((hq_55 S (Int32.ofInt 0) 10 1) ||| ((Int32.ofInt 1) <<< (v4 &&& 31)))) 10 i1) (hq_190 (hq_200 (hp_w (hq_55 S (Int32.ofInt 0)) 10 1 ((hq_55 S (Int32.ofInt 0) 10 1) ||| ((Int32.ofInt 1) <<< (v4 &&& 31)))) 10 i1) 10)))) Z (hp_up h1 hm) hZ kk
        · rw [if_neg (hp_nt h2)] at hZ
          refine hp_sB 87 [88, 90, 91, 94, 31] (pc' := 31) (L' := [some (.ref 0), some (.int i1), some (.int v4), some (.int (hq_216 (hq_200 (hp_w (hq_55 S (Int32.ofInt 0)) 10 1 ((hq_55 S (Int32.ofInt 0) 10 1) ||| ((Int32.ofInt 1) <<< (v4 &&& 31)))) 10 i1) (hq_190 (hq_200 (hp_w (hq_55 S (Int32.ofInt 0)) 10 1 ((hq_55 S (Int32.ofInt 0) 10 1) ||| ((Int32.ofInt 1) <<< (v4 &&& 31)))) 10 i1) 10))), some (.int (v4 + (Int32.ofInt 1))), some (.int (hq_216 (hq_200 (hp_w (hq_55 S (Int32.ofInt 0)) 10 1 ((hq_55 S (Int32.ofInt 0) 10 1) ||| ((Int32.ofInt 1) <<< (v4 &&& 31)))) 10 i1) (hq_190 (hq_200 (hp_w (hq_55 S (Int32.ofInt 0)) 10 1 ((hq_55 S (Int32.ofInt 0) 10 1) ||| ((Int32.ofInt 1) <<< (v4 &&& 31)))) 10 i1) 10)))]) (st' := []) rfl rfl ?_
          exact ih (Nat.le_trans (Nat.le_succ n) hN) m (hq_200 (hp_w (hq_55 S (Int32.ofInt 0)) 10 1 ((hq_55 S (Int32.ofInt 0) 10 1) ||| ((Int32.ofInt 1) <<< (v4 &&& 31)))) 10 i1) (v4) ((hq_216 (hq_200 (hp_w (hq_55 S (Int32.ofInt 0)) 10 1 ((hq_55 S (Int32.ofInt 0) 10 1) ||| ((Int32.ofInt 1) <<< (v4 &&& 31)))) 10 i1) (hq_190 (hq_200 (hp_w (hq_55 S (Int32.ofInt 0)) 10 1 ((hq_55 S (Int32.ofInt 0) 10 1) ||| ((Int32.ofInt 1) <<< (v4 &&& 31)))) 10 i1) 10))) ((v4 + (Int32.ofInt 1))) (some (.int (hq_216 (hq_200 (hp_w (hq_55 S (Int32.ofInt 0)) 10 1 ((hq_55 S (Int32.ofInt 0) 10 1) ||| ((Int32.ofInt 1) <<< (v4 &&& 31)))) 10 i1) (hq_190 (hq_200 (hp_w (hq_55 S (Int32.ofInt 0)) 10 1 ((hq_55 S (Int32.ofInt 0) 10 1) ||| ((Int32.ofInt 1) <<< (v4 &&& 31)))) 10 i1) 10)))) Z (hp_up h1 hm) hZ kk
set_option maxRecDepth 10000 in
theorem ht_23 {X : hp_X} (S : hp_S) (i1 : Int32) (n : Nat) : hp_T n 23 0 [some (.ref 0), some (.int i1), none, none, none, none] [] (hp_mem X S) (hp_is X) (hq_23 S i1) := by
  unfold hq_23
  refine hp_sN [1] (pc' := 1) (L' := [some (.ref 0), some (.int i1), none, none, none, none]) (st' := [.int i1]) rfl rfl ?_
  refine hp_iv (virt := false) (pc' := 4) (rv := some (.int (hq_50 S i1))) (M1 := hp_mem X (S)) rfl rfl (by decide) (hk_50 S (i1)) rfl rfl ?_
  show hp_T _ 23 4 _ [.int (hq_50 S i1)] _ _ _
  refine hp_if (pc' := 7) rfl rfl (fun h1 => ?_) (fun h1 => ?_)
  · refine hp_sN [10, 11] (pc' := 11) (L' := [some (.ref 0), some (.int i1), none, none, none, none]) (st' := [.int i1, .ref 0]) rfl rfl ?_
    refine hp_iv (virt := true) (pc' := 14) (rv := none) (M1 := hp_mem X (hq_55 S i1)) rfl rfl (by decide) (hk_55 S (i1)) rfl rfl ?_
    show hp_T _ 23 14 _ [] _ _ _
    refine hp_sN [16, 17, 18] (pc' := 18) (L' := [some (.ref 0), some (.int i1), some (.int (Int32.ofInt (-4))), none, none, none]) (st' := [.ref 0]) rfl rfl ?_
    refine hp_gf (pc' := 21) rfl (by decide) (hp_c0 X _) rfl rfl ?_
    refine hp_iv (virt := true) (pc' := 24) (rv := some (.int (hq_190 (hq_55 S i1) 10))) (M1 := hp_mem X (hq_55 S i1)) rfl rfl (by decide) (hk_190 (Or.inr (Or.inl rfl)) (hq_55 S i1)) rfl rfl ?_
    show hp_T _ 23 24 _ [.int (hq_190 (hq_55 S i1) 10)] _ _ _
    refine hp_iv (virt := false) (pc' := 27) (rv := some (.int (hq_216 (hq_55 S i1) (hq_190 (hq_55 S i1) 10)))) (M1 := hp_mem X (hq_55 S i1)) rfl rfl (by decide) (hk_216 (hq_55 S i1) ((hq_190 (hq_55 S i1) 10))) rfl rfl ?_
    show hp_T _ 23 27 _ [.int (hq_216 (hq_55 S i1) (hq_190 (hq_55 S i1) 10))] _ _ _
    refine hp_sN [28, 29, 31] (pc' := 31) (L' := [some (.ref 0), some (.int i1), some (.int (Int32.ofInt (-4))), some (.int (hq_216 (hq_55 S i1) (hq_190 (hq_55 S i1) 10))), some (.int (Int32.ofInt 0)), none]) (st' := []) rfl rfl ?_
    refine ht_23_31 n i1  n (Nat.le_refl _) (((Int32.ofInt 21).toInt - (Int32.ofInt 0).toInt).toNat + 1) (hq_55 S i1) ((Int32.ofInt (-4))) ((hq_216 (hq_55 S i1) (hq_190 (hq_55 S i1) 10))) ((Int32.ofInt 0)) (none) _ (Nat.lt_succ_self _) rfl (fun x5_31 x3_31 x4_31 => ?_)
    show hp_T _ 23 97 [some (.ref 0), some (.int i1), some (.int (hq_23_31 i1 (((Int32.ofInt 21).toInt - (Int32.ofInt 0).toInt).toNat + 1) (hq_55 S i1) ((Int32.ofInt (-4))) ((hq_216 (hq_55 S i1) (hq_190 (hq_55 S i1) 10))) ((Int32.ofInt 0))).2), x3_31, x4_31, x5_31] _ (hp_mem X ((hq_23_31 i1 (((Int32.ofInt 21).toInt - (Int32.ofInt 0).toInt).toNat + 1) (hq_55 S i1) ((Int32.ofInt (-4))) ((hq_216 (hq_55 S i1) (hq_190 (hq_55 S i1) 10))) ((Int32.ofInt 0))).1)) _ _
    refine hp_sN [98] (pc' := 98) (L' := [some (.ref 0), some (.int i1), some (.int (hq_23_31 i1 (((Int32.ofInt 21).toInt - (Int32.ofInt 0).toInt).toNat + 1) (hq_55 S i1) ((Int32.ofInt (-4))) ((hq_216 (hq_55 S i1) (hq_190 (hq_55 S i1) 10))) ((Int32.ofInt 0))).2), x3_31, x4_31, x5_31]) (st' := [.int (hq_23_31 i1 (((Int32.ofInt 21).toInt - (Int32.ofInt 0).toInt).toNat + 1) (hq_55 S i1) ((Int32.ofInt (-4))) ((hq_216 (hq_55 S i1) (hq_190 (hq_55 S i1) 10))) ((Int32.ofInt 0))).2]) rfl rfl ?_
    exact hp_Ris rfl
  · refine hp_sN [8] (pc' := 8) (L' := [some (.ref 0), some (.int i1), none, none, none, none]) (st' := [.int (Int32.ofInt (-1))]) rfl rfl ?_
    exact hp_Ris rfl
theorem hk_23 {X : hp_X} (S : hp_S) (i1 : Int32) : hp_K 23 [.ref 0, .int i1] (hp_mem X S) (hp_is X) (hq_23 S i1) := by
  refine hp_mk (q := hzq_23) rfl (by decide) (L := [some (.ref 0), some (.int i1), none, none, none, none]) rfl (fun n => ?_)
  exact ht_23 S i1 n
/-! 24: HatsOfTheWind.bestSale(I)I -/
def hq_24_22 (i1 : Int32) : Nat → hp_S → Int32 → Int32 → Int32 → Int32
  | 0, S, _, _, _ => 0
  | m + 1, S, v2, v3, v4 => (if hz_cmp .ge v4 (S 10 8) = true then v2 else (if hz_cmp .ne (hq_185 S 10 v4) 0 = true then hq_24_22 i1 m S v2 v3 (v4 + (Int32.ofInt 1)) else (if hz_cmp .le (hq_169 S (S (10 + 5) v4.toNatClampNeg) (S (10 + 6) v4.toNatClampNeg)) v3 = true then hq_24_22 i1 m S v2 v3 (v4 + (Int32.ofInt 1)) else hq_24_22 i1 m S v4 (hq_169 S (S (10 + 5) v4.toNatClampNeg) (S (10 + 6) v4.toNatClampNeg)) (v4 + (Int32.ofInt 1)))))
def hq_24 (S : hp_S) (i1 : Int32) : Int32 × hp_S := (if hz_cmp .ne (hq_50 S i1) 0 = true then ((hq_24_22 i1 (((hq_55 S i1 10 8).toInt - (Int32.ofInt 0).toInt).toNat + 1) (hq_55 S i1) ((Int32.ofInt (-4))) ((Int32.ofInt (-1))) ((Int32.ofInt 0))), hq_55 S i1) else ((Int32.ofInt (-1)), S))
theorem hf_24 (S : hp_S) (i1 : Int32) (j : Nat) (z0 : j ≠ (10 + 1)) (z1 : j ≠ 10) (z2 : j ≠ (10 + 2)) (z3 : j ≠ (10 + 3)) (z4 : j ≠ (10 + 4)) (z5 : j ≠ (10 + 5)) (z6 : j ≠ (10 + 6)) (z7 : j ≠ (10 + 7)) (z8 : j ≠ (10 + 8)) : (hq_24 S i1).2 j = S j := by
  unfold hq_24
  repeat' split
  all_goals simp [hp_wo, hp_wgo, hp_cpo, hf_55, z0, z1, z2, z3, z4, z5, z6, z7, z8]
set_option maxRecDepth 10000 in
theorem ht_24_22 {α : Type} {φ : α → Option Value × hzMem} {R : α} {X : hp_X} (N : Nat) (i1 : Int32) (S : hp_S) : ∀ (n : Nat), n ≤ N → ∀ (m : Nat) (v2 : Int32) (v3 : Int32) (v4 : Int32) (x5 : Option Value) (Z : Int32), ((S 10 8).toInt - v4.toInt).toNat < m → hq_24_22 i1 m S v2 v3 v4 = Z → (∀ (x5 : Option Value) (x3 : Option Value) (x4 : Option Value), hp_T N 24 89 [some (.ref 0), some (.int i1), some (.int Z), x3, x4, x5] [] (hp_mem X S) φ R) → hp_T n 24 22 [some (.ref 0), some (.int i1), some (.int v2), some (.int v3), some (.int v4), x5] [] (hp_mem X S) φ R := by
  intro n
  induction n with
  | zero => intros; exact hp_0
  | succ n ih =>
    intro hN m v2 v3 v4 x5 Z hm hZ kk
    cases m with
    | zero => exact absurd hm (Nat.not_lt_zero _)
    | succ m =>
      rw [hq_24_22] at hZ
      refine hp_sN [24, 25] (pc' := 25) (L' := [some (.ref 0), some (.int i1), some (.int v2), some (.int v3), some (.int v4), x5]) (st' := [.ref 0, .int v4]) rfl rfl ?_
      refine hp_gf (pc' := 28) rfl (by decide) (hp_c0 X _) rfl rfl ?_
      refine hp_gf (pc' := 31) rfl (hp_bl (Or.inr (Or.inl rfl)) 0 (by decide)) (hp_b0 (Or.inr (Or.inl rfl)) X _) rfl rfl ?_
      refine hp_ic2 (pc' := 34) rfl rfl (fun h1 => ?_) (fun h1 => ?_)
      · rw [if_pos h1] at hZ
        subst hZ
        exact hp_le hN (kk (x5) (some (.int v3)) (some (.int v4)))
      · rw [if_neg (hp_nt h1)] at hZ
        refine hp_sN [35] (pc' := 35) (L' := [some (.ref 0), some (.int i1), some (.int v2), some (.int v3), some (.int v4), x5]) (st' := [.ref 0]) rfl rfl ?_
        refine hp_gf (pc' := 38) rfl (by decide) (hp_c0 X _) rfl rfl ?_
        refine hp_gf (pc' := 41) rfl (hp_bl (Or.inr (Or.inl rfl)) 0 (by decide)) (hp_b0 (Or.inr (Or.inl rfl)) X _) rfl rfl ?_
        refine hp_sN [43] (pc' := 43) (L' := [some (.ref 0), some (.int i1), some (.int v2), some (.int v3), some (.int v4), x5]) (st' := [.int v4, .ref (10 + 5)]) rfl rfl ?_
        refine hp_al (pc' := 44) rfl (hp_bl (Or.inr (Or.inl rfl)) 5 (by decide)) (hp_b5 (Or.inr (Or.inl rfl)) X _) rfl ?_
        refine hp_sN [45] (pc' := 45) (L' := [some (.ref 0), some (.int i1), some (.int v2), some (.int v3), some (.int v4), x5]) (st' := [.ref 0, .int (S (10 + 5) v4.toNatClampNeg)]) rfl rfl ?_
        refine hp_gf (pc' := 48) rfl (by decide) (hp_c0 X _) rfl rfl ?_
        refine hp_gf (pc' := 51) rfl (hp_bl (Or.inr (Or.inl rfl)) 0 (by decide)) (hp_b0 (Or.inr (Or.inl rfl)) X _) rfl rfl ?_
        refine hp_sN [53] (pc' := 53) (L' := [some (.ref 0), some (.int i1), some (.int v2), some (.int v3), some (.int v4), x5]) (st' := [.int v4, .ref (10 + 6), .int (S (10 + 5) v4.toNatClampNeg)]) rfl rfl ?_
        refine hp_al (pc' := 54) rfl (hp_bl (Or.inr (Or.inl rfl)) 6 (by decide)) (hp_b6 (Or.inr (Or.inl rfl)) X _) rfl ?_
        refine hp_iv (virt := false) (pc' := 57) (rv := some (.int (hq_169 S (S (10 + 5) v4.toNatClampNeg) (S (10 + 6) v4.toNatClampNeg)))) (M1 := hp_mem X (S)) rfl rfl (by decide) (hk_169 S ((S (10 + 5) v4.toNatClampNeg)) ((S (10 + 6) v4.toNatClampNeg))) rfl rfl ?_
        show hp_T _ 24 57 _ [.int (hq_169 S (S (10 + 5) v4.toNatClampNeg) (S (10 + 6) v4.toNatClampNeg))] _ _ _
        refine hp_sN [59, 60] (pc' := 60) (L' := [some (.ref 0), some (.int i1), some (.int v2), some (.int v3), some (.int v4), some (.int (hq_169 S (S (10 + 5) v4.toNatClampNeg) (S (10 + 6) v4.toNatClampNeg)))]) (st' := [.ref 0]) rfl rfl ?_
        refine hp_gf (pc' := 63) rfl (by decide) (hp_c0 X _) rfl rfl ?_
        refine hp_sN [65] (pc' := 65) (L' := [some (.ref 0), some (.int i1), some (.int v2), some (.int v3), some (.int v4), some (.int (hq_169 S (S (10 + 5) v4.toNatClampNeg) (S (10 + 6) v4.toNatClampNeg)))]) (st' := [.int v4, .ref 10]) rfl rfl ?_
        refine hp_iv (virt := true) (pc' := 68) (rv := some (.int (hq_185 S 10 v4))) (M1 := hp_mem X (S)) rfl rfl (by decide) (hk_185 (Or.inr (Or.inl rfl)) S (v4)) rfl rfl ?_
        show hp_T _ 24 68 _ [.int (hq_185 S 10 v4)] _ _ _
        refine hp_if2 (pc' := 71) rfl rfl (fun h2 => ?_) (fun h2 => ?_)
        · rw [if_pos h2] at hZ
          refine hp_sB 86 [22] (pc' := 22) (L' := [some (.ref 0), some (.int i1), some (.int v2), some (.int v3), some (.int (v4 + (Int32.ofInt 1))), some (.int (hq_169 S (S (10 + 5) v4.toNatClampNeg) (S (10 + 6) v4.toNatClampNeg)))]) (st' := []) rfl rfl ?_
          exact ih (Nat.le_trans (Nat.le_succ n) hN) m (v2) (v3) ((v4 + (Int32.ofInt 1))) (some (.int (hq_169 S (S (10 + 5) v4.toNatClampNeg) (S (10 + 6) v4.toNatClampNeg)))) Z (hp_up h1 hm) hZ kk
        · rw [if_neg (hp_nt h2)] at hZ
          refine hp_sN [73, 74] (pc' := 74) (L' := [some (.ref 0), some (.int i1), some (.int v2), some (.int v3), some (.int v4), some (.int (hq_169 S (S (10 + 5) v4.toNatClampNeg) (S (10 + 6) v4.toNatClampNeg)))]) (st' := [.int v3, .int (hq_169 S (S (10 + 5) v4.toNatClampNeg) (S (10 + 6) v4.toNatClampNeg))]) rfl rfl ?_
          refine hp_ic2 (pc' := 77) rfl rfl (fun h3 => ?_) (fun h3 => ?_)
          · rw [if_pos h3] at hZ
            refine hp_sB 86 [22] (pc' := 22) (L' := [some (.ref 0), some (.int i1), some (.int v2), some (.int v3), some (.int (v4 + (Int32.ofInt 1))), some (.int (hq_169 S (S (10 + 5) v4.toNatClampNeg) (S (10 + 6) v4.toNatClampNeg)))]) (st' := []) rfl rfl ?_
            exact ih (Nat.le_trans (Nat.le_succ n) hN) m (v2) (v3) ((v4 + (Int32.ofInt 1))) (some (.int (hq_169 S (S (10 + 5) v4.toNatClampNeg) (S (10 + 6) v4.toNatClampNeg)))) Z (hp_up h1 hm) hZ kk
          · rw [if_neg (hp_nt h3)] at hZ
            refine hp_sB 79 [80, 82, 83, 86, 22] (pc' := 22) (L' := [some (.ref 0), some (.int i1), some (.int v4), some (.int (hq_169 S (S (10 + 5) v4.toNatClampNeg) (S (10 + 6) v4.toNatClampNeg))), some (.int (v4 + (Int32.ofInt 1))), some (.int (hq_169 S (S (10 + 5) v4.toNatClampNeg) (S (10 + 6) v4.toNatClampNeg)))]) (st' := []) rfl rfl ?_
            exact ih (Nat.le_trans (Nat.le_succ n) hN) m (v4) ((hq_169 S (S (10 + 5) v4.toNatClampNeg) (S (10 + 6) v4.toNatClampNeg))) ((v4 + (Int32.ofInt 1))) (some (.int (hq_169 S (S (10 + 5) v4.toNatClampNeg) (S (10 + 6) v4.toNatClampNeg)))) Z (hp_up h1 hm) hZ kk
set_option maxRecDepth 10000 in
theorem ht_24 {X : hp_X} (S : hp_S) (i1 : Int32) (n : Nat) : hp_T n 24 0 [some (.ref 0), some (.int i1), none, none, none, none] [] (hp_mem X S) (hp_is X) (hq_24 S i1) := by
  unfold hq_24
  refine hp_sN [1] (pc' := 1) (L' := [some (.ref 0), some (.int i1), none, none, none, none]) (st' := [.int i1]) rfl rfl ?_
  refine hp_iv (virt := false) (pc' := 4) (rv := some (.int (hq_50 S i1))) (M1 := hp_mem X (S)) rfl rfl (by decide) (hk_50 S (i1)) rfl rfl ?_
  show hp_T _ 24 4 _ [.int (hq_50 S i1)] _ _ _
  refine hp_if (pc' := 7) rfl rfl (fun h1 => ?_) (fun h1 => ?_)
  · refine hp_sN [10, 11] (pc' := 11) (L' := [some (.ref 0), some (.int i1), none, none, none, none]) (st' := [.int i1, .ref 0]) rfl rfl ?_
    refine hp_iv (virt := true) (pc' := 14) (rv := none) (M1 := hp_mem X (hq_55 S i1)) rfl rfl (by decide) (hk_55 S (i1)) rfl rfl ?_
    show hp_T _ 24 14 _ [] _ _ _
    refine hp_sN [16, 17, 18, 19, 20, 22] (pc' := 22) (L' := [some (.ref 0), some (.int i1), some (.int (Int32.ofInt (-4))), some (.int (Int32.ofInt (-1))), some (.int (Int32.ofInt 0)), none]) (st' := []) rfl rfl ?_
    refine ht_24_22 n i1 (hq_55 S i1) n (Nat.le_refl _) (((hq_55 S i1 10 8).toInt - (Int32.ofInt 0).toInt).toNat + 1)  ((Int32.ofInt (-4))) ((Int32.ofInt (-1))) ((Int32.ofInt 0)) (none) _ (Nat.lt_succ_self _) rfl (fun x5_22 x3_22 x4_22 => ?_)
    show hp_T _ 24 89 [some (.ref 0), some (.int i1), some (.int (hq_24_22 i1 (((hq_55 S i1 10 8).toInt - (Int32.ofInt 0).toInt).toNat + 1) (hq_55 S i1) ((Int32.ofInt (-4))) ((Int32.ofInt (-1))) ((Int32.ofInt 0)))), x3_22, x4_22, x5_22] _ (hp_mem X (hq_55 S i1)) _ _
    refine hp_sN [90] (pc' := 90) (L' := [some (.ref 0), some (.int i1), some (.int (hq_24_22 i1 (((hq_55 S i1 10 8).toInt - (Int32.ofInt 0).toInt).toNat + 1) (hq_55 S i1) ((Int32.ofInt (-4))) ((Int32.ofInt (-1))) ((Int32.ofInt 0)))), x3_22, x4_22, x5_22]) (st' := [.int (hq_24_22 i1 (((hq_55 S i1 10 8).toInt - (Int32.ofInt 0).toInt).toNat + 1) (hq_55 S i1) ((Int32.ofInt (-4))) ((Int32.ofInt (-1))) ((Int32.ofInt 0)))]) rfl rfl ?_
    exact hp_Ris rfl
  · refine hp_sN [8] (pc' := 8) (L' := [some (.ref 0), some (.int i1), none, none, none, none]) (st' := [.int (Int32.ofInt (-1))]) rfl rfl ?_
    exact hp_Ris rfl
theorem hk_24 {X : hp_X} (S : hp_S) (i1 : Int32) : hp_K 24 [.ref 0, .int i1] (hp_mem X S) (hp_is X) (hq_24 S i1) := by
  refine hp_mk (q := hzq_24) rfl (by decide) (L := [some (.ref 0), some (.int i1), none, none, none, none]) rfl (fun n => ?_)
  exact ht_24 S i1 n
/-! 217: java/lang/Integer.numberOfTrailingZeros(I)I -/
def hq_217 (S : hp_S) (i1 : Int32) : Int32 := (if hz_cmp .gt ((i1 ^^^ (Int32.ofInt (-1))) &&& (i1 - (Int32.ofInt 1))) 0 = true then (if hz_cmp .le ((i1 ^^^ (Int32.ofInt (-1))) &&& (i1 - (Int32.ofInt 1))) (Int32.ofInt 65536) = true then (if hz_cmp .le ((i1 ^^^ (Int32.ofInt (-1))) &&& (i1 - (Int32.ofInt 1))) (Int32.ofInt 256) = true then (if hz_cmp .le ((i1 ^^^ (Int32.ofInt (-1))) &&& (i1 - (Int32.ofInt 1))) (Int32.ofInt 16) = true then (if hz_cmp .le ((i1 ^^^ (Int32.ofInt (-1))) &&& (i1 - (Int32.ofInt 1))) (Int32.ofInt 4) = true then ((Int32.ofInt 1) + (((i1 ^^^ (Int32.ofInt (-1))) &&& (i1 - (Int32.ofInt 1))).toUInt32 >>> ((Int32.ofInt 1).toUInt32 &&& Int32.toUInt32 31)).toInt32) else (((Int32.ofInt 1) + (Int32.ofInt 2)) + ((((i1 ^^^ (Int32.ofInt (-1))) &&& (i1 - (Int32.ofInt 1))).toUInt32 >>> ((Int32.ofInt 2).toUInt32 &&& Int32.toUInt32 31)).toInt32.toUInt32 >>> ((Int32.ofInt 1).toUInt32 &&& Int32.toUInt32 31)).toInt32)) else (if hz_cmp .le (((i1 ^^^ (Int32.ofInt (-1))) &&& (i1 - (Int32.ofInt 1))).toUInt32 >>> ((Int32.ofInt 4).toUInt32 &&& Int32.toUInt32 31)).toInt32 (Int32.ofInt 4) = true then (((Int32.ofInt 1) + (Int32.ofInt 4)) + ((((i1 ^^^ (Int32.ofInt (-1))) &&& (i1 - (Int32.ofInt 1))).toUInt32 >>> ((Int32.ofInt 4).toUInt32 &&& Int32.toUInt32 31)).toInt32.toUInt32 >>> ((Int32.ofInt 1).toUInt32 &&& Int32.toUInt32 31)).toInt32) else ((((Int32.ofInt 1) + (Int32.ofInt 4)) + (Int32.ofInt 2)) + (((((i1 ^^^ (Int32.ofInt (-1))) &&& (i1 - (Int32.ofInt 1))).toUInt32 >>> ((Int32.ofInt 4).toUInt32 &&& Int32.toUInt32 31)).toInt32.toUInt32 >>> ((Int32.ofInt 2).toUInt32 &&& Int32.toUInt32 31)).toInt32.toUInt32 >>> ((Int32.ofInt 1).toUInt32 &&& Int32.toUInt32 31)).toInt32))) else (if hz_cmp .le (((i1 ^^^ (Int32.ofInt (-1))) &&& (i1 - (Int32.ofInt 1))).toUInt32 >>> ((Int32.ofInt 8).toUInt32 &&& Int32.toUInt32 31)).toInt32 (Int32.ofInt 16) = true then (if hz_cmp .le (((i1 ^^^ (Int32.ofInt (-1))) &&& (i1 - (Int32.ofInt 1))).toUInt32 >>> ((Int32.ofInt 8).toUInt32 &&& Int32.toUInt32 31)).toInt32 (Int32.ofInt 4) = true then (((Int32.ofInt 1) + (Int32.ofInt 8)) + ((((i1 ^^^ (Int32.ofInt (-1))) &&& (i1 - (Int32.ofInt 1))).toUInt32 >>> ((Int32.ofInt 8).toUInt32 &&& Int32.toUInt32 31)).toInt32.toUInt32 >>> ((Int32.ofInt 1).toUInt32 &&& Int32.toUInt32 31)).toInt32) else ((((Int32.ofInt 1) + (Int32.ofInt 8)) + (Int32.ofInt 2)) + (((((i1 ^^^ (Int32.ofInt (-1))) &&& (i1 - (Int32.ofInt 1))).toUInt32 >>> ((Int32.ofInt 8).toUInt32 &&& Int32.toUInt32 31)).toInt32.toUInt32 >>> ((Int32.ofInt 2).toUInt32 &&& Int32.toUInt32 31)).toInt32.toUInt32 >>> ((Int32.ofInt 1).toUInt32 &&& Int32.toUInt32 31)).toInt32)) else (if hz_cmp .le ((((i1 ^^^ (Int32.ofInt (-1))) &&& (i1 - (Int32.ofInt 1))).toUInt32 >>> ((Int32.ofInt 8).toUInt32 &&& Int32.toUInt32 31)).toInt32.toUInt32 >>> ((Int32.ofInt 4).toUInt32 &&& Int32.toUInt32 31)).toInt32 (Int32.ofInt 4) = true then ((((Int32.ofInt 1) + (Int32.ofInt 8)) + (Int32.ofInt 4)) + (((((i1 ^^^ (Int32.ofInt (-1))) &&& (i1 - (Int32.ofInt 1))).toUInt32 >>> ((Int32.ofInt 8).toUInt32 &&& Int32.toUInt32 31)).toInt32.toUInt32 >>> ((Int32.ofInt 4).toUInt32 &&& Int32.toUInt32 31)).toInt32.toUInt32 >>> ((Int32.ofInt 1).toUInt32 &&& Int32.toUInt32 31)).toInt32) else (((((Int32.ofInt 1) + (Int32.ofInt 8)) + (Int32.ofInt 4)) + (Int32.ofInt 2)) + ((((((i1 ^^^ (Int32.ofInt (-1))) &&& (i1 - (Int32.ofInt 1))).toUInt32 >>> ((Int32.ofInt 8).toUInt32 &&& Int32.toUInt32 31)).toInt32.toUInt32 >>> ((Int32.ofInt 4).toUInt32 &&& Int32.toUInt32 31)).toInt32.toUInt32 >>> ((Int32.ofInt 2).toUInt32 &&& Int32.toUInt32 31)).toInt32.toUInt32 >>> ((Int32.ofInt 1).toUInt32 &&& Int32.toUInt32 31)).toInt32)))) else (if hz_cmp .le (((i1 ^^^ (Int32.ofInt (-1))) &&& (i1 - (Int32.ofInt 1))).toUInt32 >>> ((Int32.ofInt 16).toUInt32 &&& Int32.toUInt32 31)).toInt32 (Int32.ofInt 256) = true then (if hz_cmp .le (((i1 ^^^ (Int32.ofInt (-1))) &&& (i1 - (Int32.ofInt 1))).toUInt32 >>> ((Int32.ofInt 16).toUInt32 &&& Int32.toUInt32 31)).toInt32 (Int32.ofInt 16) = true then (if hz_cmp .le (((i1 ^^^ (Int32.ofInt (-1))) &&& (i1 - (Int32.ofInt 1))).toUInt32 >>> ((Int32.ofInt 16).toUInt32 &&& Int32.toUInt32 31)).toInt32 (Int32.ofInt 4) = true then (((Int32.ofInt 1) + (Int32.ofInt 16)) + ((((i1 ^^^ (Int32.ofInt (-1))) &&& (i1 - (Int32.ofInt 1))).toUInt32 >>> ((Int32.ofInt 16).toUInt32 &&& Int32.toUInt32 31)).toInt32.toUInt32 >>> ((Int32.ofInt 1).toUInt32 &&& Int32.toUInt32 31)).toInt32) else ((((Int32.ofInt 1) + (Int32.ofInt 16)) + (Int32.ofInt 2)) + (((((i1 ^^^ (Int32.ofInt (-1))) &&& (i1 - (Int32.ofInt 1))).toUInt32 >>> ((Int32.ofInt 16).toUInt32 &&& Int32.toUInt32 31)).toInt32.toUInt32 >>> ((Int32.ofInt 2).toUInt32 &&& Int32.toUInt32 31)).toInt32.toUInt32 >>> ((Int32.ofInt 1).toUInt32 &&& Int32.toUInt32 31)).toInt32)) else (if hz_cmp .le ((((i1 ^^^ (Int32.ofInt (-1))) &&& (i1 - (Int32.ofInt 1))).toUInt32 >>> ((Int32.ofInt 16).toUInt32 &&& Int32.toUInt32 31)).toInt32.toUInt32 >>> ((Int32.ofInt 4).toUInt32 &&& Int32.toUInt32 31)).toInt32 (Int32.ofInt 4) = true then ((((Int32.ofInt 1) + (Int32.ofInt 16)) + (Int32.ofInt 4)) + (((((i1 ^^^ (Int32.ofInt (-1))) &&& (i1 - (Int32.ofInt 1))).toUInt32 >>> ((Int32.ofInt 16).toUInt32 &&& Int32.toUInt32 31)).toInt32.toUInt32 >>> ((Int32.ofInt 4).toUInt32 &&& Int32.toUInt32 31)).toInt32.toUInt32 >>> ((Int32.ofInt 1).toUInt32 &&& Int32.toUInt32 31)).toInt32) else (((((Int32.ofInt 1) + (Int32.ofInt 16)) + (Int32.ofInt 4)) + (Int32.ofInt 2)) + ((((((i1 ^^^ (Int32.ofInt (-1))) &&& (i1 - (Int32.ofInt 1))).toUInt32 >>> ((Int32.ofInt 16).toUInt32 &&& Int32.toUInt32 31)).toInt32.toUInt32 >>> ((Int32.ofInt 4).toUInt32 &&& Int32.toUInt32 31)).toInt32.toUInt32 >>> ((Int32.ofInt 2).toUInt32 &&& Int32.toUInt32 31)).toInt32.toUInt32 >>> ((Int32.ofInt 1).toUInt32 &&& Int32.toUInt32 31)).toInt32))) else (if hz_cmp .le ((((i1 ^^^ (Int32.ofInt (-1))) &&& (i1 - (Int32.ofInt 1))).toUInt32 >>> ((Int32.ofInt 16).toUInt32 &&& Int32.toUInt32 31)).toInt32.toUInt32 >>> ((Int32.ofInt 8).toUInt32 &&& Int32.toUInt32 31)).toInt32 (Int32.ofInt 16) = true then (if hz_cmp .le ((((i1 ^^^ (Int32.ofInt (-1))) &&& (i1 - (Int32.ofInt 1))).toUInt32 >>> ((Int32.ofInt 16).toUInt32 &&& Int32.toUInt32 31)).toInt32.toUInt32 >>> ((Int32.ofInt 8).toUInt32 &&& Int32.toUInt32 31)).toInt32 (Int32.ofInt 4) = true then ((((Int32.ofInt 1) + (Int32.ofInt 16)) + (Int32.ofInt 8)) + (((((i1 ^^^ (Int32.ofInt (-1))) &&& (i1 - (Int32.ofInt 1))).toUInt32 >>> ((Int32.ofInt 16).toUInt32 &&& Int32.toUInt32 31)).toInt32.toUInt32 >>> ((Int32.ofInt 8).toUInt32 &&& Int32.toUInt32 31)).toInt32.toUInt32 >>> ((Int32.ofInt 1).toUInt32 &&& Int32.toUInt32 31)).toInt32) else (((((Int32.ofInt 1) + (Int32.ofInt 16)) + (Int32.ofInt 8)) + (Int32.ofInt 2)) + ((((((i1 ^^^ (Int32.ofInt (-1))) &&& (i1 - (Int32.ofInt 1))).toUInt32 >>> ((Int32.ofInt 16).toUInt32 &&& Int32.toUInt32 31)).toInt32.toUInt32 >>> ((Int32.ofInt 8).toUInt32 &&& Int32.toUInt32 31)).toInt32.toUInt32 >>> ((Int32.ofInt 2).toUInt32 &&& Int32.toUInt32 31)).toInt32.toUInt32 >>> ((Int32.ofInt 1).toUInt32 &&& Int32.toUInt32 31)).toInt32)) else (if hz_cmp .le (((((i1 ^^^ (Int32.ofInt (-1))) &&& (i1 - (Int32.ofInt 1))).toUInt32 >>> ((Int32.ofInt 16).toUInt32 &&& Int32.toUInt32 31)).toInt32.toUInt32 >>> ((Int32.ofInt 8).toUInt32 &&& Int32.toUInt32 31)).toInt32.toUInt32 >>> ((Int32.ofInt 4).toUInt32 &&& Int32.toUInt32 31)).toInt32 (Int32.ofInt 4) = true then (((((Int32.ofInt 1) + (Int32.ofInt 16)) + (Int32.ofInt 8)) + (Int32.ofInt 4)) + ((((((i1 ^^^ (Int32.ofInt (-1))) &&& (i1 - (Int32.ofInt 1))).toUInt32 >>> ((Int32.ofInt 16).toUInt32 &&& Int32.toUInt32 31)).toInt32.toUInt32 >>> ((Int32.ofInt 8).toUInt32 &&& Int32.toUInt32 31)).toInt32.toUInt32 >>> ((Int32.ofInt 4).toUInt32 &&& Int32.toUInt32 31)).toInt32.toUInt32 >>> ((Int32.ofInt 1).toUInt32 &&& Int32.toUInt32 31)).toInt32) else ((((((Int32.ofInt 1) + (Int32.ofInt 16)) + (Int32.ofInt 8)) + (Int32.ofInt 4)) + (Int32.ofInt 2)) + (((((((i1 ^^^ (Int32.ofInt (-1))) &&& (i1 - (Int32.ofInt 1))).toUInt32 >>> ((Int32.ofInt 16).toUInt32 &&& Int32.toUInt32 31)).toInt32.toUInt32 >>> ((Int32.ofInt 8).toUInt32 &&& Int32.toUInt32 31)).toInt32.toUInt32 >>> ((Int32.ofInt 4).toUInt32 &&& Int32.toUInt32 31)).toInt32.toUInt32 >>> ((Int32.ofInt 2).toUInt32 &&& Int32.toUInt32 31)).toInt32.toUInt32 >>> ((Int32.ofInt 1).toUInt32 &&& Int32.toUInt32 31)).toInt32))))) else (((i1 ^^^ (Int32.ofInt (-1))) &&& (i1 - (Int32.ofInt 1))) &&& (Int32.ofInt 32)))
set_option maxRecDepth 10000 in
theorem ht_217 {X : hp_X} (S : hp_S) (i1 : Int32) (n : Nat) : hp_T n 217 0 [some (.int i1), none] [] (hp_mem X S) (hp_i X S) (hq_217 S i1) := by
  unfold hq_217
  refine hp_sN [1, 2, 3, 4, 5, 6, 7, 8, 9] (pc' := 9) (L' := [some (.int ((i1 ^^^ (Int32.ofInt (-1))) &&& (i1 - (Int32.ofInt 1)))), none]) (st' := [.int ((i1 ^^^ (Int32.ofInt (-1))) &&& (i1 - (Int32.ofInt 1)))]) rfl rfl ?_
  refine hp_if (pc' := 12) rfl rfl (fun h1 => ?_) (fun h1 => ?_)
  · refine hp_sN [18, 19, 20, 23] (pc' := 23) (L' := [some (.int ((i1 ^^^ (Int32.ofInt (-1))) &&& (i1 - (Int32.ofInt 1)))), some (.int (Int32.ofInt 1))]) (st' := [.int (Int32.ofInt 65536), .int ((i1 ^^^ (Int32.ofInt (-1))) &&& (i1 - (Int32.ofInt 1)))]) rfl rfl ?_
    refine hp_ic (pc' := 26) rfl rfl (fun h2 => ?_) (fun h2 => ?_)
    · refine hp_sN [35, 38] (pc' := 38) (L' := [some (.int ((i1 ^^^ (Int32.ofInt (-1))) &&& (i1 - (Int32.ofInt 1)))), some (.int (Int32.ofInt 1))]) (st' := [.int (Int32.ofInt 256), .int ((i1 ^^^ (Int32.ofInt (-1))) &&& (i1 - (Int32.ofInt 1)))]) rfl rfl ?_
      refine hp_ic (pc' := 41) rfl rfl (fun h3 => ?_) (fun h3 => ?_)
      · refine hp_sN [50, 52] (pc' := 52) (L' := [some (.int ((i1 ^^^ (Int32.ofInt (-1))) &&& (i1 - (Int32.ofInt 1)))), some (.int (Int32.ofInt 1))]) (st' := [.int (Int32.ofInt 16), .int ((i1 ^^^ (Int32.ofInt (-1))) &&& (i1 - (Int32.ofInt 1)))]) rfl rfl ?_
        refine hp_ic (pc' := 55) rfl rfl (fun h4 => ?_) (fun h4 => ?_)
        · refine hp_sN [63, 64] (pc' := 64) (L' := [some (.int ((i1 ^^^ (Int32.ofInt (-1))) &&& (i1 - (Int32.ofInt 1)))), some (.int (Int32.ofInt 1))]) (st' := [.int (Int32.ofInt 4), .int ((i1 ^^^ (Int32.ofInt (-1))) &&& (i1 - (Int32.ofInt 1)))]) rfl rfl ?_
          refine hp_ic (pc' := 67) rfl rfl (fun h5 => ?_) (fun h5 => ?_)
          · refine hp_sN [75, 76, 77, 78, 79] (pc' := 79) (L' := [some (.int ((i1 ^^^ (Int32.ofInt (-1))) &&& (i1 - (Int32.ofInt 1)))), some (.int (Int32.ofInt 1))]) (st' := [.int ((Int32.ofInt 1) + (((i1 ^^^ (Int32.ofInt (-1))) &&& (i1 - (Int32.ofInt 1))).toUInt32 >>> ((Int32.ofInt 1).toUInt32 &&& Int32.toUInt32 31)).toInt32)]) rfl rfl ?_
            exact hp_Ri rfl
          · refine hp_sN [70, 71, 72, 73, 74, 75, 76, 77, 78, 79] (pc' := 79) (L' := [some (.int (((i1 ^^^ (Int32.ofInt (-1))) &&& (i1 - (Int32.ofInt 1))).toUInt32 >>> ((Int32.ofInt 2).toUInt32 &&& Int32.toUInt32 31)).toInt32), some (.int ((Int32.ofInt 1) + (Int32.ofInt 2)))]) (st' := [.int (((Int32.ofInt 1) + (Int32.ofInt 2)) + ((((i1 ^^^ (Int32.ofInt (-1))) &&& (i1 - (Int32.ofInt 1))).toUInt32 >>> ((Int32.ofInt 2).toUInt32 &&& Int32.toUInt32 31)).toInt32.toUInt32 >>> ((Int32.ofInt 1).toUInt32 &&& Int32.toUInt32 31)).toInt32)]) rfl rfl ?_
            exact hp_Ri rfl
        · refine hp_sN [58, 59, 60, 61, 62, 63, 64] (pc' := 64) (L' := [some (.int (((i1 ^^^ (Int32.ofInt (-1))) &&& (i1 - (Int32.ofInt 1))).toUInt32 >>> ((Int32.ofInt 4).toUInt32 &&& Int32.toUInt32 31)).toInt32), some (.int ((Int32.ofInt 1) + (Int32.ofInt 4)))]) (st' := [.int (Int32.ofInt 4), .int (((i1 ^^^ (Int32.ofInt (-1))) &&& (i1 - (Int32.ofInt 1))).toUInt32 >>> ((Int32.ofInt 4).toUInt32 &&& Int32.toUInt32 31)).toInt32]) rfl rfl ?_
          refine hp_ic (pc' := 67) rfl rfl (fun h6 => ?_) (fun h6 => ?_)
          · refine hp_sN [75, 76, 77, 78, 79] (pc' := 79) (L' := [some (.int (((i1 ^^^ (Int32.ofInt (-1))) &&& (i1 - (Int32.ofInt 1))).toUInt32 >>> ((Int32.ofInt 4).toUInt32 &&& Int32.toUInt32 31)).toInt32), some (.int ((Int32.ofInt 1) + (Int32.ofInt 4)))]) (st' := [.int (((Int32.ofInt 1) + (Int32.ofInt 4)) + ((((i1 ^^^ (Int32.ofInt (-1))) &&& (i1 - (Int32.ofInt 1))).toUInt32 >>> ((Int32.ofInt 4).toUInt32 &&& Int32.toUInt32 31)).toInt32.toUInt32 >>> ((Int32.ofInt 1).toUInt32 &&& Int32.toUInt32 31)).toInt32)]) rfl rfl ?_
            exact hp_Ri rfl
          · refine hp_sN [70, 71, 72, 73, 74, 75, 76, 77, 78, 79] (pc' := 79) (L' := [some (.int ((((i1 ^^^ (Int32.ofInt (-1))) &&& (i1 - (Int32.ofInt 1))).toUInt32 >>> ((Int32.ofInt 4).toUInt32 &&& Int32.toUInt32 31)).toInt32.toUInt32 >>> ((Int32.ofInt 2).toUInt32 &&& Int32.toUInt32 31)).toInt32), some (.int (((Int32.ofInt 1) + (Int32.ofInt 4)) + (Int32.ofInt 2)))]) (st' := [.int ((((Int32.ofInt 1) + (Int32.ofInt 4)) + (Int32.ofInt 2)) + (((((i1 ^^^ (Int32.ofInt (-1))) &&& (i1 - (Int32.ofInt 1))).toUInt32 >>> ((Int32.ofInt 4).toUInt32 &&& Int32.toUInt32 31)).toInt32.toUInt32 >>> ((Int32.ofInt 2).toUInt32 &&& Int32.toUInt32 31)).toInt32.toUInt32 >>> ((Int32.ofInt 1).toUInt32 &&& Int32.toUInt32 31)).toInt32)]) rfl rfl ?_
            exact hp_Ri rfl
      · refine hp_sN [44, 45, 47, 48, 49, 50, 52] (pc' := 52) (L' := [some (.int (((i1 ^^^ (Int32.ofInt (-1))) &&& (i1 - (Int32.ofInt 1))).toUInt32 >>> ((Int32.ofInt 8).toUInt32 &&& Int32.toUInt32 31)).toInt32), some (.int ((Int32.ofInt 1) + (Int32.ofInt 8)))]) (st' := [.int (Int32.ofInt 16), .int (((i1 ^^^ (Int32.ofInt (-1))) &&& (i1 - (Int32.ofInt 1))).toUInt32 >>> ((Int32.ofInt 8).toUInt32 &&& Int32.toUInt32 31)).toInt32]) rfl rfl ?_
        refine hp_ic (pc' := 55) rfl rfl (fun h7 => ?_) (fun h7 => ?_)
        · refine hp_sN [63, 64] (pc' := 64) (L' := [some (.int (((i1 ^^^ (Int32.ofInt (-1))) &&& (i1 - (Int32.ofInt 1))).toUInt32 >>> ((Int32.ofInt 8).toUInt32 &&& Int32.toUInt32 31)).toInt32), some (.int ((Int32.ofInt 1) + (Int32.ofInt 8)))]) (st' := [.int (Int32.ofInt 4), .int (((i1 ^^^ (Int32.ofInt (-1))) &&& (i1 - (Int32.ofInt 1))).toUInt32 >>> ((Int32.ofInt 8).toUInt32 &&& Int32.toUInt32 31)).toInt32]) rfl rfl ?_
          refine hp_ic (pc' := 67) rfl rfl (fun h8 => ?_) (fun h8 => ?_)
          · refine hp_sN [75, 76, 77, 78, 79] (pc' := 79) (L' := [some (.int (((i1 ^^^ (Int32.ofInt (-1))) &&& (i1 - (Int32.ofInt 1))).toUInt32 >>> ((Int32.ofInt 8).toUInt32 &&& Int32.toUInt32 31)).toInt32), some (.int ((Int32.ofInt 1) + (Int32.ofInt 8)))]) (st' := [.int (((Int32.ofInt 1) + (Int32.ofInt 8)) + ((((i1 ^^^ (Int32.ofInt (-1))) &&& (i1 - (Int32.ofInt 1))).toUInt32 >>> ((Int32.ofInt 8).toUInt32 &&& Int32.toUInt32 31)).toInt32.toUInt32 >>> ((Int32.ofInt 1).toUInt32 &&& Int32.toUInt32 31)).toInt32)]) rfl rfl ?_
            exact hp_Ri rfl
          · refine hp_sN [70, 71, 72, 73, 74, 75, 76, 77, 78, 79] (pc' := 79) (L' := [some (.int ((((i1 ^^^ (Int32.ofInt (-1))) &&& (i1 - (Int32.ofInt 1))).toUInt32 >>> ((Int32.ofInt 8).toUInt32 &&& Int32.toUInt32 31)).toInt32.toUInt32 >>> ((Int32.ofInt 2).toUInt32 &&& Int32.toUInt32 31)).toInt32), some (.int (((Int32.ofInt 1) + (Int32.ofInt 8)) + (Int32.ofInt 2)))]) (st' := [.int ((((Int32.ofInt 1) + (Int32.ofInt 8)) + (Int32.ofInt 2)) + (((((i1 ^^^ (Int32.ofInt (-1))) &&& (i1 - (Int32.ofInt 1))).toUInt32 >>> ((Int32.ofInt 8).toUInt32 &&& Int32.toUInt32 31)).toInt32.toUInt32 >>> ((Int32.ofInt 2).toUInt32 &&& Int32.toUInt32 31)).toInt32.toUInt32 >>> ((Int32.ofInt 1).toUInt32 &&& Int32.toUInt32 31)).toInt32)]) rfl rfl ?_
            exact hp_Ri rfl
        · refine hp_sN [58, 59, 60, 61, 62, 63, 64] (pc' := 64) (L' := [some (.int ((((i1 ^^^ (Int32.ofInt (-1))) &&& (i1 - (Int32.ofInt 1))).toUInt32 >>> ((Int32.ofInt 8).toUInt32 &&& Int32.toUInt32 31)).toInt32.toUInt32 >>> ((Int32.ofInt 4).toUInt32 &&& Int32.toUInt32 31)).toInt32), some (.int (((Int32.ofInt 1) + (Int32.ofInt 8)) + (Int32.ofInt 4)))]) (st' := [.int (Int32.ofInt 4), .int ((((i1 ^^^ (Int32.ofInt (-1))) &&& (i1 - (Int32.ofInt 1))).toUInt32 >>> ((Int32.ofInt 8).toUInt32 &&& Int32.toUInt32 31)).toInt32.toUInt32 >>> ((Int32.ofInt 4).toUInt32 &&& Int32.toUInt32 31)).toInt32]) rfl rfl ?_
          refine hp_ic (pc' := 67) rfl rfl (fun h9 => ?_) (fun h9 => ?_)
          · refine hp_sN [75, 76, 77, 78, 79] (pc' := 79) (L' := [some (.int ((((i1 ^^^ (Int32.ofInt (-1))) &&& (i1 - (Int32.ofInt 1))).toUInt32 >>> ((Int32.ofInt 8).toUInt32 &&& Int32.toUInt32 31)).toInt32.toUInt32 >>> ((Int32.ofInt 4).toUInt32 &&& Int32.toUInt32 31)).toInt32), some (.int (((Int32.ofInt 1) + (Int32.ofInt 8)) + (Int32.ofInt 4)))]) (st' := [.int ((((Int32.ofInt 1) + (Int32.ofInt 8)) + (Int32.ofInt 4)) + (((((i1 ^^^ (Int32.ofInt (-1))) &&& (i1 - (Int32.ofInt 1))).toUInt32 >>> ((Int32.ofInt 8).toUInt32 &&& Int32.toUInt32 31)).toInt32.toUInt32 >>> ((Int32.ofInt 4).toUInt32 &&& Int32.toUInt32 31)).toInt32.toUInt32 >>> ((Int32.ofInt 1).toUInt32 &&& Int32.toUInt32 31)).toInt32)]) rfl rfl ?_
            exact hp_Ri rfl
          · refine hp_sN [70, 71, 72, 73, 74, 75, 76, 77, 78, 79] (pc' := 79) (L' := [some (.int (((((i1 ^^^ (Int32.ofInt (-1))) &&& (i1 - (Int32.ofInt 1))).toUInt32 >>> ((Int32.ofInt 8).toUInt32 &&& Int32.toUInt32 31)).toInt32.toUInt32 >>> ((Int32.ofInt 4).toUInt32 &&& Int32.toUInt32 31)).toInt32.toUInt32 >>> ((Int32.ofInt 2).toUInt32 &&& Int32.toUInt32 31)).toInt32), some (.int ((((Int32.ofInt 1) + (Int32.ofInt 8)) + (Int32.ofInt 4)) + (Int32.ofInt 2)))]) (st' := [.int (((((Int32.ofInt 1) + (Int32.ofInt 8)) + (Int32.ofInt 4)) + (Int32.ofInt 2)) + ((((((i1 ^^^ (Int32.ofInt (-1))) &&& (i1 - (Int32.ofInt 1))).toUInt32 >>> ((Int32.ofInt 8).toUInt32 &&& Int32.toUInt32 31)).toInt32.toUInt32 >>> ((Int32.ofInt 4).toUInt32 &&& Int32.toUInt32 31)).toInt32.toUInt32 >>> ((Int32.ofInt 2).toUInt32 &&& Int32.toUInt32 31)).toInt32.toUInt32 >>> ((Int32.ofInt 1).toUInt32 &&& Int32.toUInt32 31)).toInt32)]) rfl rfl ?_
            exact hp_Ri rfl
    · refine hp_sN [29, 30, 32, 33, 34, 35, 38] (pc' := 38) (L' := [some (.int (((i1 ^^^ (Int32.ofInt (-1))) &&& (i1 - (Int32.ofInt 1))).toUInt32 >>> ((Int32.ofInt 16).toUInt32 &&& Int32.toUInt32 31)).toInt32), some (.int ((Int32.ofInt 1) + (Int32.ofInt 16)))]) (st' := [.int (Int32.ofInt 256), .int (((i1 ^^^ (Int32.ofInt (-1))) &&& (i1 - (Int32.ofInt 1))).toUInt32 >>> ((Int32.ofInt 16).toUInt32 &&& Int32.toUInt32 31)).toInt32]) rfl rfl ?_
      refine hp_ic (pc' := 41) rfl rfl (fun h10 => ?_) (fun h10 => ?_)
      · refine hp_sN [50, 52] (pc' := 52) (L' := [some (.int (((i1 ^^^ (Int32.ofInt (-1))) &&& (i1 - (Int32.ofInt 1))).toUInt32 >>> ((Int32.ofInt 16).toUInt32 &&& Int32.toUInt32 31)).toInt32), some (.int ((Int32.ofInt 1) + (Int32.ofInt 16)))]) (st' := [.int (Int32.ofInt 16), .int (((i1 ^^^ (Int32.ofInt (-1))) &&& (i1 - (Int32.ofInt 1))).toUInt32 >>> ((Int32.ofInt 16).toUInt32 &&& Int32.toUInt32 31)).toInt32]) rfl rfl ?_
        refine hp_ic (pc' := 55) rfl rfl (fun h11 => ?_) (fun h11 => ?_)
        · refine hp_sN [63, 64] (pc' := 64) (L' := [some (.int (((i1 ^^^ (Int32.ofInt (-1))) &&& (i1 - (Int32.ofInt 1))).toUInt32 >>> ((Int32.ofInt 16).toUInt32 &&& Int32.toUInt32 31)).toInt32), some (.int ((Int32.ofInt 1) + (Int32.ofInt 16)))]) (st' := [.int (Int32.ofInt 4), .int (((i1 ^^^ (Int32.ofInt (-1))) &&& (i1 - (Int32.ofInt 1))).toUInt32 >>> ((Int32.ofInt 16).toUInt32 &&& Int32.toUInt32 31)).toInt32]) rfl rfl ?_
          refine hp_ic (pc' := 67) rfl rfl (fun h12 => ?_) (fun h12 => ?_)
          · refine hp_sN [75, 76, 77, 78, 79] (pc' := 79) (L' := [some (.int (((i1 ^^^ (Int32.ofInt (-1))) &&& (i1 - (Int32.ofInt 1))).toUInt32 >>> ((Int32.ofInt 16).toUInt32 &&& Int32.toUInt32 31)).toInt32), some (.int ((Int32.ofInt 1) + (Int32.ofInt 16)))]) (st' := [.int (((Int32.ofInt 1) + (Int32.ofInt 16)) + ((((i1 ^^^ (Int32.ofInt (-1))) &&& (i1 - (Int32.ofInt 1))).toUInt32 >>> ((Int32.ofInt 16).toUInt32 &&& Int32.toUInt32 31)).toInt32.toUInt32 >>> ((Int32.ofInt 1).toUInt32 &&& Int32.toUInt32 31)).toInt32)]) rfl rfl ?_
            exact hp_Ri rfl
          · refine hp_sN [70, 71, 72, 73, 74, 75, 76, 77, 78, 79] (pc' := 79) (L' := [some (.int ((((i1 ^^^ (Int32.ofInt (-1))) &&& (i1 - (Int32.ofInt 1))).toUInt32 >>> ((Int32.ofInt 16).toUInt32 &&& Int32.toUInt32 31)).toInt32.toUInt32 >>> ((Int32.ofInt 2).toUInt32 &&& Int32.toUInt32 31)).toInt32), some (.int (((Int32.ofInt 1) + (Int32.ofInt 16)) + (Int32.ofInt 2)))]) (st' := [.int ((((Int32.ofInt 1) + (Int32.ofInt 16)) + (Int32.ofInt 2)) + (((((i1 ^^^ (Int32.ofInt (-1))) &&& (i1 - (Int32.ofInt 1))).toUInt32 >>> ((Int32.ofInt 16).toUInt32 &&& Int32.toUInt32 31)).toInt32.toUInt32 >>> ((Int32.ofInt 2).toUInt32 &&& Int32.toUInt32 31)).toInt32.toUInt32 >>> ((Int32.ofInt 1).toUInt32 &&& Int32.toUInt32 31)).toInt32)]) rfl rfl ?_
            exact hp_Ri rfl
        · refine hp_sN [58, 59, 60, 61, 62, 63, 64] (pc' := 64) (L' := [some (.int ((((i1 ^^^ (Int32.ofInt (-1))) &&& (i1 - (Int32.ofInt 1))).toUInt32 >>> ((Int32.ofInt 16).toUInt32 &&& Int32.toUInt32 31)).toInt32.toUInt32 >>> ((Int32.ofInt 4).toUInt32 &&& Int32.toUInt32 31)).toInt32), some (.int (((Int32.ofInt 1) + (Int32.ofInt 16)) + (Int32.ofInt 4)))]) (st' := [.int (Int32.ofInt 4), .int ((((i1 ^^^ (Int32.ofInt (-1))) &&& (i1 - (Int32.ofInt 1))).toUInt32 >>> ((Int32.ofInt 16).toUInt32 &&& Int32.toUInt32 31)).toInt32.toUInt32 >>> ((Int32.ofInt 4).toUInt32 &&& Int32.toUInt32 31)).toInt32]) rfl rfl ?_
          refine hp_ic (pc' := 67) rfl rfl (fun h13 => ?_) (fun h13 => ?_)
          · refine hp_sN [75, 76, 77, 78, 79] (pc' := 79) (L' := [some (.int ((((i1 ^^^ (Int32.ofInt (-1))) &&& (i1 - (Int32.ofInt 1))).toUInt32 >>> ((Int32.ofInt 16).toUInt32 &&& Int32.toUInt32 31)).toInt32.toUInt32 >>> ((Int32.ofInt 4).toUInt32 &&& Int32.toUInt32 31)).toInt32), some (.int (((Int32.ofInt 1) + (Int32.ofInt 16)) + (Int32.ofInt 4)))]) (st' := [.int ((((Int32.ofInt 1) + (Int32.ofInt 16)) + (Int32.ofInt 4)) + (((((i1 ^^^ (Int32.ofInt (-1))) &&& (i1 - (Int32.ofInt 1))).toUInt32 >>> ((Int32.ofInt 16).toUInt32 &&& Int32.toUInt32 31)).toInt32.toUInt32 >>> ((Int32.ofInt 4).toUInt32 &&& Int32.toUInt32 31)).toInt32.toUInt32 >>> ((Int32.ofInt 1).toUInt32 &&& Int32.toUInt32 31)).toInt32)]) rfl rfl ?_
            exact hp_Ri rfl
          · refine hp_sN [70, 71, 72, 73, 74, 75, 76, 77, 78, 79] (pc' := 79) (L' := [some (.int (((((i1 ^^^ (Int32.ofInt (-1))) &&& (i1 - (Int32.ofInt 1))).toUInt32 >>> ((Int32.ofInt 16).toUInt32 &&& Int32.toUInt32 31)).toInt32.toUInt32 >>> ((Int32.ofInt 4).toUInt32 &&& Int32.toUInt32 31)).toInt32.toUInt32 >>> ((Int32.ofInt 2).toUInt32 &&& Int32.toUInt32 31)).toInt32), some (.int ((((Int32.ofInt 1) + (Int32.ofInt 16)) + (Int32.ofInt 4)) + (Int32.ofInt 2)))]) (st' := [.int (((((Int32.ofInt 1) + (Int32.ofInt 16)) + (Int32.ofInt 4)) + (Int32.ofInt 2)) + ((((((i1 ^^^ (Int32.ofInt (-1))) &&& (i1 - (Int32.ofInt 1))).toUInt32 >>> ((Int32.ofInt 16).toUInt32 &&& Int32.toUInt32 31)).toInt32.toUInt32 >>> ((Int32.ofInt 4).toUInt32 &&& Int32.toUInt32 31)).toInt32.toUInt32 >>> ((Int32.ofInt 2).toUInt32 &&& Int32.toUInt32 31)).toInt32.toUInt32 >>> ((Int32.ofInt 1).toUInt32 &&& Int32.toUInt32 31)).toInt32)]) rfl rfl ?_
            exact hp_Ri rfl
      · refine hp_sN [44, 45, 47, 48, 49, 50, 52] (pc' := 52) (L' := [some (.int ((((i1 ^^^ (Int32.ofInt (-1))) &&& (i1 - (Int32.ofInt 1))).toUInt32 >>> ((Int32.ofInt 16).toUInt32 &&& Int32.toUInt32 31)).toInt32.toUInt32 >>> ((Int32.ofInt 8).toUInt32 &&& Int32.toUInt32 31)).toInt32), some (.int (((Int32.ofInt 1) + (Int32.ofInt 16)) + (Int32.ofInt 8)))]) (st' := [.int (Int32.ofInt 16), .int ((((i1 ^^^ (Int32.ofInt (-1))) &&& (i1 - (Int32.ofInt 1))).toUInt32 >>> ((Int32.ofInt 16).toUInt32 &&& Int32.toUInt32 31)).toInt32.toUInt32 >>> ((Int32.ofInt 8).toUInt32 &&& Int32.toUInt32 31)).toInt32]) rfl rfl ?_
        refine hp_ic (pc' := 55) rfl rfl (fun h14 => ?_) (fun h14 => ?_)
        · refine hp_sN [63, 64] (pc' := 64) (L' := [some (.int ((((i1 ^^^ (Int32.ofInt (-1))) &&& (i1 - (Int32.ofInt 1))).toUInt32 >>> ((Int32.ofInt 16).toUInt32 &&& Int32.toUInt32 31)).toInt32.toUInt32 >>> ((Int32.ofInt 8).toUInt32 &&& Int32.toUInt32 31)).toInt32), some (.int (((Int32.ofInt 1) + (Int32.ofInt 16)) + (Int32.ofInt 8)))]) (st' := [.int (Int32.ofInt 4), .int ((((i1 ^^^ (Int32.ofInt (-1))) &&& (i1 - (Int32.ofInt 1))).toUInt32 >>> ((Int32.ofInt 16).toUInt32 &&& Int32.toUInt32 31)).toInt32.toUInt32 >>> ((Int32.ofInt 8).toUInt32 &&& Int32.toUInt32 31)).toInt32]) rfl rfl ?_
          refine hp_ic (pc' := 67) rfl rfl (fun h15 => ?_) (fun h15 => ?_)
          · refine hp_sN [75, 76, 77, 78, 79] (pc' := 79) (L' := [some (.int ((((i1 ^^^ (Int32.ofInt (-1))) &&& (i1 - (Int32.ofInt 1))).toUInt32 >>> ((Int32.ofInt 16).toUInt32 &&& Int32.toUInt32 31)).toInt32.toUInt32 >>> ((Int32.ofInt 8).toUInt32 &&& Int32.toUInt32 31)).toInt32), some (.int (((Int32.ofInt 1) + (Int32.ofInt 16)) + (Int32.ofInt 8)))]) (st' := [.int ((((Int32.ofInt 1) + (Int32.ofInt 16)) + (Int32.ofInt 8)) + (((((i1 ^^^ (Int32.ofInt (-1))) &&& (i1 - (Int32.ofInt 1))).toUInt32 >>> ((Int32.ofInt 16).toUInt32 &&& Int32.toUInt32 31)).toInt32.toUInt32 >>> ((Int32.ofInt 8).toUInt32 &&& Int32.toUInt32 31)).toInt32.toUInt32 >>> ((Int32.ofInt 1).toUInt32 &&& Int32.toUInt32 31)).toInt32)]) rfl rfl ?_
            exact hp_Ri rfl
          · refine hp_sN [70, 71, 72, 73, 74, 75, 76, 77, 78, 79] (pc' := 79) (L' := [some (.int (((((i1 ^^^ (Int32.ofInt (-1))) &&& (i1 - (Int32.ofInt 1))).toUInt32 >>> ((Int32.ofInt 16).toUInt32 &&& Int32.toUInt32 31)).toInt32.toUInt32 >>> ((Int32.ofInt 8).toUInt32 &&& Int32.toUInt32 31)).toInt32.toUInt32 >>> ((Int32.ofInt 2).toUInt32 &&& Int32.toUInt32 31)).toInt32), some (.int ((((Int32.ofInt 1) + (Int32.ofInt 16)) + (Int32.ofInt 8)) + (Int32.ofInt 2)))]) (st' := [.int (((((Int32.ofInt 1) + (Int32.ofInt 16)) + (Int32.ofInt 8)) + (Int32.ofInt 2)) + ((((((i1 ^^^ (Int32.ofInt (-1))) &&& (i1 - (Int32.ofInt 1))).toUInt32 >>> ((Int32.ofInt 16).toUInt32 &&& Int32.toUInt32 31)).toInt32.toUInt32 >>> ((Int32.ofInt 8).toUInt32 &&& Int32.toUInt32 31)).toInt32.toUInt32 >>> ((Int32.ofInt 2).toUInt32 &&& Int32.toUInt32 31)).toInt32.toUInt32 >>> ((Int32.ofInt 1).toUInt32 &&& Int32.toUInt32 31)).toInt32)]) rfl rfl ?_
            exact hp_Ri rfl
        · refine hp_sN [58, 59, 60, 61, 62, 63, 64] (pc' := 64) (L' := [some (.int (((((i1 ^^^ (Int32.ofInt (-1))) &&& (i1 - (Int32.ofInt 1))).toUInt32 >>> ((Int32.ofInt 16).toUInt32 &&& Int32.toUInt32 31)).toInt32.toUInt32 >>> ((Int32.ofInt 8).toUInt32 &&& Int32.toUInt32 31)).toInt32.toUInt32 >>> ((Int32.ofInt 4).toUInt32 &&& Int32.toUInt32 31)).toInt32), some (.int ((((Int32.ofInt 1) + (Int32.ofInt 16)) + (Int32.ofInt 8)) + (Int32.ofInt 4)))]) (st' := [.int (Int32.ofInt 4), .int (((((i1 ^^^ (Int32.ofInt (-1))) &&& (i1 - (Int32.ofInt 1))).toUInt32 >>> ((Int32.ofInt 16).toUInt32 &&& Int32.toUInt32 31)).toInt32.toUInt32 >>> ((Int32.ofInt 8).toUInt32 &&& Int32.toUInt32 31)).toInt32.toUInt32 >>> ((Int32.ofInt 4).toUInt32 &&& Int32.toUInt32 31)).toInt32]) rfl rfl ?_
          refine hp_ic (pc' := 67) rfl rfl (fun h16 => ?_) (fun h16 => ?_)
          · refine hp_sN [75, 76, 77, 78, 79] (pc' := 79) (L' := [some (.int (((((i1 ^^^ (Int32.ofInt (-1))) &&& (i1 - (Int32.ofInt 1))).toUInt32 >>> ((Int32.ofInt 16).toUInt32 &&& Int32.toUInt32 31)).toInt32.toUInt32 >>> ((Int32.ofInt 8).toUInt32 &&& Int32.toUInt32 31)).toInt32.toUInt32 >>> ((Int32.ofInt 4).toUInt32 &&& Int32.toUInt32 31)).toInt32), some (.int ((((Int32.ofInt 1) + (Int32.ofInt 16)) + (Int32.ofInt 8)) + (Int32.ofInt 4)))]) (st' := [.int (((((Int32.ofInt 1) + (Int32.ofInt 16)) + (Int32.ofInt 8)) + (Int32.ofInt 4)) + ((((((i1 ^^^ (Int32.ofInt (-1))) &&& (i1 - (Int32.ofInt 1))).toUInt32 >>> ((Int32.ofInt 16).toUInt32 &&& Int32.toUInt32 31)).toInt32.toUInt32 >>> ((Int32.ofInt 8).toUInt32 &&& Int32.toUInt32 31)).toInt32.toUInt32 >>> ((Int32.ofInt 4).toUInt32 &&& Int32.toUInt32 31)).toInt32.toUInt32 >>> ((Int32.ofInt 1).toUInt32 &&& Int32.toUInt32 31)).toInt32)]) rfl rfl ?_
            exact hp_Ri rfl
          · refine hp_sN [70, 71, 72, 73, 74, 75, 76, 77, 78, 79] (pc' := 79) (L' := [some (.int ((((((i1 ^^^ (Int32.ofInt (-1))) &&& (i1 - (Int32.ofInt 1))).toUInt32 >>> ((Int32.ofInt 16).toUInt32 &&& Int32.toUInt32 31)).toInt32.toUInt32 >>> ((Int32.ofInt 8).toUInt32 &&& Int32.toUInt32 31)).toInt32.toUInt32 >>> ((Int32.ofInt 4).toUInt32 &&& Int32.toUInt32 31)).toInt32.toUInt32 >>> ((Int32.ofInt 2).toUInt32 &&& Int32.toUInt32 31)).toInt32), some (.int (((((Int32.ofInt 1) + (Int32.ofInt 16)) + (Int32.ofInt 8)) + (Int32.ofInt 4)) + (Int32.ofInt 2)))]) (st' := [.int ((((((Int32.ofInt 1) + (Int32.ofInt 16)) + (Int32.ofInt 8)) + (Int32.ofInt 4)) + (Int32.ofInt 2)) + (((((((i1 ^^^ (Int32.ofInt (-1))) &&& (i1 - (Int32.ofInt 1))).toUInt32 >>> ((Int32.ofInt 16).toUInt32 &&& Int32.toUInt32 31)).toInt32.toUInt32 >>> ((Int32.ofInt 8).toUInt32 &&& Int32.toUInt32 31)).toInt32.toUInt32 >>> ((Int32.ofInt 4).toUInt32 &&& Int32.toUInt32 31)).toInt32.toUInt32 >>> ((Int32.ofInt 2).toUInt32 &&& Int32.toUInt32 31)).toInt32.toUInt32 >>> ((Int32.ofInt 1).toUInt32 &&& Int32.toUInt32 31)).toInt32)]) rfl rfl ?_
            exact hp_Ri rfl
  · refine hp_sN [13, 15, 16] (pc' := 16) (L' := [some (.int ((i1 ^^^ (Int32.ofInt (-1))) &&& (i1 - (Int32.ofInt 1)))), none]) (st' := [.int (((i1 ^^^ (Int32.ofInt (-1))) &&& (i1 - (Int32.ofInt 1))) &&& (Int32.ofInt 32))]) rfl rfl ?_
    exact hp_Ri rfl
theorem hk_217 {X : hp_X} (S : hp_S) (i1 : Int32) : hp_K 217 [.int i1] (hp_mem X S) (hp_i X S) (hq_217 S i1) := by
  refine hp_mk (q := hzq_217) rfl (by decide) (L := [some (.int i1), none]) rfl (fun n => ?_)
  exact ht_217 S i1 n
/-! 25: HatsOfTheWind.race()I -/
def hq_25_15 : Nat → hp_S → Int32 → Int32 → Int32 × hp_S
  | 0, S, _, _ => (0, S)
  | m + 1, S, v1, v2 => (if hz_cmp .ge v2 (Int32.ofInt 99) = true then ((Int32.ofInt (-4)), S) else (if hz_cmp .eq (v1 &&& ((hq_189 (hq_201 S 10) 10) ^^^ (Int32.ofInt (-1)))) 0 = true then hq_25_15 m (hq_201 S 10) v1 (v2 + (Int32.ofInt 1)) else ((hq_217 (hq_201 S 10) (v1 &&& ((hq_189 (hq_201 S 10) 10) ^^^ (Int32.ofInt (-1))))), hq_201 S 10)))
def hq_25 (S : hp_S) : Int32 × hp_S := (hq_25_15 (((Int32.ofInt 99).toInt - (Int32.ofInt 0).toInt).toNat + 1) (hq_55 S (Int32.ofInt 0)) ((hq_189 S 1)) ((Int32.ofInt 0)))
theorem hf_25_15 (j : Nat) (z0 : j ≠ (10 + 1)) (z1 : j ≠ 10) (z2 : j ≠ (10 + 2)) (z3 : j ≠ (10 + 3)) (z4 : j ≠ (10 + 4)) (z5 : j ≠ (10 + 5)) (z6 : j ≠ (10 + 6)) (z7 : j ≠ (10 + 7)) (z8 : j ≠ (10 + 8)) : ∀ (m : Nat) (S : hp_S) (v1 : Int32) (v2 : Int32), (hq_25_15 m S v1 v2).2 j = S j := by
  intro m
  induction m with
  | zero => intros; rfl
  | succ m ih =>
    intro S v1 v2
    rw [hq_25_15]
    repeat' split
    all_goals simp [ih, hp_wo, hp_wgo, hp_cpo, hf_55, hf_201, z0, z1, z2, z3, z4, z5, z6, z7, z8]
theorem hf_25 (S : hp_S) (j : Nat) (z0 : j ≠ (10 + 1)) (z1 : j ≠ 10) (z2 : j ≠ (10 + 2)) (z3 : j ≠ (10 + 3)) (z4 : j ≠ (10 + 4)) (z5 : j ≠ (10 + 5)) (z6 : j ≠ (10 + 6)) (z7 : j ≠ (10 + 7)) (z8 : j ≠ (10 + 8)) : (hq_25 S).2 j = S j := by
  unfold hq_25
  repeat' split
  all_goals simp [hp_wo, hp_wgo, hp_cpo, hf_55, hf_201, z0, z1, z2, z3, z4, z5, z6, z7, z8, hf_25_15]
set_option maxRecDepth 10000 in
theorem ht_25_15 {X : hp_X} : ∀ (n m : Nat) (S : hp_S) (v1 : Int32) (v2 : Int32) (x3 : Option Value), ((Int32.ofInt 99).toInt - v2.toInt).toNat < m → hp_T n 25 15 [some (.ref 0), some (.int v1), some (.int v2), x3] [] (hp_mem X S) (hp_is X) (hq_25_15 m S v1 v2) := by
  intro n
  induction n with
  | zero => intros; exact hp_0
  | succ n ih =>
    intro m S v1 v2 x3 hm
    cases m with
    | zero => exact absurd hm (Nat.not_lt_zero _)
    | succ m =>
      rw [hq_25_15]
      refine hp_sN [16, 18] (pc' := 18) (L' := [some (.ref 0), some (.int v1), some (.int v2), x3]) (st' := [.int (Int32.ofInt 99), .int v2]) rfl rfl ?_
      refine hp_ic (pc' := 21) rfl rfl (fun h1 => ?_) (fun h1 => ?_)
      · refine hp_sN [57] (pc' := 57) (L' := [some (.ref 0), some (.int v1), some (.int v2), x3]) (st' := [.int (Int32.ofInt (-4))]) rfl rfl ?_
        exact hp_Ris rfl
      · refine hp_sN [22] (pc' := 22) (L' := [some (.ref 0), some (.int v1), some (.int v2), x3]) (st' := [.ref 0]) rfl rfl ?_
        refine hp_gf (pc' := 25) rfl (by decide) (hp_c0 X _) rfl rfl ?_
        refine hp_iv (virt := true) (pc' := 28) (rv := none) (M1 := hp_mem X (hq_201 S 10)) rfl rfl (by decide) (hk_201 (Or.inr (Or.inl rfl)) S) rfl rfl ?_
        show hp_T _ 25 28 _ [] _ _ _
        refine hp_sN [29, 30] (pc' := 30) (L' := [some (.ref 0), some (.int v1), some (.int v2), x3]) (st' := [.ref 0, .int v1]) rfl rfl ?_
        refine hp_gf (pc' := 33) rfl (by decide) (hp_c0 X _) rfl rfl ?_
        refine hp_iv (virt := true) (pc' := 36) (rv := some (.int (hq_189 (hq_201 S 10) 10))) (M1 := hp_mem X (hq_201 S 10)) rfl rfl (by decide) (hk_189 (Or.inr (Or.inl rfl)) (hq_201 S 10)) rfl rfl ?_
        show hp_T _ 25 36 _ [.int (hq_189 (hq_201 S 10) 10), .int v1] _ _ _
        refine hp_sN [37, 38, 39, 40, 41] (pc' := 41) (L' := [some (.ref 0), some (.int v1), some (.int v2), some (.int (v1 &&& ((hq_189 (hq_201 S 10) 10) ^^^ (Int32.ofInt (-1)))))]) (st' := [.int (v1 &&& ((hq_189 (hq_201 S 10) 10) ^^^ (Int32.ofInt (-1))))]) rfl rfl ?_
        refine hp_if (pc' := 44) rfl rfl (fun h2 => ?_) (fun h2 => ?_)
        · refine hp_sB 52 [15] (pc' := 15) (L' := [some (.ref 0), some (.int v1), some (.int (v2 + (Int32.ofInt 1))), some (.int (v1 &&& ((hq_189 (hq_201 S 10) 10) ^^^ (Int32.ofInt (-1)))))]) (st' := []) rfl rfl ?_
          exact ih m (hq_201 S 10) (v1) ((v2 + (Int32.ofInt 1))) (some (.int (v1 &&& ((hq_189 (hq_201 S 10) 10) ^^^ (Int32.ofInt (-1)))))) (hp_up h1 hm)
        · refine hp_sN [45] (pc' := 45) (L' := [some (.ref 0), some (.int v1), some (.int v2), some (.int (v1 &&& ((hq_189 (hq_201 S 10) 10) ^^^ (Int32.ofInt (-1)))))]) (st' := [.int (v1 &&& ((hq_189 (hq_201 S 10) 10) ^^^ (Int32.ofInt (-1))))]) rfl rfl ?_
          refine hp_iv (virt := false) (pc' := 48) (rv := some (.int (hq_217 (hq_201 S 10) (v1 &&& ((hq_189 (hq_201 S 10) 10) ^^^ (Int32.ofInt (-1))))))) (M1 := hp_mem X (hq_201 S 10)) rfl rfl (by decide) (hk_217 (hq_201 S 10) ((v1 &&& ((hq_189 (hq_201 S 10) 10) ^^^ (Int32.ofInt (-1)))))) rfl rfl ?_
          show hp_T _ 25 48 _ [.int (hq_217 (hq_201 S 10) (v1 &&& ((hq_189 (hq_201 S 10) 10) ^^^ (Int32.ofInt (-1)))))] _ _ _
          exact hp_Ris rfl
set_option maxRecDepth 10000 in
theorem ht_25 {X : hp_X} (S : hp_S) (n : Nat) : hp_T n 25 0 [some (.ref 0), none, none, none] [] (hp_mem X S) (hp_is X) (hq_25 S) := by
  unfold hq_25
  refine hp_sN [1] (pc' := 1) (L' := [some (.ref 0), none, none, none]) (st' := [.ref 0]) rfl rfl ?_
  refine hp_gf (pc' := 4) rfl (by decide) (hp_c0 X _) rfl rfl ?_
  refine hp_iv (virt := true) (pc' := 7) (rv := some (.int (hq_189 S 1))) (M1 := hp_mem X (S)) rfl rfl (by decide) (hk_189 (Or.inl rfl) S) rfl rfl ?_
  show hp_T _ 25 7 _ [.int (hq_189 S 1)] _ _ _
  refine hp_sN [8, 9, 10] (pc' := 10) (L' := [some (.ref 0), some (.int (hq_189 S 1)), none, none]) (st' := [.int (Int32.ofInt 0), .ref 0]) rfl rfl ?_
  refine hp_iv (virt := true) (pc' := 13) (rv := none) (M1 := hp_mem X (hq_55 S (Int32.ofInt 0))) rfl rfl (by decide) (hk_55 S ((Int32.ofInt 0))) rfl rfl ?_
  show hp_T _ 25 13 _ [] _ _ _
  refine hp_sN [14, 15] (pc' := 15) (L' := [some (.ref 0), some (.int (hq_189 S 1)), some (.int (Int32.ofInt 0)), none]) (st' := []) rfl rfl ?_
  exact ht_25_15  n (((Int32.ofInt 99).toInt - (Int32.ofInt 0).toInt).toNat + 1) (hq_55 S (Int32.ofInt 0)) ((hq_189 S 1)) ((Int32.ofInt 0)) (none) (Nat.lt_succ_self _)
theorem hk_25 {X : hp_X} (S : hp_S) : hp_K 25 [.ref 0] (hp_mem X S) (hp_is X) (hq_25 S) := by
  refine hp_mk (q := hzq_25) rfl (by decide) (L := [some (.ref 0), none, none, none]) rfl (fun n => ?_)
  exact ht_25 S n

/-! 26: HatsOfTheWind.swaps(I)I -/
def hq_26_18 (i1 : Int32) : Nat → hp_S → Int32 → Int32 → Int32
  | 0, S, _, _ => 0
  | m + 1, S, v2, v3 => (if hz_cmp .ge v3 (S 1 8) = true then v2 else (if hz_cmp .eq (hq_183 S 1 v3) 0 = true then hq_26_18 i1 m S v2 (v3 + (Int32.ofInt 1)) else (if hz_cmp .eq (hq_183 S 10 v3) 0 = true then hq_26_18 i1 m S v2 (v3 + (Int32.ofInt 1)) else (if hz_cmp .eq (S (1 + 7) v3.toNatClampNeg) (S (10 + 7) v3.toNatClampNeg) = true then hq_26_18 i1 m S v2 (v3 + (Int32.ofInt 1)) else hq_26_18 i1 m S (v2 + (Int32.ofInt 1)) (v3 + (Int32.ofInt 1))))))
def hq_26 (S : hp_S) (i1 : Int32) : Int32 × hp_S := (if hz_cmp .ne (hq_50 S i1) 0 = true then ((hq_26_18 i1 (((hq_55 S i1 1 8).toInt - (Int32.ofInt 0).toInt).toNat + 1) (hq_55 S i1) ((Int32.ofInt 0)) ((Int32.ofInt 0))), hq_55 S i1) else ((Int32.ofInt (-1)), S))
theorem hf_26 (S : hp_S) (i1 : Int32) (j : Nat) (z0 : j ≠ (10 + 1)) (z1 : j ≠ 10) (z2 : j ≠ (10 + 2)) (z3 : j ≠ (10 + 3)) (z4 : j ≠ (10 + 4)) (z5 : j ≠ (10 + 5)) (z6 : j ≠ (10 + 6)) (z7 : j ≠ (10 + 7)) (z8 : j ≠ (10 + 8)) : (hq_26 S i1).2 j = S j := by
  unfold hq_26
  repeat' split
  all_goals simp [hp_wo, hp_wgo, hp_cpo, hf_55, z0, z1, z2, z3, z4, z5, z6, z7, z8]
set_option maxRecDepth 10000 in
theorem ht_26_18 {α : Type} {φ : α → Option Value × hzMem} {R : α} {X : hp_X} (N : Nat) (i1 : Int32) (S : hp_S) : ∀ (n : Nat), n ≤ N → ∀ (m : Nat) (v2 : Int32) (v3 : Int32) (Z : Int32), ((S 1 8).toInt - v3.toInt).toNat < m → hq_26_18 i1 m S v2 v3 = Z → (∀ (x3 : Option Value), hp_T N 26 81 [some (.ref 0), some (.int i1), some (.int Z), x3] [] (hp_mem X S) φ R) → hp_T n 26 18 [some (.ref 0), some (.int i1), some (.int v2), some (.int v3)] [] (hp_mem X S) φ R := by
  intro n
  induction n with
  | zero => intros; exact hp_0
  | succ n ih =>
    intro hN m v2 v3 Z hm hZ kk
    cases m with
    | zero => exact absurd hm (Nat.not_lt_zero _)
    | succ m =>
      rw [hq_26_18] at hZ
      refine hp_sN [19, 20] (pc' := 20) (L' := [some (.ref 0), some (.int i1), some (.int v2), some (.int v3)]) (st' := [.ref 0, .int v3]) rfl rfl ?_
      refine hp_gf (pc' := 23) rfl (by decide) (hp_c0 X _) rfl rfl ?_
      refine hp_gf (pc' := 26) rfl (hp_bl (Or.inl rfl) 0 (by decide)) (hp_b0 (Or.inl rfl) X _) rfl rfl ?_
      refine hp_ic2 (pc' := 29) rfl rfl (fun h1 => ?_) (fun h1 => ?_)
      · rw [if_pos h1] at hZ
        subst hZ
        exact hp_le hN (kk (some (.int v3)))
      · rw [if_neg (hp_nt h1)] at hZ
        refine hp_sN [30] (pc' := 30) (L' := [some (.ref 0), some (.int i1), some (.int v2), some (.int v3)]) (st' := [.ref 0]) rfl rfl ?_
        refine hp_gf (pc' := 33) rfl (by decide) (hp_c0 X _) rfl rfl ?_
        refine hp_sN [34] (pc' := 34) (L' := [some (.ref 0), some (.int i1), some (.int v2), some (.int v3)]) (st' := [.int v3, .ref 1]) rfl rfl ?_
        refine hp_iv (virt := true) (pc' := 37) (rv := some (.int (hq_183 S 1 v3))) (M1 := hp_mem X (S)) rfl rfl (by decide) (hk_183 (Or.inl rfl) S (v3)) rfl rfl ?_
        show hp_T _ 26 37 _ [.int (hq_183 S 1 v3)] _ _ _
        refine hp_if2 (pc' := 40) rfl rfl (fun h2 => ?_) (fun h2 => ?_)
        · rw [if_pos h2] at hZ
          refine hp_sB 78 [18] (pc' := 18) (L' := [some (.ref 0), some (.int i1), some (.int v2), some (.int (v3 + (Int32.ofInt 1)))]) (st' := []) rfl rfl ?_
          exact ih (Nat.le_trans (Nat.le_succ n) hN) m (v2) ((v3 + (Int32.ofInt 1))) Z (hp_up h1 hm) hZ kk
        · rw [if_neg (hp_nt h2)] at hZ
          refine hp_sN [41] (pc' := 41) (L' := [some (.ref 0), some (.int i1), some (.int v2), some (.int v3)]) (st' := [.ref 0]) rfl rfl ?_
          refine hp_gf (pc' := 44) rfl (by decide) (hp_c0 X _) rfl rfl ?_
          refine hp_sN [45] (pc' := 45) (L' := [some (.ref 0), some (.int i1), some (.int v2), some (.int v3)]) (st' := [.int v3, .ref 10]) rfl rfl ?_
          refine hp_iv (virt := true) (pc' := 48) (rv := some (.int (hq_183 S 10 v3))) (M1 := hp_mem X (S)) rfl rfl (by decide) (hk_183 (Or.inr (Or.inl rfl)) S (v3)) rfl rfl ?_
          show hp_T _ 26 48 _ [.int (hq_183 S 10 v3)] _ _ _
          refine hp_if2 (pc' := 51) rfl rfl (fun h3 => ?_) (fun h3 => ?_)
          · rw [if_pos h3] at hZ
            refine hp_sB 78 [18] (pc' := 18) (L' := [some (.ref 0), some (.int i1), some (.int v2), some (.int (v3 + (Int32.ofInt 1)))]) (st' := []) rfl rfl ?_
            exact ih (Nat.le_trans (Nat.le_succ n) hN) m (v2) ((v3 + (Int32.ofInt 1))) Z (hp_up h1 hm) hZ kk
          · rw [if_neg (hp_nt h3)] at hZ
            refine hp_sN [52] (pc' := 52) (L' := [some (.ref 0), some (.int i1), some (.int v2), some (.int v3)]) (st' := [.ref 0]) rfl rfl ?_
            refine hp_gf (pc' := 55) rfl (by decide) (hp_c0 X _) rfl rfl ?_
            refine hp_gf (pc' := 58) rfl (hp_bl (Or.inl rfl) 0 (by decide)) (hp_b0 (Or.inl rfl) X _) rfl rfl ?_
            refine hp_sN [59] (pc' := 59) (L' := [some (.ref 0), some (.int i1), some (.int v2), some (.int v3)]) (st' := [.int v3, .ref (1 + 7)]) rfl rfl ?_
            refine hp_al (pc' := 60) rfl (hp_bl (Or.inl rfl) 7 (by decide)) (hp_b7 (Or.inl rfl) X _) rfl ?_
            refine hp_sN [61] (pc' := 61) (L' := [some (.ref 0), some (.int i1), some (.int v2), some (.int v3)]) (st' := [.ref 0, .int (S (1 + 7) v3.toNatClampNeg)]) rfl rfl ?_
            refine hp_gf (pc' := 64) rfl (by decide) (hp_c0 X _) rfl rfl ?_
            refine hp_gf (pc' := 67) rfl (hp_bl (Or.inr (Or.inl rfl)) 0 (by decide)) (hp_b0 (Or.inr (Or.inl rfl)) X _) rfl rfl ?_
            refine hp_sN [68] (pc' := 68) (L' := [some (.ref 0), some (.int i1), some (.int v2), some (.int v3)]) (st' := [.int v3, .ref (10 + 7), .int (S (1 + 7) v3.toNatClampNeg)]) rfl rfl ?_
            refine hp_al (pc' := 69) rfl (hp_bl (Or.inr (Or.inl rfl)) 7 (by decide)) (hp_b7 (Or.inr (Or.inl rfl)) X _) rfl ?_
            refine hp_ic2 (pc' := 72) rfl rfl (fun h4 => ?_) (fun h4 => ?_)
            · rw [if_pos h4] at hZ
              refine hp_sB 78 [18] (pc' := 18) (L' := [some (.ref 0), some (.int i1), some (.int v2), some (.int (v3 + (Int32.ofInt 1)))]) (st' := []) rfl rfl ?_
              exact ih (Nat.le_trans (Nat.le_succ n) hN) m (v2) ((v3 + (Int32.ofInt 1))) Z (hp_up h1 hm) hZ kk
            · rw [if_neg (hp_nt h4)] at hZ
              refine hp_sB 75 [78, 18] (pc' := 18) (L' := [some (.ref 0), some (.int i1), some (.int (v2 + (Int32.ofInt 1))), some (.int (v3 + (Int32.ofInt 1)))]) (st' := []) rfl rfl ?_
              exact ih (Nat.le_trans (Nat.le_succ n) hN) m ((v2 + (Int32.ofInt 1))) ((v3 + (Int32.ofInt 1))) Z (hp_up h1 hm) hZ kk
set_option maxRecDepth 10000 in
theorem ht_26 {X : hp_X} (S : hp_S) (i1 : Int32) (n : Nat) : hp_T n 26 0 [some (.ref 0), some (.int i1), none, none] [] (hp_mem X S) (hp_is X) (hq_26 S i1) := by
  unfold hq_26
  refine hp_sN [1] (pc' := 1) (L' := [some (.ref 0), some (.int i1), none, none]) (st' := [.int i1]) rfl rfl ?_
  refine hp_iv (virt := false) (pc' := 4) (rv := some (.int (hq_50 S i1))) (M1 := hp_mem X (S)) rfl rfl (by decide) (hk_50 S (i1)) rfl rfl ?_
  show hp_T _ 26 4 _ [.int (hq_50 S i1)] _ _ _
  refine hp_if (pc' := 7) rfl rfl (fun h1 => ?_) (fun h1 => ?_)
  · refine hp_sN [10, 11] (pc' := 11) (L' := [some (.ref 0), some (.int i1), none, none]) (st' := [.int i1, .ref 0]) rfl rfl ?_
    refine hp_iv (virt := true) (pc' := 14) (rv := none) (M1 := hp_mem X (hq_55 S i1)) rfl rfl (by decide) (hk_55 S (i1)) rfl rfl ?_
    show hp_T _ 26 14 _ [] _ _ _
    refine hp_sN [15, 16, 17, 18] (pc' := 18) (L' := [some (.ref 0), some (.int i1), some (.int (Int32.ofInt 0)), some (.int (Int32.ofInt 0))]) (st' := []) rfl rfl ?_
    refine ht_26_18 n i1 (hq_55 S i1) n (Nat.le_refl _) (((hq_55 S i1 1 8).toInt - (Int32.ofInt 0).toInt).toNat + 1)  ((Int32.ofInt 0)) ((Int32.ofInt 0))  _ (Nat.lt_succ_self _) rfl (fun x3_18 => ?_)
    show hp_T _ 26 81 [some (.ref 0), some (.int i1), some (.int (hq_26_18 i1 (((hq_55 S i1 1 8).toInt - (Int32.ofInt 0).toInt).toNat + 1) (hq_55 S i1) ((Int32.ofInt 0)) ((Int32.ofInt 0)))), x3_18] _ (hp_mem X (hq_55 S i1)) _ _
    refine hp_sN [82] (pc' := 82) (L' := [some (.ref 0), some (.int i1), some (.int (hq_26_18 i1 (((hq_55 S i1 1 8).toInt - (Int32.ofInt 0).toInt).toNat + 1) (hq_55 S i1) ((Int32.ofInt 0)) ((Int32.ofInt 0)))), x3_18]) (st' := [.int (hq_26_18 i1 (((hq_55 S i1 1 8).toInt - (Int32.ofInt 0).toInt).toNat + 1) (hq_55 S i1) ((Int32.ofInt 0)) ((Int32.ofInt 0)))]) rfl rfl ?_
    exact hp_Ris rfl
  · refine hp_sN [8] (pc' := 8) (L' := [some (.ref 0), some (.int i1), none, none]) (st' := [.int (Int32.ofInt (-1))]) rfl rfl ?_
    exact hp_Ris rfl
theorem hk_26 {X : hp_X} (S : hp_S) (i1 : Int32) : hp_K 26 [.ref 0, .int i1] (hp_mem X S) (hp_is X) (hq_26 S i1) := by
  refine hp_mk (q := hzq_26) rfl (by decide) (L := [some (.ref 0), some (.int i1), none, none]) rfl (fun n => ?_)
  exact ht_26 S i1 n
/-! 62: HatsOfTheWind.suppose(III)V -/
def hq_62 (S : hp_S) (i1 : Int32) (i2 : Int32) (i3 : Int32) : hp_S := (if hz_cmp .ne i2 0 = true then (if hz_cmp .ne i2 (Int32.ofInt 1) = true then hp_w S (10 + 6) i1.toNatClampNeg i3 else hp_w S (10 + 5) i1.toNatClampNeg i3) else hp_w S (10 + 1) (S 10 2).toNatClampNeg i3)
theorem hf_62 (S : hp_S) (i1 : Int32) (i2 : Int32) (i3 : Int32) (j : Nat) (z0 : j ≠ (10 + 6)) (z1 : j ≠ (10 + 5)) (z2 : j ≠ (10 + 1)) : (hq_62 S i1 i2 i3) j = S j := by
  unfold hq_62
  repeat' split
  all_goals simp [hp_wo, hp_wgo, hp_cpo, z0, z1, z2]
set_option maxRecDepth 10000 in
theorem ht_62 {X : hp_X} (S : hp_S) (i1 : Int32) (i2 : Int32) (i3 : Int32) (n : Nat) : hp_T n 62 0 [some (.ref 0), some (.int i1), some (.int i2), some (.int i3)] [] (hp_mem X S) (hp_v X) (hq_62 S i1 i2 i3) := by
  unfold hq_62
  refine hp_sN [1] (pc' := 1) (L' := [some (.ref 0), some (.int i1), some (.int i2), some (.int i3)]) (st' := [.int i2]) rfl rfl ?_
  refine hp_if (pc' := 4) rfl rfl (fun h1 => ?_) (fun h1 => ?_)
  · refine hp_sN [24, 25] (pc' := 25) (L' := [some (.ref 0), some (.int i1), some (.int i2), some (.int i3)]) (st' := [.int (Int32.ofInt 1), .int i2]) rfl rfl ?_
    refine hp_ic (pc' := 28) rfl rfl (fun h2 => ?_) (fun h2 => ?_)
    · refine hp_sN [42] (pc' := 42) (L' := [some (.ref 0), some (.int i1), some (.int i2), some (.int i3)]) (st' := [.ref 0]) rfl rfl ?_
      refine hp_gf (pc' := 45) rfl (by decide) (hp_c0 X _) rfl rfl ?_
      refine hp_gf (pc' := 48) rfl (hp_bl (Or.inr (Or.inl rfl)) 0 (by decide)) (hp_b0 (Or.inr (Or.inl rfl)) X _) rfl rfl ?_
      refine hp_sN [49, 50] (pc' := 50) (L' := [some (.ref 0), some (.int i1), some (.int i2), some (.int i3)]) (st' := [.int i3, .int i1, .ref (10 + 6)]) rfl rfl ?_
      refine hp_as (pc' := 51) rfl (hp_bl (Or.inr (Or.inl rfl)) 6 (by decide)) (fun _ => (hp_b6 (Or.inr (Or.inl rfl)) X _)) rfl ?_
      exact hp_Rv rfl
    · refine hp_sN [29] (pc' := 29) (L' := [some (.ref 0), some (.int i1), some (.int i2), some (.int i3)]) (st' := [.ref 0]) rfl rfl ?_
      refine hp_gf (pc' := 32) rfl (by decide) (hp_c0 X _) rfl rfl ?_
      refine hp_gf (pc' := 35) rfl (hp_bl (Or.inr (Or.inl rfl)) 0 (by decide)) (hp_b0 (Or.inr (Or.inl rfl)) X _) rfl rfl ?_
      refine hp_sN [36, 37] (pc' := 37) (L' := [some (.ref 0), some (.int i1), some (.int i2), some (.int i3)]) (st' := [.int i3, .int i1, .ref (10 + 5)]) rfl rfl ?_
      refine hp_as (pc' := 38) rfl (hp_bl (Or.inr (Or.inl rfl)) 5 (by decide)) (fun _ => (hp_b5 (Or.inr (Or.inl rfl)) X _)) rfl ?_
      refine hp_sN [51] (pc' := 51) (L' := [some (.ref 0), some (.int i1), some (.int i2), some (.int i3)]) (st' := []) rfl rfl ?_
      exact hp_Rv rfl
  · refine hp_sN [5] (pc' := 5) (L' := [some (.ref 0), some (.int i1), some (.int i2), some (.int i3)]) (st' := [.ref 0]) rfl rfl ?_
    refine hp_gf (pc' := 8) rfl (by decide) (hp_c0 X _) rfl rfl ?_
    refine hp_gf (pc' := 11) rfl (hp_bl (Or.inr (Or.inl rfl)) 0 (by decide)) (hp_b0 (Or.inr (Or.inl rfl)) X _) rfl rfl ?_
    refine hp_sN [12] (pc' := 12) (L' := [some (.ref 0), some (.int i1), some (.int i2), some (.int i3)]) (st' := [.ref 0, .ref (10 + 1)]) rfl rfl ?_
    refine hp_gf (pc' := 15) rfl (by decide) (hp_c0 X _) rfl rfl ?_
    refine hp_gf (pc' := 18) rfl (hp_bl (Or.inr (Or.inl rfl)) 0 (by decide)) (hp_b0 (Or.inr (Or.inl rfl)) X _) rfl rfl ?_
    refine hp_sN [19] (pc' := 19) (L' := [some (.ref 0), some (.int i1), some (.int i2), some (.int i3)]) (st' := [.int i3, .int (S 10 2), .ref (10 + 1)]) rfl rfl ?_
    refine hp_as (pc' := 20) rfl (hp_bl (Or.inr (Or.inl rfl)) 1 (by decide)) (fun _ => (hp_b1 (Or.inr (Or.inl rfl)) X _)) rfl ?_
    refine hp_sN [51] (pc' := 51) (L' := [some (.ref 0), some (.int i1), some (.int i2), some (.int i3)]) (st' := []) rfl rfl ?_
    exact hp_Rv rfl
theorem hk_62 {X : hp_X} (S : hp_S) (i1 : Int32) (i2 : Int32) (i3 : Int32) : hp_K 62 [.ref 0, .int i1, .int i2, .int i3] (hp_mem X S) (hp_v X) (hq_62 S i1 i2 i3) := by
  refine hp_mk (q := hzq_62) rfl (by decide) (L := [some (.ref 0), some (.int i1), some (.int i2), some (.int i3)]) rfl (fun n => ?_)
  exact ht_62 S i1 i2 i3 n
/-! 176: HatsOfTheWind$Shelf.leastNumber()I -/
def hq_176 (S : hp_S) (e : Nat) : Int32 := (if hz_cmp .ne (S (29 + 2 * e) 3) 0 = true then (if hz_cmp .ne (S (29 + 2 * e) 3) (Int32.ofInt 1) = true then (Int32.ofInt (-2147483648)) else (Int32.ofInt (-32768))) else (Int32.ofInt (-128)))
set_option maxRecDepth 10000 in
theorem ht_176 {X : hp_X} {e : Nat} (he : e < 8) (S : hp_S) (n : Nat) : hp_T n 176 0 [some (.ref (29 + 2 * e))] [] (hp_mem X S) (hp_i X S) (hq_176 S e) := by
  unfold hq_176
  refine hp_sN [1] (pc' := 1) (L' := [some (.ref (29 + 2 * e))]) (st' := [.ref (29 + 2 * e)]) rfl rfl ?_
  refine hp_gf (pc' := 4) rfl (hp_sl0 he) (hp_s0 he X _) rfl rfl ?_
  refine hp_if (pc' := 7) rfl rfl (fun h1 => ?_) (fun h1 => ?_)
  · refine hp_sN [11] (pc' := 11) (L' := [some (.ref (29 + 2 * e))]) (st' := [.ref (29 + 2 * e)]) rfl rfl ?_
    refine hp_gf (pc' := 14) rfl (hp_sl0 he) (hp_s0 he X _) rfl rfl ?_
    refine hp_sN [15] (pc' := 15) (L' := [some (.ref (29 + 2 * e))]) (st' := [.int (Int32.ofInt 1), .int (S (29 + 2 * e) 3)]) rfl rfl ?_
    refine hp_ic (pc' := 18) rfl rfl (fun h2 => ?_) (fun h2 => ?_)
    · refine hp_sN [26] (pc' := 26) (L' := [some (.ref (29 + 2 * e))]) (st' := [.int (Int32.ofInt (-2147483648))]) rfl rfl ?_
      exact hp_Ri rfl
    · refine hp_sN [21, 26] (pc' := 26) (L' := [some (.ref (29 + 2 * e))]) (st' := [.int (Int32.ofInt (-32768))]) rfl rfl ?_
      exact hp_Ri rfl
  · refine hp_sN [9] (pc' := 9) (L' := [some (.ref (29 + 2 * e))]) (st' := [.int (Int32.ofInt (-128))]) rfl rfl ?_
    exact hp_Ri rfl
theorem hk_176 {X : hp_X} {e : Nat} (he : e < 8) (S : hp_S) : hp_K 176 [.ref (29 + 2 * e)] (hp_mem X S) (hp_i X S) (hq_176 S e) := by
  refine hp_mk (q := hzq_176) rfl (by decide) (L := [some (.ref (29 + 2 * e))]) rfl (fun n => ?_)
  exact ht_176 he S n
/-! 177: HatsOfTheWind$Shelf.isSkipped(I)Z -/
def hq_177 (S : hp_S) (e : Nat) (i1 : Int32) : Int32 := (if hz_cmp .ne (S (30 + 2 * e) i1.toNatClampNeg) (hq_176 S e) = true then (Int32.ofInt 0) else (Int32.ofInt 1))
set_option maxRecDepth 10000 in
theorem ht_177 {X : hp_X} {e : Nat} (he : e < 8) (S : hp_S) (i1 : Int32) (n : Nat) : hp_T n 177 0 [some (.ref (29 + 2 * e)), some (.int i1)] [] (hp_mem X S) (hp_i X S) (hq_177 S e i1) := by
  unfold hq_177
  refine hp_sN [1] (pc' := 1) (L' := [some (.ref (29 + 2 * e)), some (.int i1)]) (st' := [.ref (29 + 2 * e)]) rfl rfl ?_
  refine hp_gf (pc' := 4) rfl (hp_sl0 he) (hp_s0 he X _) rfl rfl ?_
  refine hp_sN [5] (pc' := 5) (L' := [some (.ref (29 + 2 * e)), some (.int i1)]) (st' := [.int i1, .ref (30 + 2 * e)]) rfl rfl ?_
  refine hp_al (pc' := 6) rfl (hp_sl1 he) (hp_s1 he X _) rfl ?_
  refine hp_sN [7] (pc' := 7) (L' := [some (.ref (29 + 2 * e)), some (.int i1)]) (st' := [.ref (29 + 2 * e), .int (S (30 + 2 * e) i1.toNatClampNeg)]) rfl rfl ?_
  refine hp_iv (virt := true) (pc' := 10) (rv := some (.int (hq_176 S e))) (M1 := hp_mem X (S)) rfl rfl (by decide) (hk_176 he S) rfl rfl ?_
  show hp_T _ 177 10 _ [.int (hq_176 S e), .int (S (30 + 2 * e) i1.toNatClampNeg)] _ _ _
  refine hp_ic (pc' := 13) rfl rfl (fun h1 => ?_) (fun h1 => ?_)
  · refine hp_sN [18] (pc' := 18) (L' := [some (.ref (29 + 2 * e)), some (.int i1)]) (st' := [.int (Int32.ofInt 0)]) rfl rfl ?_
    exact hp_Ri rfl
  · refine hp_sN [14, 18] (pc' := 18) (L' := [some (.ref (29 + 2 * e)), some (.int i1)]) (st' := [.int (Int32.ofInt 1)]) rfl rfl ?_
    exact hp_Ri rfl
theorem hk_177 {X : hp_X} {e : Nat} (he : e < 8) (S : hp_S) (i1 : Int32) : hp_K 177 [.ref (29 + 2 * e), .int i1] (hp_mem X S) (hp_i X S) (hq_177 S e i1) := by
  refine hp_mk (q := hzq_177) rfl (by decide) (L := [some (.ref (29 + 2 * e)), some (.int i1)]) rfl (fun n => ?_)
  exact ht_177 he S i1 n
/-! 63: HatsOfTheWind.wentAsTold(LHatsOfTheWind$Shelf;I)Z -/
def hq_63_2 (e : Nat) (i2 : Int32) : Nat → hp_S → Int32 → Int32 × hp_S
  | 0, S, _ => (0, S)
  | m + 1, S, v3 => (if hz_cmp .ge v3 (S (29 + 2 * e) 4) = true then ((Int32.ofInt 1), S) else (if hz_cmp .ne (hq_177 S e v3) 0 = true then hq_63_2 e i2 m (hq_201 S 10) (v3 + (Int32.ofInt 1)) else (if hz_cmp .eq (S (30 + 2 * e) v3.toNatClampNeg) (hq_186 S 10 i2) = true then hq_63_2 e i2 m (hq_201 S 10) (v3 + (Int32.ofInt 1)) else ((Int32.ofInt 0), S))))
def hq_63 (S : hp_S) (e : Nat) (i2 : Int32) : Int32 × hp_S := (hq_63_2 e i2 (((S (29 + 2 * e) 4).toInt - (Int32.ofInt 0).toInt).toNat + 1) S ((Int32.ofInt 0)))
theorem hf_63_2 {e : Nat} {i2 : Int32} (j : Nat) (z0 : j ≠ (10 + 7)) (z1 : j ≠ (10 + 8)) (z2 : j ≠ (10 + 2)) (z3 : j ≠ 10) : ∀ (m : Nat) (S : hp_S) (v3 : Int32), (hq_63_2 e i2 m S v3).2 j = S j := by
  intro m
  induction m with
  | zero => intros; rfl
  | succ m ih =>
    intro S v3
    rw [hq_63_2]
    repeat' split
    all_goals simp [ih, hp_wo, hp_wgo, hp_cpo, hf_201, z0, z1, z2, z3]
theorem hf_63 {e : Nat} (S : hp_S) (i2 : Int32) (j : Nat) (z0 : j ≠ (10 + 7)) (z1 : j ≠ (10 + 8)) (z2 : j ≠ (10 + 2)) (z3 : j ≠ 10) : (hq_63 S e i2).2 j = S j := by
  unfold hq_63
  repeat' split
  all_goals simp [hp_wo, hp_wgo, hp_cpo, hf_201, z0, z1, z2, z3, hf_63_2]
set_option maxRecDepth 10000 in
theorem ht_63_2 {X : hp_X} {e : Nat} (he : e < 8) (i2 : Int32) : ∀ (n m : Nat) (S : hp_S) (v3 : Int32), ((S (29 + 2 * e) 4).toInt - v3.toInt).toNat < m → hp_T n 63 2 [some (.ref 0), some (.ref (29 + 2 * e)), some (.int i2), some (.int v3)] [] (hp_mem X S) (hp_is X) (hq_63_2 e i2 m S v3) := by
  intro n
  induction n with
  | zero => intros; exact hp_0
  | succ n ih =>
    intro m S v3 hm
    cases m with
    | zero => exact absurd hm (Nat.not_lt_zero _)
    | succ m =>
      rw [hq_63_2]
      refine hp_sN [3, 4] (pc' := 4) (L' := [some (.ref 0), some (.ref (29 + 2 * e)), some (.int i2), some (.int v3)]) (st' := [.ref (29 + 2 * e), .int v3]) rfl rfl ?_
      refine hp_gf (pc' := 7) rfl (hp_sl0 he) (hp_s0 he X _) rfl rfl ?_
      refine hp_ic (pc' := 10) rfl rfl (fun h1 => ?_) (fun h1 => ?_)
      · refine hp_sN [51] (pc' := 51) (L' := [some (.ref 0), some (.ref (29 + 2 * e)), some (.int i2), some (.int v3)]) (st' := [.int (Int32.ofInt 1)]) rfl rfl ?_
        exact hp_Ris rfl
      · refine hp_sN [11, 12] (pc' := 12) (L' := [some (.ref 0), some (.ref (29 + 2 * e)), some (.int i2), some (.int v3)]) (st' := [.int v3, .ref (29 + 2 * e)]) rfl rfl ?_
        refine hp_iv (virt := true) (pc' := 15) (rv := some (.int (hq_177 S e v3))) (M1 := hp_mem X (S)) rfl rfl (by decide) (hk_177 he S (v3)) rfl rfl ?_
        show hp_T _ 63 15 _ [.int (hq_177 S e v3)] _ _ _
        refine hp_if (pc' := 18) rfl rfl (fun h2 => ?_) (fun h2 => ?_)
        · refine hp_sN [38] (pc' := 38) (L' := [some (.ref 0), some (.ref (29 + 2 * e)), some (.int i2), some (.int v3)]) (st' := [.ref 0]) rfl rfl ?_
          refine hp_gf (pc' := 41) rfl (by decide) (hp_c0 X _) rfl rfl ?_
          refine hp_iv (virt := true) (pc' := 44) (rv := none) (M1 := hp_mem X (hq_201 S 10)) rfl rfl (by decide) (hk_201 (Or.inr (Or.inl rfl)) S) rfl rfl ?_
          show hp_T _ 63 44 _ [] _ _ _
          refine hp_sB 47 [2] (pc' := 2) (L' := [some (.ref 0), some (.ref (29 + 2 * e)), some (.int i2), some (.int (v3 + (Int32.ofInt 1)))]) (st' := []) rfl rfl ?_
          exact ih m (hq_201 S 10) ((v3 + (Int32.ofInt 1))) (by rw [show ((hq_201 S 10) (29 + 2 * e) 4) = (S (29 + 2 * e) 4) from by simp (disch := omega) [hp_wo, hp_wgo, hp_cpo, hf_201]]; exact (hp_up h1 hm))
        · refine hp_sN [19] (pc' := 19) (L' := [some (.ref 0), some (.ref (29 + 2 * e)), some (.int i2), some (.int v3)]) (st' := [.ref (29 + 2 * e)]) rfl rfl ?_
          refine hp_gf (pc' := 22) rfl (hp_sl0 he) (hp_s0 he X _) rfl rfl ?_
          refine hp_sN [23] (pc' := 23) (L' := [some (.ref 0), some (.ref (29 + 2 * e)), some (.int i2), some (.int v3)]) (st' := [.int v3, .ref (30 + 2 * e)]) rfl rfl ?_
          refine hp_al (pc' := 24) rfl (hp_sl1 he) (hp_s1 he X _) rfl ?_
          refine hp_sN [25] (pc' := 25) (L' := [some (.ref 0), some (.ref (29 + 2 * e)), some (.int i2), some (.int v3)]) (st' := [.ref 0, .int (S (30 + 2 * e) v3.toNatClampNeg)]) rfl rfl ?_
          refine hp_gf (pc' := 28) rfl (by decide) (hp_c0 X _) rfl rfl ?_
          refine hp_sN [29] (pc' := 29) (L' := [some (.ref 0), some (.ref (29 + 2 * e)), some (.int i2), some (.int v3)]) (st' := [.int i2, .ref 10, .int (S (30 + 2 * e) v3.toNatClampNeg)]) rfl rfl ?_
          refine hp_iv (virt := true) (pc' := 32) (rv := some (.int (hq_186 S 10 i2))) (M1 := hp_mem X (S)) rfl rfl (by decide) (hk_186 (Or.inr (Or.inl rfl)) S (i2)) rfl rfl ?_
          show hp_T _ 63 32 _ [.int (hq_186 S 10 i2), .int (S (30 + 2 * e) v3.toNatClampNeg)] _ _ _
          refine hp_ic (pc' := 35) rfl rfl (fun h3 => ?_) (fun h3 => ?_)
          · refine hp_sN [38] (pc' := 38) (L' := [some (.ref 0), some (.ref (29 + 2 * e)), some (.int i2), some (.int v3)]) (st' := [.ref 0]) rfl rfl ?_
            refine hp_gf (pc' := 41) rfl (by decide) (hp_c0 X _) rfl rfl ?_
            refine hp_iv (virt := true) (pc' := 44) (rv := none) (M1 := hp_mem X (hq_201 S 10)) rfl rfl (by decide) (hk_201 (Or.inr (Or.inl rfl)) S) rfl rfl ?_
            show hp_T _ 63 44 _ [] _ _ _
            refine hp_sB 47 [2] (pc' := 2) (L' := [some (.ref 0), some (.ref (29 + 2 * e)), some (.int i2), some (.int (v3 + (Int32.ofInt 1)))]) (st' := []) rfl rfl ?_
            exact ih m (hq_201 S 10) ((v3 + (Int32.ofInt 1))) (by rw [show ((hq_201 S 10) (29 + 2 * e) 4) = (S (29 + 2 * e) 4) from by simp (disch := omega) [hp_wo, hp_wgo, hp_cpo, hf_201]]; exact (hp_up h1 hm))
          · refine hp_sN [36] (pc' := 36) (L' := [some (.ref 0), some (.ref (29 + 2 * e)), some (.int i2), some (.int v3)]) (st' := [.int (Int32.ofInt 0)]) rfl rfl ?_
            exact hp_Ris rfl
set_option maxRecDepth 10000 in
theorem ht_63 {X : hp_X} {e : Nat} (he : e < 8) (S : hp_S) (i2 : Int32) (n : Nat) : hp_T n 63 0 [some (.ref 0), some (.ref (29 + 2 * e)), some (.int i2), none] [] (hp_mem X S) (hp_is X) (hq_63 S e i2) := by
  unfold hq_63
  refine hp_sN [1, 2] (pc' := 2) (L' := [some (.ref 0), some (.ref (29 + 2 * e)), some (.int i2), some (.int (Int32.ofInt 0))]) (st' := []) rfl rfl ?_
  exact ht_63_2 he i2  n (((S (29 + 2 * e) 4).toInt - (Int32.ofInt 0).toInt).toNat + 1) S ((Int32.ofInt 0))  (Nat.lt_succ_self _)
theorem hk_63 {X : hp_X} {e : Nat} (he : e < 8) (S : hp_S) (i2 : Int32) : hp_K 63 [.ref 0, .ref (29 + 2 * e), .int i2] (hp_mem X S) (hp_is X) (hq_63 S e i2) := by
  refine hp_mk (q := hzq_63) rfl (by decide) (L := [some (.ref 0), some (.ref (29 + 2 * e)), some (.int i2), none]) rfl (fun n => ?_)
  exact ht_63 he S i2 n
/-! 27: HatsOfTheWind.whatIs(III)I -/
def hq_27_57 (i1 : Int32) (i2 : Int32) (i3 : Int32) : Nat → hp_S → Int32 → Int32 → Int32 → Int32 → hp_S × Int32
  | 0, S, _, _, _, _ => (S, 0)
  | m + 1, S, v4, v5, v6, v7 => (if hz_cmp .ge v7 v5 = true then (S, v6) else (if hz_cmp .eq (hq_63 (hq_62 (hq_55 S (Int32.ofInt 0)) i2 i3 v7) i1.toNatClampNeg i2).1 0 = true then hq_27_57 i1 i2 i3 m ((hq_63 (hq_62 (hq_55 S (Int32.ofInt 0)) i2 i3 v7) i1.toNatClampNeg i2).2) v4 v5 v6 (v7 + (Int32.ofInt 1)) else hq_27_57 i1 i2 i3 m ((hq_63 (hq_62 (hq_55 S (Int32.ofInt 0)) i2 i3 v7) i1.toNatClampNeg i2).2) v4 v5 (v6 ||| ((Int32.ofInt 1) <<< (v7 &&& 31))) (v7 + (Int32.ofInt 1))))
def hq_27 (S : hp_S) (i1 : Int32) (i2 : Int32) (i3 : Int32) : Int32 × hp_S := (if hz_cmp .eq (hq_182 S 1 i2) 0 = true then ((Int32.ofInt (-1)), S) else (if hz_cmp .ne (hq_44 S i3 (Int32.ofInt 0) (Int32.ofInt 2)) 0 = true then (if hz_cmp .eq (hq_52 S i1) 0 = true then (if hz_cmp .ne i3 (Int32.ofInt 1) = true then ((hq_27_57 i1 i2 i3 (((Int32.ofInt 10).toInt - (Int32.ofInt 0).toInt).toNat + 1) S ((hq_52 S i1)) ((Int32.ofInt 10)) ((Int32.ofInt 0)) ((Int32.ofInt 0))).2, (hq_27_57 i1 i2 i3 (((Int32.ofInt 10).toInt - (Int32.ofInt 0).toInt).toNat + 1) S ((hq_52 S i1)) ((Int32.ofInt 10)) ((Int32.ofInt 0)) ((Int32.ofInt 0))).1) else ((hq_27_57 i1 i2 i3 (((Int32.ofInt 8).toInt - (Int32.ofInt 0).toInt).toNat + 1) S ((hq_52 S i1)) ((Int32.ofInt 8)) ((Int32.ofInt 0)) ((Int32.ofInt 0))).2, (hq_27_57 i1 i2 i3 (((Int32.ofInt 8).toInt - (Int32.ofInt 0).toInt).toNat + 1) S ((hq_52 S i1)) ((Int32.ofInt 8)) ((Int32.ofInt 0)) ((Int32.ofInt 0))).1)) else ((hq_52 S i1), S)) else ((Int32.ofInt (-1)), S)))
theorem hf_27_57 {i1 : Int32} {i2 : Int32} {i3 : Int32} (j : Nat) (z0 : j ≠ (10 + 1)) (z1 : j ≠ 10) (z2 : j ≠ (10 + 2)) (z3 : j ≠ (10 + 3)) (z4 : j ≠ (10 + 4)) (z5 : j ≠ (10 + 5)) (z6 : j ≠ (10 + 6)) (z7 : j ≠ (10 + 7)) (z8 : j ≠ (10 + 8)) : ∀ (m : Nat) (S : hp_S) (v4 : Int32) (v5 : Int32) (v6 : Int32) (v7 : Int32), (hq_27_57 i1 i2 i3 m S v4 v5 v6 v7).1 j = S j := by
  intro m
  induction m with
  | zero => intros; rfl
  | succ m ih =>
    intro S v4 v5 v6 v7
    rw [hq_27_57]
    repeat' split
    all_goals simp [ih, hp_wo, hp_wgo, hp_cpo, hf_55, hf_62, hf_63, z0, z1, z2, z3, z4, z5, z6, z7, z8]
theorem hf_27 (S : hp_S) (i1 : Int32) (i2 : Int32) (i3 : Int32) (j : Nat) (z0 : j ≠ (10 + 1)) (z1 : j ≠ 10) (z2 : j ≠ (10 + 2)) (z3 : j ≠ (10 + 3)) (z4 : j ≠ (10 + 4)) (z5 : j ≠ (10 + 5)) (z6 : j ≠ (10 + 6)) (z7 : j ≠ (10 + 7)) (z8 : j ≠ (10 + 8)) : (hq_27 S i1 i2 i3).2 j = S j := by
  unfold hq_27
  repeat' split
  all_goals simp [hp_wo, hp_wgo, hp_cpo, hf_55, hf_62, hf_63, z0, z1, z2, z3, z4, z5, z6, z7, z8, hf_27_57]
set_option maxRecDepth 10000 in
theorem ht_27_57 {α : Type} {φ : α → Option Value × hzMem} {R : α} {X : hp_X} (N : Nat) (i1 : Int32) (i2 : Int32) (i3 : Int32) : ∀ (n : Nat), n ≤ N → ∀ (m : Nat) (S : hp_S) (v4 : Int32) (v5 : Int32) (v6 : Int32) (v7 : Int32) (Z : hp_S × Int32), (v5.toInt - v7.toInt).toNat < m → hq_27_57 i1 i2 i3 m S v4 v5 v6 v7 = Z → (∀ (x7 : Option Value), hp_T N 27 106 [some (.ref 0), some (.int i1), some (.int i2), some (.int i3), some (.int v4), some (.int v5), some (.int Z.2), x7] [] (hp_mem X Z.1) φ R) → hp_T n 27 57 [some (.ref 0), some (.int i1), some (.int i2), some (.int i3), some (.int v4), some (.int v5), some (.int v6), some (.int v7)] [] (hp_mem X S) φ R := by
  intro n
  induction n with
  | zero => intros; exact hp_0
  | succ n ih =>
    intro hN m S v4 v5 v6 v7 Z hm hZ kk
    cases m with
    | zero => exact absurd hm (Nat.not_lt_zero _)
    | succ m =>
      rw [hq_27_57] at hZ
      refine hp_sN [59, 61] (pc' := 61) (L' := [some (.ref 0), some (.int i1), some (.int i2), some (.int i3), some (.int v4), some (.int v5), some (.int v6), some (.int v7)]) (st' := [.int v5, .int v7]) rfl rfl ?_
      refine hp_ic2 (pc' := 64) rfl rfl (fun h1 => ?_) (fun h1 => ?_)
      · rw [if_pos h1] at hZ
        subst hZ
        exact hp_le hN (kk (some (.int v7)))
      · rw [if_neg (hp_nt h1)] at hZ
        refine hp_sN [65, 66] (pc' := 66) (L' := [some (.ref 0), some (.int i1), some (.int i2), some (.int i3), some (.int v4), some (.int v5), some (.int v6), some (.int v7)]) (st' := [.int (Int32.ofInt 0), .ref 0]) rfl rfl ?_
        refine hp_iv (virt := true) (pc' := 69) (rv := none) (M1 := hp_mem X (hq_55 S (Int32.ofInt 0))) rfl rfl (by decide) (hk_55 S ((Int32.ofInt 0))) rfl rfl ?_
        show hp_T _ 27 69 _ [] _ _ _
        refine hp_sN [70, 71, 72, 74] (pc' := 74) (L' := [some (.ref 0), some (.int i1), some (.int i2), some (.int i3), some (.int v4), some (.int v5), some (.int v6), some (.int v7)]) (st' := [.int v7, .int i3, .int i2, .ref 0]) rfl rfl ?_
        refine hp_iv (virt := true) (pc' := 77) (rv := none) (M1 := hp_mem X (hq_62 (hq_55 S (Int32.ofInt 0)) i2 i3 v7)) rfl rfl (by decide) (hk_62 (hq_55 S (Int32.ofInt 0)) (i2) (i3) (v7)) rfl rfl ?_
        show hp_T _ 27 77 _ [] _ _ _
        refine hp_sN [78, 79] (pc' := 79) (L' := [some (.ref 0), some (.int i1), some (.int i2), some (.int i3), some (.int v4), some (.int v5), some (.int v6), some (.int v7)]) (st' := [.ref 0, .ref 0]) rfl rfl ?_
        refine hp_gf (pc' := 82) rfl (by decide) (hp_c0 X _) rfl rfl ?_
        refine hp_sN [83] (pc' := 83) (L' := [some (.ref 0), some (.int i1), some (.int i2), some (.int i3), some (.int v4), some (.int v5), some (.int v6), some (.int v7)]) (st' := [.int i1, .ref 28, .ref 0]) rfl rfl ?_
        refine hp_aa (pc' := 84) rfl rfl (fun h2 => ?_)
        refine hp_sN [85] (pc' := 85) (L' := [some (.ref 0), some (.int i1), some (.int i2), some (.int i3), some (.int v4), some (.int v5), some (.int v6), some (.int v7)]) (st' := [.int i2, .ref (29 + 2 * i1.toNatClampNeg), .ref 0]) rfl rfl ?_
        refine hp_iv (virt := true) (pc' := 88) (rv := some (.int (hq_63 (hq_62 (hq_55 S (Int32.ofInt 0)) i2 i3 v7) i1.toNatClampNeg i2).1)) (M1 := hp_mem X ((hq_63 (hq_62 (hq_55 S (Int32.ofInt 0)) i2 i3 v7) i1.toNatClampNeg i2).2)) rfl rfl (by decide) (hk_63 h2 (hq_62 (hq_55 S (Int32.ofInt 0)) i2 i3 v7) (i2)) rfl rfl ?_
        show hp_T _ 27 88 _ [.int (hq_63 (hq_62 (hq_55 S (Int32.ofInt 0)) i2 i3 v7) i1.toNatClampNeg i2).1] _ _ _
        refine hp_if2 (pc' := 91) rfl rfl (fun h3 => ?_) (fun h3 => ?_)
        · rw [if_pos h3] at hZ
          refine hp_sB 103 [57] (pc' := 57) (L' := [some (.ref 0), some (.int i1), some (.int i2), some (.int i3), some (.int v4), some (.int v5), some (.int v6), some (.int (v7 + (Int32.ofInt 1)))]) (st' := []) rfl rfl ?_
          exact ih (Nat.le_trans (Nat.le_succ n) hN) m ((hq_63 (hq_62 (hq_55 S (Int32.ofInt 0)) i2 i3 v7) i1.toNatClampNeg i2).2) (v4) (v5) (v6) ((v7 + (Int32.ofInt 1))) Z (hp_up h1 hm) hZ kk
        · rw [if_neg (hp_nt h3)] at hZ
          refine hp_sB 93 [94, 96, 97, 98, 100, 103, 57] (pc' := 57) (L' := [some (.ref 0), some (.int i1), some (.int i2), some (.int i3), some (.int v4), some (.int v5), some (.int (v6 ||| ((Int32.ofInt 1) <<< (v7 &&& 31)))), some (.int (v7 + (Int32.ofInt 1)))]) (st' := []) rfl rfl ?_
          exact ih (Nat.le_trans (Nat.le_succ n) hN) m ((hq_63 (hq_62 (hq_55 S (Int32.ofInt 0)) i2 i3 v7) i1.toNatClampNeg i2).2) (v4) (v5) ((v6 ||| ((Int32.ofInt 1) <<< (v7 &&& 31)))) ((v7 + (Int32.ofInt 1))) Z (hp_up h1 hm) hZ kk
set_option maxRecDepth 10000 in
theorem ht_27 {X : hp_X} (S : hp_S) (i1 : Int32) (i2 : Int32) (i3 : Int32) (n : Nat) : hp_T n 27 0 [some (.ref 0), some (.int i1), some (.int i2), some (.int i3), none, none, none, none] [] (hp_mem X S) (hp_is X) (hq_27 S i1 i2 i3) := by
  unfold hq_27
  refine hp_sN [1] (pc' := 1) (L' := [some (.ref 0), some (.int i1), some (.int i2), some (.int i3), none, none, none, none]) (st' := [.ref 0]) rfl rfl ?_
  refine hp_gf (pc' := 4) rfl (by decide) (hp_c0 X _) rfl rfl ?_
  refine hp_sN [5] (pc' := 5) (L' := [some (.ref 0), some (.int i1), some (.int i2), some (.int i3), none, none, none, none]) (st' := [.int i2, .ref 1]) rfl rfl ?_
  refine hp_iv (virt := true) (pc' := 8) (rv := some (.int (hq_182 S 1 i2))) (M1 := hp_mem X (S)) rfl rfl (by decide) (hk_182 (Or.inl rfl) S (i2)) rfl rfl ?_
  show hp_T _ 27 8 _ [.int (hq_182 S 1 i2)] _ _ _
  refine hp_if (pc' := 11) rfl rfl (fun h1 => ?_) (fun h1 => ?_)
  · refine hp_sN [21] (pc' := 21) (L' := [some (.ref 0), some (.int i1), some (.int i2), some (.int i3), none, none, none, none]) (st' := [.int (Int32.ofInt (-1))]) rfl rfl ?_
    exact hp_Ris rfl
  · refine hp_sN [12, 13, 14] (pc' := 14) (L' := [some (.ref 0), some (.int i1), some (.int i2), some (.int i3), none, none, none, none]) (st' := [.int (Int32.ofInt 2), .int (Int32.ofInt 0), .int i3]) rfl rfl ?_
    refine hp_iv (virt := false) (pc' := 17) (rv := some (.int (hq_44 S i3 (Int32.ofInt 0) (Int32.ofInt 2)))) (M1 := hp_mem X (S)) rfl rfl (by decide) (hk_44 S (i3) ((Int32.ofInt 0)) ((Int32.ofInt 2))) rfl rfl ?_
    show hp_T _ 27 17 _ [.int (hq_44 S i3 (Int32.ofInt 0) (Int32.ofInt 2))] _ _ _
    refine hp_if (pc' := 20) rfl rfl (fun h2 => ?_) (fun h2 => ?_)
    · refine hp_sN [23, 24] (pc' := 24) (L' := [some (.ref 0), some (.int i1), some (.int i2), some (.int i3), none, none, none, none]) (st' := [.int i1, .ref 0]) rfl rfl ?_
      refine hp_iv (virt := true) (pc' := 27) (rv := some (.int (hq_52 S i1))) (M1 := hp_mem X (S)) rfl rfl (by decide) (hk_52 S (i1)) rfl rfl ?_
      show hp_T _ 27 27 _ [.int (hq_52 S i1)] _ _ _
      refine hp_sN [29, 31] (pc' := 31) (L' := [some (.ref 0), some (.int i1), some (.int i2), some (.int i3), some (.int (hq_52 S i1)), none, none, none]) (st' := [.int (hq_52 S i1)]) rfl rfl ?_
      refine hp_if (pc' := 34) rfl rfl (fun h3 => ?_) (fun h3 => ?_)
      · refine hp_sN [38, 39] (pc' := 39) (L' := [some (.ref 0), some (.int i1), some (.int i2), some (.int i3), some (.int (hq_52 S i1)), none, none, none]) (st' := [.int (Int32.ofInt 1), .int i3]) rfl rfl ?_
        refine hp_ic (pc' := 42) rfl rfl (fun h4 => ?_) (fun h4 => ?_)
        · refine hp_sN [49, 51, 52, 54, 55, 57] (pc' := 57) (L' := [some (.ref 0), some (.int i1), some (.int i2), some (.int i3), some (.int (hq_52 S i1)), some (.int (Int32.ofInt 10)), some (.int (Int32.ofInt 0)), some (.int (Int32.ofInt 0))]) (st' := []) rfl rfl ?_
          refine ht_27_57 n i1 i2 i3  n (Nat.le_refl _) (((Int32.ofInt 10).toInt - (Int32.ofInt 0).toInt).toNat + 1) S ((hq_52 S i1)) ((Int32.ofInt 10)) ((Int32.ofInt 0)) ((Int32.ofInt 0))  _ (Nat.lt_succ_self _) rfl (fun x7_57 => ?_)
          show hp_T _ 27 106 [some (.ref 0), some (.int i1), some (.int i2), some (.int i3), some (.int (hq_52 S i1)), some (.int (Int32.ofInt 10)), some (.int (hq_27_57 i1 i2 i3 (((Int32.ofInt 10).toInt - (Int32.ofInt 0).toInt).toNat + 1) S ((hq_52 S i1)) ((Int32.ofInt 10)) ((Int32.ofInt 0)) ((Int32.ofInt 0))).2), x7_57] _ (hp_mem X ((hq_27_57 i1 i2 i3 (((Int32.ofInt 10).toInt - (Int32.ofInt 0).toInt).toNat + 1) S ((hq_52 S i1)) ((Int32.ofInt 10)) ((Int32.ofInt 0)) ((Int32.ofInt 0))).1)) _ _
          refine hp_sN [108] (pc' := 108) (L' := [some (.ref 0), some (.int i1), some (.int i2), some (.int i3), some (.int (hq_52 S i1)), some (.int (Int32.ofInt 10)), some (.int (hq_27_57 i1 i2 i3 (((Int32.ofInt 10).toInt - (Int32.ofInt 0).toInt).toNat + 1) S ((hq_52 S i1)) ((Int32.ofInt 10)) ((Int32.ofInt 0)) ((Int32.ofInt 0))).2), x7_57]) (st' := [.int (hq_27_57 i1 i2 i3 (((Int32.ofInt 10).toInt - (Int32.ofInt 0).toInt).toNat + 1) S ((hq_52 S i1)) ((Int32.ofInt 10)) ((Int32.ofInt 0)) ((Int32.ofInt 0))).2]) rfl rfl ?_
          exact hp_Ris rfl
        · refine hp_sN [44, 49, 51, 52, 54, 55, 57] (pc' := 57) (L' := [some (.ref 0), some (.int i1), some (.int i2), some (.int i3), some (.int (hq_52 S i1)), some (.int (Int32.ofInt 8)), some (.int (Int32.ofInt 0)), some (.int (Int32.ofInt 0))]) (st' := []) rfl rfl ?_
          refine ht_27_57 n i1 i2 i3  n (Nat.le_refl _) (((Int32.ofInt 8).toInt - (Int32.ofInt 0).toInt).toNat + 1) S ((hq_52 S i1)) ((Int32.ofInt 8)) ((Int32.ofInt 0)) ((Int32.ofInt 0))  _ (Nat.lt_succ_self _) rfl (fun x7_57 => ?_)
          show hp_T _ 27 106 [some (.ref 0), some (.int i1), some (.int i2), some (.int i3), some (.int (hq_52 S i1)), some (.int (Int32.ofInt 8)), some (.int (hq_27_57 i1 i2 i3 (((Int32.ofInt 8).toInt - (Int32.ofInt 0).toInt).toNat + 1) S ((hq_52 S i1)) ((Int32.ofInt 8)) ((Int32.ofInt 0)) ((Int32.ofInt 0))).2), x7_57] _ (hp_mem X ((hq_27_57 i1 i2 i3 (((Int32.ofInt 8).toInt - (Int32.ofInt 0).toInt).toNat + 1) S ((hq_52 S i1)) ((Int32.ofInt 8)) ((Int32.ofInt 0)) ((Int32.ofInt 0))).1)) _ _
          refine hp_sN [108] (pc' := 108) (L' := [some (.ref 0), some (.int i1), some (.int i2), some (.int i3), some (.int (hq_52 S i1)), some (.int (Int32.ofInt 8)), some (.int (hq_27_57 i1 i2 i3 (((Int32.ofInt 8).toInt - (Int32.ofInt 0).toInt).toNat + 1) S ((hq_52 S i1)) ((Int32.ofInt 8)) ((Int32.ofInt 0)) ((Int32.ofInt 0))).2), x7_57]) (st' := [.int (hq_27_57 i1 i2 i3 (((Int32.ofInt 8).toInt - (Int32.ofInt 0).toInt).toNat + 1) S ((hq_52 S i1)) ((Int32.ofInt 8)) ((Int32.ofInt 0)) ((Int32.ofInt 0))).2]) rfl rfl ?_
          exact hp_Ris rfl
      · refine hp_sN [36] (pc' := 36) (L' := [some (.ref 0), some (.int i1), some (.int i2), some (.int i3), some (.int (hq_52 S i1)), none, none, none]) (st' := [.int (hq_52 S i1)]) rfl rfl ?_
        exact hp_Ris rfl
    · refine hp_sN [21] (pc' := 21) (L' := [some (.ref 0), some (.int i1), some (.int i2), some (.int i3), none, none, none, none]) (st' := [.int (Int32.ofInt (-1))]) rfl rfl ?_
      exact hp_Ris rfl
theorem hk_27 {X : hp_X} (S : hp_S) (i1 : Int32) (i2 : Int32) (i3 : Int32) : hp_K 27 [.ref 0, .int i1, .int i2, .int i3] (hp_mem X S) (hp_is X) (hq_27 S i1 i2 i3) := by
  refine hp_mk (q := hzq_27) rfl (by decide) (L := [some (.ref 0), some (.int i1), some (.int i2), some (.int i3), none, none, none, none]) rfl (fun n => ?_)
  exact ht_27 S i1 i2 i3 n
/-! 197: HatsOfTheWind$Street.holdOn(II)V -/
def hq_197 (S : hp_S) (b : Nat) (i1 : Int32) (i2 : Int32) : hp_S := (if hz_cmp .ne i2 (Int32.ofInt 1) = true then S else hp_w (hp_w S (b + 4) i1.toNatClampNeg (Int32.ofInt 9)) (b + 3) i1.toNatClampNeg (Int32.ofInt 0))
theorem hf_197 {b : Nat} (S : hp_S) (i1 : Int32) (i2 : Int32) (j : Nat) (z0 : j ≠ (b + 4)) (z1 : j ≠ (b + 3)) : (hq_197 S b i1 i2) j = S j := by
  unfold hq_197
  repeat' split
  all_goals simp [hp_wo, hp_wgo, hp_cpo, z0, z1]
set_option maxRecDepth 10000 in
theorem ht_197 {X : hp_X} {b : Nat} (hb : hp_b b) (S : hp_S) (i1 : Int32) (i2 : Int32) (n : Nat) : hp_T n 197 0 [some (.ref b), some (.int i1), some (.int i2)] [] (hp_mem X S) (hp_v X) (hq_197 S b i1 i2) := by
  unfold hq_197
  refine hp_sN [1, 2] (pc' := 2) (L' := [some (.ref b), some (.int i1), some (.int i2)]) (st' := [.int (Int32.ofInt 1), .int i2]) rfl rfl ?_
  refine hp_ic (pc' := 5) rfl rfl (fun h1 => ?_) (fun h1 => ?_)
  · exact hp_Rv rfl
  · refine hp_sN [6] (pc' := 6) (L' := [some (.ref b), some (.int i1), some (.int i2)]) (st' := [.ref b]) rfl rfl ?_
    refine hp_gf (pc' := 9) rfl (hp_bl hb 0 (by decide)) (hp_b0 hb X _) rfl rfl ?_
    refine hp_sN [10, 12] (pc' := 12) (L' := [some (.ref b), some (.int i1), some (.int i2)]) (st' := [.int (Int32.ofInt 9), .int i1, .ref (b + 4)]) rfl rfl ?_
    refine hp_as (pc' := 13) rfl (hp_bl hb 4 (by decide)) (fun _ => (hp_b4 hb X _)) rfl ?_
    refine hp_sN [14] (pc' := 14) (L' := [some (.ref b), some (.int i1), some (.int i2)]) (st' := [.ref b]) rfl rfl ?_
    refine hp_gf (pc' := 17) rfl (hp_bl hb 0 (by decide)) (hp_b0 hb X _) rfl rfl ?_
    refine hp_sN [18, 19] (pc' := 19) (L' := [some (.ref b), some (.int i1), some (.int i2)]) (st' := [.int (Int32.ofInt 0), .int i1, .ref (b + 3)]) rfl rfl ?_
    refine hp_as (pc' := 20) rfl (hp_bl hb 3 (by decide)) (fun _ => (hp_b3 hb X _)) rfl ?_
    exact hp_Rv rfl
theorem hk_197 {X : hp_X} {b : Nat} (hb : hp_b b) (S : hp_S) (i1 : Int32) (i2 : Int32) : hp_K 197 [.ref b, .int i1, .int i2] (hp_mem X S) (hp_v X) (hq_197 S b i1 i2) := by
  refine hp_mk (q := hzq_197) rfl (by decide) (L := [some (.ref b), some (.int i1), some (.int i2)]) rfl (fun n => ?_)
  exact ht_197 hb S i1 i2 n
/-! 64: HatsOfTheWind.weighPair(IIII)V -/
def hq_64_58 (i1 : Int32) (i2 : Int32) (i3 : Int32) (i4 : Int32) : Nat → hp_S → Int32 → Int32 → Int32 → Int32 → Int32 → hp_S × Int32 × Int32
  | 0, S, _, _, _, _, _ => (S, 0, 0)
  | m + 1, S, v5, v6, v7, v8, v9 => (if hz_cmp .ge v9 i3 = true then (S, v7, v8) else (if hz_cmp .eq (hq_188 (hq_201 S 10) 10 i1) 0 = true then (if hz_cmp .eq (hq_188 (hq_201 S 10) 10 i2) 0 = true then hq_64_58 i1 i2 i3 i4 m (hq_201 S 10) v5 v6 (v7 + (Int32.ofInt 1)) (v8 + (Int32.ofInt 1)) (v9 + (Int32.ofInt 1)) else hq_64_58 i1 i2 i3 i4 m (hq_201 S 10) v5 v6 (v7 + (Int32.ofInt 1)) (v8 + (Int32.ofInt 0)) (v9 + (Int32.ofInt 1))) else (if hz_cmp .eq (hq_188 (hq_201 S 10) 10 i2) 0 = true then hq_64_58 i1 i2 i3 i4 m (hq_201 S 10) v5 v6 (v7 + (Int32.ofInt 0)) (v8 + (Int32.ofInt 1)) (v9 + (Int32.ofInt 1)) else hq_64_58 i1 i2 i3 i4 m (hq_201 S 10) v5 v6 (v7 + (Int32.ofInt 0)) (v8 + (Int32.ofInt 0)) (v9 + (Int32.ofInt 1)))))
def hq_64 (S : hp_S) (i1 : Int32) (i2 : Int32) (i3 : Int32) (i4 : Int32) : hp_S := hp_w (hp_w ((hq_64_58 i1 i2 i3 i4 ((i3.toInt - (Int32.ofInt 0).toInt).toNat + 1) (hq_197 (hq_197 (hq_55 S (Int32.ofInt 0)) 10 i1 (i4 >>> ((Int32.ofInt 1) &&& 31))) 10 i2 (i4 &&& (Int32.ofInt 1))) ((i4 >>> ((Int32.ofInt 1) &&& 31))) ((i4 &&& (Int32.ofInt 1))) (((-(i4 >>> ((Int32.ofInt 1) &&& 31))) * (i3 / (Int32.ofInt 3)))) (((-(i4 &&& (Int32.ofInt 1))) * (i3 / (Int32.ofInt 3)))) ((Int32.ofInt 0))).1) 45 i4.toNatClampNeg (hq_64_58 i1 i2 i3 i4 ((i3.toInt - (Int32.ofInt 0).toInt).toNat + 1) (hq_197 (hq_197 (hq_55 S (Int32.ofInt 0)) 10 i1 (i4 >>> ((Int32.ofInt 1) &&& 31))) 10 i2 (i4 &&& (Int32.ofInt 1))) ((i4 >>> ((Int32.ofInt 1) &&& 31))) ((i4 &&& (Int32.ofInt 1))) (((-(i4 >>> ((Int32.ofInt 1) &&& 31))) * (i3 / (Int32.ofInt 3)))) (((-(i4 &&& (Int32.ofInt 1))) * (i3 / (Int32.ofInt 3)))) ((Int32.ofInt 0))).2.1) 46 i4.toNatClampNeg (hq_64_58 i1 i2 i3 i4 ((i3.toInt - (Int32.ofInt 0).toInt).toNat + 1) (hq_197 (hq_197 (hq_55 S (Int32.ofInt 0)) 10 i1 (i4 >>> ((Int32.ofInt 1) &&& 31))) 10 i2 (i4 &&& (Int32.ofInt 1))) ((i4 >>> ((Int32.ofInt 1) &&& 31))) ((i4 &&& (Int32.ofInt 1))) (((-(i4 >>> ((Int32.ofInt 1) &&& 31))) * (i3 / (Int32.ofInt 3)))) (((-(i4 &&& (Int32.ofInt 1))) * (i3 / (Int32.ofInt 3)))) ((Int32.ofInt 0))).2.2
theorem hf_64_58 {i1 : Int32} {i2 : Int32} {i3 : Int32} {i4 : Int32} (j : Nat) (z0 : j ≠ (10 + 1)) (z1 : j ≠ 10) (z2 : j ≠ (10 + 2)) (z3 : j ≠ (10 + 3)) (z4 : j ≠ (10 + 4)) (z5 : j ≠ (10 + 5)) (z6 : j ≠ (10 + 6)) (z7 : j ≠ (10 + 7)) (z8 : j ≠ (10 + 8)) (z9 : j ≠ 45) (z10 : j ≠ 46) : ∀ (m : Nat) (S : hp_S) (v5 : Int32) (v6 : Int32) (v7 : Int32) (v8 : Int32) (v9 : Int32), (hq_64_58 i1 i2 i3 i4 m S v5 v6 v7 v8 v9).1 j = S j := by
  intro m
  induction m with
  | zero => intros; rfl
  | succ m ih =>
    intro S v5 v6 v7 v8 v9
    rw [hq_64_58]
    repeat' split
    all_goals simp [ih, hp_wo, hp_wgo, hp_cpo, hf_55, hf_197, hf_201, z0, z1, z2, z3, z4, z5, z6, z7, z8, z9, z10]
theorem hf_64 (S : hp_S) (i1 : Int32) (i2 : Int32) (i3 : Int32) (i4 : Int32) (j : Nat) (z0 : j ≠ (10 + 1)) (z1 : j ≠ 10) (z2 : j ≠ (10 + 2)) (z3 : j ≠ (10 + 3)) (z4 : j ≠ (10 + 4)) (z5 : j ≠ (10 + 5)) (z6 : j ≠ (10 + 6)) (z7 : j ≠ (10 + 7)) (z8 : j ≠ (10 + 8)) (z9 : j ≠ 45) (z10 : j ≠ 46) : (hq_64 S i1 i2 i3 i4) j = S j := by
  unfold hq_64
  repeat' split
  all_goals simp [hp_wo, hp_wgo, hp_cpo, hf_55, hf_197, hf_201, z0, z1, z2, z3, z4, z5, z6, z7, z8, z9, z10, hf_64_58]
set_option maxRecDepth 10000 in
theorem ht_64_58 {α : Type} {φ : α → Option Value × hzMem} {R : α} {X : hp_X} (N : Nat) (i1 : Int32) (i2 : Int32) (i3 : Int32) (i4 : Int32) : ∀ (n : Nat), n ≤ N → ∀ (m : Nat) (S : hp_S) (v5 : Int32) (v6 : Int32) (v7 : Int32) (v8 : Int32) (v9 : Int32) (Z : hp_S × Int32 × Int32), (i3.toInt - v9.toInt).toNat < m → hq_64_58 i1 i2 i3 i4 m S v5 v6 v7 v8 v9 = Z → (∀ (x9 : Option Value), hp_T N 64 119 [some (.ref 0), some (.int i1), some (.int i2), some (.int i3), some (.int i4), some (.int v5), some (.int v6), some (.int Z.2.1), some (.int Z.2.2), x9] [] (hp_mem X Z.1) φ R) → hp_T n 64 58 [some (.ref 0), some (.int i1), some (.int i2), some (.int i3), some (.int i4), some (.int v5), some (.int v6), some (.int v7), some (.int v8), some (.int v9)] [] (hp_mem X S) φ R := by
  intro n
  induction n with
  | zero => intros; exact hp_0
  | succ n ih =>
    intro hN m S v5 v6 v7 v8 v9 Z hm hZ kk
    cases m with
    | zero => exact absurd hm (Nat.not_lt_zero _)
    | succ m =>
      rw [hq_64_58] at hZ
      refine hp_sN [60, 61] (pc' := 61) (L' := [some (.ref 0), some (.int i1), some (.int i2), some (.int i3), some (.int i4), some (.int v5), some (.int v6), some (.int v7), some (.int v8), some (.int v9)]) (st' := [.int i3, .int v9]) rfl rfl ?_
      refine hp_ic2 (pc' := 64) rfl rfl (fun h1 => ?_) (fun h1 => ?_)
      · rw [if_pos h1] at hZ
        subst hZ
        exact hp_le hN (kk (some (.int v9)))
      · rw [if_neg (hp_nt h1)] at hZ
        refine hp_sN [65] (pc' := 65) (L' := [some (.ref 0), some (.int i1), some (.int i2), some (.int i3), some (.int i4), some (.int v5), some (.int v6), some (.int v7), some (.int v8), some (.int v9)]) (st' := [.ref 0]) rfl rfl ?_
        refine hp_gf (pc' := 68) rfl (by decide) (hp_c0 X _) rfl rfl ?_
        refine hp_iv (virt := true) (pc' := 71) (rv := none) (M1 := hp_mem X (hq_201 S 10)) rfl rfl (by decide) (hk_201 (Or.inr (Or.inl rfl)) S) rfl rfl ?_
        show hp_T _ 64 71 _ [] _ _ _
        refine hp_sN [73, 74] (pc' := 74) (L' := [some (.ref 0), some (.int i1), some (.int i2), some (.int i3), some (.int i4), some (.int v5), some (.int v6), some (.int v7), some (.int v8), some (.int v9)]) (st' := [.ref 0, .int v7]) rfl rfl ?_
        refine hp_gf (pc' := 77) rfl (by decide) (hp_c0 X _) rfl rfl ?_
        refine hp_sN [78] (pc' := 78) (L' := [some (.ref 0), some (.int i1), some (.int i2), some (.int i3), some (.int i4), some (.int v5), some (.int v6), some (.int v7), some (.int v8), some (.int v9)]) (st' := [.int i1, .ref 10, .int v7]) rfl rfl ?_
        refine hp_iv (virt := true) (pc' := 81) (rv := some (.int (hq_188 (hq_201 S 10) 10 i1))) (M1 := hp_mem X (hq_201 S 10)) rfl rfl (by decide) (hk_188 (Or.inr (Or.inl rfl)) (hq_201 S 10) (i1)) rfl rfl ?_
        show hp_T _ 64 81 _ [.int (hq_188 (hq_201 S 10) 10 i1), .int v7] _ _ _
        refine hp_if2 (pc' := 84) rfl rfl (fun h2 => ?_) (fun h2 => ?_)
        · rw [if_pos h2] at hZ
          refine hp_sN [89, 90, 92, 94, 95] (pc' := 95) (L' := [some (.ref 0), some (.int i1), some (.int i2), some (.int i3), some (.int i4), some (.int v5), some (.int v6), some (.int (v7 + (Int32.ofInt 1))), some (.int v8), some (.int v9)]) (st' := [.ref 0, .int v8]) rfl rfl ?_
          refine hp_gf (pc' := 98) rfl (by decide) (hp_c0 X _) rfl rfl ?_
          refine hp_sN [99] (pc' := 99) (L' := [some (.ref 0), some (.int i1), some (.int i2), some (.int i3), some (.int i4), some (.int v5), some (.int v6), some (.int (v7 + (Int32.ofInt 1))), some (.int v8), some (.int v9)]) (st' := [.int i2, .ref 10, .int v8]) rfl rfl ?_
          refine hp_iv (virt := true) (pc' := 102) (rv := some (.int (hq_188 (hq_201 S 10) 10 i2))) (M1 := hp_mem X (hq_201 S 10)) rfl rfl (by decide) (hk_188 (Or.inr (Or.inl rfl)) (hq_201 S 10) (i2)) rfl rfl ?_
          show hp_T _ 64 102 _ [.int (hq_188 (hq_201 S 10) 10 i2), .int v8] _ _ _
          refine hp_if2 (pc' := 105) rfl rfl (fun h3 => ?_) (fun h3 => ?_)
          · rw [if_pos h3] at hZ
            refine hp_sB 110 [111, 113, 116, 58] (pc' := 58) (L' := [some (.ref 0), some (.int i1), some (.int i2), some (.int i3), some (.int i4), some (.int v5), some (.int v6), some (.int (v7 + (Int32.ofInt 1))), some (.int (v8 + (Int32.ofInt 1))), some (.int (v9 + (Int32.ofInt 1)))]) (st' := []) rfl rfl ?_
            exact ih (Nat.le_trans (Nat.le_succ n) hN) m (hq_201 S 10) (v5) (v6) ((v7 + (Int32.ofInt 1))) ((v8 + (Int32.ofInt 1))) ((v9 + (Int32.ofInt 1))) Z (hp_up h1 hm) hZ kk
          · rw [if_neg (hp_nt h3)] at hZ
            refine hp_sB 106 [110, 111, 113, 116, 58] (pc' := 58) (L' := [some (.ref 0), some (.int i1), some (.int i2), some (.int i3), some (.int i4), some (.int v5), some (.int v6), some (.int (v7 + (Int32.ofInt 1))), some (.int (v8 + (Int32.ofInt 0))), some (.int (v9 + (Int32.ofInt 1)))]) (st' := []) rfl rfl ?_
            exact ih (Nat.le_trans (Nat.le_succ n) hN) m (hq_201 S 10) (v5) (v6) ((v7 + (Int32.ofInt 1))) ((v8 + (Int32.ofInt 0))) ((v9 + (Int32.ofInt 1))) Z (hp_up h1 hm) hZ kk
        · rw [if_neg (hp_nt h2)] at hZ
          refine hp_sN [85, 89, 90, 92, 94, 95] (pc' := 95) (L' := [some (.ref 0), some (.int i1), some (.int i2), some (.int i3), some (.int i4), some (.int v5), some (.int v6), some (.int (v7 + (Int32.ofInt 0))), some (.int v8), some (.int v9)]) (st' := [.ref 0, .int v8]) rfl rfl ?_
          refine hp_gf (pc' := 98) rfl (by decide) (hp_c0 X _) rfl rfl ?_
          refine hp_sN [99] (pc' := 99) (L' := [some (.ref 0), some (.int i1), some (.int i2), some (.int i3), some (.int i4), some (.int v5), some (.int v6), some (.int (v7 + (Int32.ofInt 0))), some (.int v8), some (.int v9)]) (st' := [.int i2, .ref 10, .int v8]) rfl rfl ?_
          refine hp_iv (virt := true) (pc' := 102) (rv := some (.int (hq_188 (hq_201 S 10) 10 i2))) (M1 := hp_mem X (hq_201 S 10)) rfl rfl (by decide) (hk_188 (Or.inr (Or.inl rfl)) (hq_201 S 10) (i2)) rfl rfl ?_
          show hp_T _ 64 102 _ [.int (hq_188 (hq_201 S 10) 10 i2), .int v8] _ _ _
          refine hp_if2 (pc' := 105) rfl rfl (fun h4 => ?_) (fun h4 => ?_)
          · rw [if_pos h4] at hZ
            refine hp_sB 110 [111, 113, 116, 58] (pc' := 58) (L' := [some (.ref 0), some (.int i1), some (.int i2), some (.int i3), some (.int i4), some (.int v5), some (.int v6), some (.int (v7 + (Int32.ofInt 0))), some (.int (v8 + (Int32.ofInt 1))), some (.int (v9 + (Int32.ofInt 1)))]) (st' := []) rfl rfl ?_
            exact ih (Nat.le_trans (Nat.le_succ n) hN) m (hq_201 S 10) (v5) (v6) ((v7 + (Int32.ofInt 0))) ((v8 + (Int32.ofInt 1))) ((v9 + (Int32.ofInt 1))) Z (hp_up h1 hm) hZ kk
          · rw [if_neg (hp_nt h4)] at hZ
            refine hp_sB 106 [110, 111, 113, 116, 58] (pc' := 58) (L' := [some (.ref 0), some (.int i1), some (.int i2), some (.int i3), some (.int i4), some (.int v5), some (.int v6), some (.int (v7 + (Int32.ofInt 0))), some (.int (v8 + (Int32.ofInt 0))), some (.int (v9 + (Int32.ofInt 1)))]) (st' := []) rfl rfl ?_
            exact ih (Nat.le_trans (Nat.le_succ n) hN) m (hq_201 S 10) (v5) (v6) ((v7 + (Int32.ofInt 0))) ((v8 + (Int32.ofInt 0))) ((v9 + (Int32.ofInt 1))) Z (hp_up h1 hm) hZ kk
set_option maxRecDepth 10000 in
theorem ht_64 {X : hp_X} (S : hp_S) (i1 : Int32) (i2 : Int32) (i3 : Int32) (i4 : Int32) (n : Nat) : hp_T n 64 0 [some (.ref 0), some (.int i1), some (.int i2), some (.int i3), some (.int i4), none, none, none, none, none] [] (hp_mem X S) (hp_v X) (hq_64 S i1 i2 i3 i4) := by
  unfold hq_64
  refine hp_sN [2, 3, 4, 6, 8, 9, 10, 12, 13, 14] (pc' := 14) (L' := [some (.ref 0), some (.int i1), some (.int i2), some (.int i3), some (.int i4), some (.int (i4 >>> ((Int32.ofInt 1) &&& 31))), some (.int (i4 &&& (Int32.ofInt 1))), none, none, none]) (st' := [.int (Int32.ofInt 0), .ref 0]) rfl rfl ?_
  refine hp_iv (virt := true) (pc' := 17) (rv := none) (M1 := hp_mem X (hq_55 S (Int32.ofInt 0))) rfl rfl (by decide) (hk_55 S ((Int32.ofInt 0))) rfl rfl ?_
  show hp_T _ 64 17 _ [] _ _ _
  refine hp_sN [18] (pc' := 18) (L' := [some (.ref 0), some (.int i1), some (.int i2), some (.int i3), some (.int i4), some (.int (i4 >>> ((Int32.ofInt 1) &&& 31))), some (.int (i4 &&& (Int32.ofInt 1))), none, none, none]) (st' := [.ref 0]) rfl rfl ?_
  refine hp_gf (pc' := 21) rfl (by decide) (hp_c0 X _) rfl rfl ?_
  refine hp_sN [22, 24] (pc' := 24) (L' := [some (.ref 0), some (.int i1), some (.int i2), some (.int i3), some (.int i4), some (.int (i4 >>> ((Int32.ofInt 1) &&& 31))), some (.int (i4 &&& (Int32.ofInt 1))), none, none, none]) (st' := [.int (i4 >>> ((Int32.ofInt 1) &&& 31)), .int i1, .ref 10]) rfl rfl ?_
  refine hp_iv (virt := true) (pc' := 27) (rv := none) (M1 := hp_mem X (hq_197 (hq_55 S (Int32.ofInt 0)) 10 i1 (i4 >>> ((Int32.ofInt 1) &&& 31)))) rfl rfl (by decide) (hk_197 (Or.inr (Or.inl rfl)) (hq_55 S (Int32.ofInt 0)) (i1) ((i4 >>> ((Int32.ofInt 1) &&& 31)))) rfl rfl ?_
  show hp_T _ 64 27 _ [] _ _ _
  refine hp_sN [28] (pc' := 28) (L' := [some (.ref 0), some (.int i1), some (.int i2), some (.int i3), some (.int i4), some (.int (i4 >>> ((Int32.ofInt 1) &&& 31))), some (.int (i4 &&& (Int32.ofInt 1))), none, none, none]) (st' := [.ref 0]) rfl rfl ?_
  refine hp_gf (pc' := 31) rfl (by decide) (hp_c0 X _) rfl rfl ?_
  refine hp_sN [32, 34] (pc' := 34) (L' := [some (.ref 0), some (.int i1), some (.int i2), some (.int i3), some (.int i4), some (.int (i4 >>> ((Int32.ofInt 1) &&& 31))), some (.int (i4 &&& (Int32.ofInt 1))), none, none, none]) (st' := [.int (i4 &&& (Int32.ofInt 1)), .int i2, .ref 10]) rfl rfl ?_
  refine hp_iv (virt := true) (pc' := 37) (rv := none) (M1 := hp_mem X (hq_197 (hq_197 (hq_55 S (Int32.ofInt 0)) 10 i1 (i4 >>> ((Int32.ofInt 1) &&& 31))) 10 i2 (i4 &&& (Int32.ofInt 1)))) rfl rfl (by decide) (hk_197 (Or.inr (Or.inl rfl)) (hq_197 (hq_55 S (Int32.ofInt 0)) 10 i1 (i4 >>> ((Int32.ofInt 1) &&& 31))) (i2) ((i4 &&& (Int32.ofInt 1)))) rfl rfl ?_
  show hp_T _ 64 37 _ [] _ _ _
  refine hp_sN [39, 40, 41, 42] (pc' := 42) (L' := [some (.ref 0), some (.int i1), some (.int i2), some (.int i3), some (.int i4), some (.int (i4 >>> ((Int32.ofInt 1) &&& 31))), some (.int (i4 &&& (Int32.ofInt 1))), none, none, none]) (st' := [.int (Int32.ofInt 3), .int i3, .int (-(i4 >>> ((Int32.ofInt 1) &&& 31)))]) rfl rfl ?_
  refine hp_di (pc' := 43) rfl rfl ?_
  refine hp_sN [44, 46, 48, 49, 50, 51] (pc' := 51) (L' := [some (.ref 0), some (.int i1), some (.int i2), some (.int i3), some (.int i4), some (.int (i4 >>> ((Int32.ofInt 1) &&& 31))), some (.int (i4 &&& (Int32.ofInt 1))), some (.int ((-(i4 >>> ((Int32.ofInt 1) &&& 31))) * (i3 / (Int32.ofInt 3)))), none, none]) (st' := [.int (Int32.ofInt 3), .int i3, .int (-(i4 &&& (Int32.ofInt 1)))]) rfl rfl ?_
  refine hp_di (pc' := 52) rfl rfl ?_
  refine hp_sN [53, 55, 56, 58] (pc' := 58) (L' := [some (.ref 0), some (.int i1), some (.int i2), some (.int i3), some (.int i4), some (.int (i4 >>> ((Int32.ofInt 1) &&& 31))), some (.int (i4 &&& (Int32.ofInt 1))), some (.int ((-(i4 >>> ((Int32.ofInt 1) &&& 31))) * (i3 / (Int32.ofInt 3)))), some (.int ((-(i4 &&& (Int32.ofInt 1))) * (i3 / (Int32.ofInt 3)))), some (.int (Int32.ofInt 0))]) (st' := []) rfl rfl ?_
  refine ht_64_58 n i1 i2 i3 i4  n (Nat.le_refl _) ((i3.toInt - (Int32.ofInt 0).toInt).toNat + 1) (hq_197 (hq_197 (hq_55 S (Int32.ofInt 0)) 10 i1 (i4 >>> ((Int32.ofInt 1) &&& 31))) 10 i2 (i4 &&& (Int32.ofInt 1))) ((i4 >>> ((Int32.ofInt 1) &&& 31))) ((i4 &&& (Int32.ofInt 1))) (((-(i4 >>> ((Int32.ofInt 1) &&& 31))) * (i3 / (Int32.ofInt 3)))) (((-(i4 &&& (Int32.ofInt 1))) * (i3 / (Int32.ofInt 3)))) ((Int32.ofInt 0))  _ (Nat.lt_succ_self _) rfl (fun x9_58 => ?_)
  show hp_T _ 64 119 [some (.ref 0), some (.int i1), some (.int i2), some (.int i3), some (.int i4), some (.int (i4 >>> ((Int32.ofInt 1) &&& 31))), some (.int (i4 &&& (Int32.ofInt 1))), some (.int (hq_64_58 i1 i2 i3 i4 ((i3.toInt - (Int32.ofInt 0).toInt).toNat + 1) (hq_197 (hq_197 (hq_55 S (Int32.ofInt 0)) 10 i1 (i4 >>> ((Int32.ofInt 1) &&& 31))) 10 i2 (i4 &&& (Int32.ofInt 1))) ((i4 >>> ((Int32.ofInt 1) &&& 31))) ((i4 &&& (Int32.ofInt 1))) (((-(i4 >>> ((Int32.ofInt 1) &&& 31))) * (i3 / (Int32.ofInt 3)))) (((-(i4 &&& (Int32.ofInt 1))) * (i3 / (Int32.ofInt 3)))) ((Int32.ofInt 0))).2.1), some (.int (hq_64_58 i1 i2 i3 i4 ((i3.toInt - (Int32.ofInt 0).toInt).toNat + 1) (hq_197 (hq_197 (hq_55 S (Int32.ofInt 0)) 10 i1 (i4 >>> ((Int32.ofInt 1) &&& 31))) 10 i2 (i4 &&& (Int32.ofInt 1))) ((i4 >>> ((Int32.ofInt 1) &&& 31))) ((i4 &&& (Int32.ofInt 1))) (((-(i4 >>> ((Int32.ofInt 1) &&& 31))) * (i3 / (Int32.ofInt 3)))) (((-(i4 &&& (Int32.ofInt 1))) * (i3 / (Int32.ofInt 3)))) ((Int32.ofInt 0))).2.2), x9_58] _ (hp_mem X ((hq_64_58 i1 i2 i3 i4 ((i3.toInt - (Int32.ofInt 0).toInt).toNat + 1) (hq_197 (hq_197 (hq_55 S (Int32.ofInt 0)) 10 i1 (i4 >>> ((Int32.ofInt 1) &&& 31))) 10 i2 (i4 &&& (Int32.ofInt 1))) ((i4 >>> ((Int32.ofInt 1) &&& 31))) ((i4 &&& (Int32.ofInt 1))) (((-(i4 >>> ((Int32.ofInt 1) &&& 31))) * (i3 / (Int32.ofInt 3)))) (((-(i4 &&& (Int32.ofInt 1))) * (i3 / (Int32.ofInt 3)))) ((Int32.ofInt 0))).1)) _ _
  refine hp_sN [120] (pc' := 120) (L' := [some (.ref 0), some (.int i1), some (.int i2), some (.int i3), some (.int i4), some (.int (i4 >>> ((Int32.ofInt 1) &&& 31))), some (.int (i4 &&& (Int32.ofInt 1))), some (.int (hq_64_58 i1 i2 i3 i4 ((i3.toInt - (Int32.ofInt 0).toInt).toNat + 1) (hq_197 (hq_197 (hq_55 S (Int32.ofInt 0)) 10 i1 (i4 >>> ((Int32.ofInt 1) &&& 31))) 10 i2 (i4 &&& (Int32.ofInt 1))) ((i4 >>> ((Int32.ofInt 1) &&& 31))) ((i4 &&& (Int32.ofInt 1))) (((-(i4 >>> ((Int32.ofInt 1) &&& 31))) * (i3 / (Int32.ofInt 3)))) (((-(i4 &&& (Int32.ofInt 1))) * (i3 / (Int32.ofInt 3)))) ((Int32.ofInt 0))).2.1), some (.int (hq_64_58 i1 i2 i3 i4 ((i3.toInt - (Int32.ofInt 0).toInt).toNat + 1) (hq_197 (hq_197 (hq_55 S (Int32.ofInt 0)) 10 i1 (i4 >>> ((Int32.ofInt 1) &&& 31))) 10 i2 (i4 &&& (Int32.ofInt 1))) ((i4 >>> ((Int32.ofInt 1) &&& 31))) ((i4 &&& (Int32.ofInt 1))) (((-(i4 >>> ((Int32.ofInt 1) &&& 31))) * (i3 / (Int32.ofInt 3)))) (((-(i4 &&& (Int32.ofInt 1))) * (i3 / (Int32.ofInt 3)))) ((Int32.ofInt 0))).2.2), x9_58]) (st' := [.ref 0]) rfl rfl ?_
  refine hp_gf (pc' := 123) rfl (by decide) (hp_c0 X _) rfl rfl ?_
  refine hp_sN [125, 127] (pc' := 127) (L' := [some (.ref 0), some (.int i1), some (.int i2), some (.int i3), some (.int i4), some (.int (i4 >>> ((Int32.ofInt 1) &&& 31))), some (.int (i4 &&& (Int32.ofInt 1))), some (.int (hq_64_58 i1 i2 i3 i4 ((i3.toInt - (Int32.ofInt 0).toInt).toNat + 1) (hq_197 (hq_197 (hq_55 S (Int32.ofInt 0)) 10 i1 (i4 >>> ((Int32.ofInt 1) &&& 31))) 10 i2 (i4 &&& (Int32.ofInt 1))) ((i4 >>> ((Int32.ofInt 1) &&& 31))) ((i4 &&& (Int32.ofInt 1))) (((-(i4 >>> ((Int32.ofInt 1) &&& 31))) * (i3 / (Int32.ofInt 3)))) (((-(i4 &&& (Int32.ofInt 1))) * (i3 / (Int32.ofInt 3)))) ((Int32.ofInt 0))).2.1), some (.int (hq_64_58 i1 i2 i3 i4 ((i3.toInt - (Int32.ofInt 0).toInt).toNat + 1) (hq_197 (hq_197 (hq_55 S (Int32.ofInt 0)) 10 i1 (i4 >>> ((Int32.ofInt 1) &&& 31))) 10 i2 (i4 &&& (Int32.ofInt 1))) ((i4 >>> ((Int32.ofInt 1) &&& 31))) ((i4 &&& (Int32.ofInt 1))) (((-(i4 >>> ((Int32.ofInt 1) &&& 31))) * (i3 / (Int32.ofInt 3)))) (((-(i4 &&& (Int32.ofInt 1))) * (i3 / (Int32.ofInt 3)))) ((Int32.ofInt 0))).2.2), x9_58]) (st' := [.int (hq_64_58 i1 i2 i3 i4 ((i3.toInt - (Int32.ofInt 0).toInt).toNat + 1) (hq_197 (hq_197 (hq_55 S (Int32.ofInt 0)) 10 i1 (i4 >>> ((Int32.ofInt 1) &&& 31))) 10 i2 (i4 &&& (Int32.ofInt 1))) ((i4 >>> ((Int32.ofInt 1) &&& 31))) ((i4 &&& (Int32.ofInt 1))) (((-(i4 >>> ((Int32.ofInt 1) &&& 31))) * (i3 / (Int32.ofInt 3)))) (((-(i4 &&& (Int32.ofInt 1))) * (i3 / (Int32.ofInt 3)))) ((Int32.ofInt 0))).2.1, .int i4, .ref 45]) rfl rfl ?_
  refine hp_as (pc' := 128) rfl (by decide) (fun _ => rfl) rfl ?_
  refine hp_sN [129] (pc' := 129) (L' := [some (.ref 0), some (.int i1), some (.int i2), some (.int i3), some (.int i4), some (.int (i4 >>> ((Int32.ofInt 1) &&& 31))), some (.int (i4 &&& (Int32.ofInt 1))), some (.int (hq_64_58 i1 i2 i3 i4 ((i3.toInt - (Int32.ofInt 0).toInt).toNat + 1) (hq_197 (hq_197 (hq_55 S (Int32.ofInt 0)) 10 i1 (i4 >>> ((Int32.ofInt 1) &&& 31))) 10 i2 (i4 &&& (Int32.ofInt 1))) ((i4 >>> ((Int32.ofInt 1) &&& 31))) ((i4 &&& (Int32.ofInt 1))) (((-(i4 >>> ((Int32.ofInt 1) &&& 31))) * (i3 / (Int32.ofInt 3)))) (((-(i4 &&& (Int32.ofInt 1))) * (i3 / (Int32.ofInt 3)))) ((Int32.ofInt 0))).2.1), some (.int (hq_64_58 i1 i2 i3 i4 ((i3.toInt - (Int32.ofInt 0).toInt).toNat + 1) (hq_197 (hq_197 (hq_55 S (Int32.ofInt 0)) 10 i1 (i4 >>> ((Int32.ofInt 1) &&& 31))) 10 i2 (i4 &&& (Int32.ofInt 1))) ((i4 >>> ((Int32.ofInt 1) &&& 31))) ((i4 &&& (Int32.ofInt 1))) (((-(i4 >>> ((Int32.ofInt 1) &&& 31))) * (i3 / (Int32.ofInt 3)))) (((-(i4 &&& (Int32.ofInt 1))) * (i3 / (Int32.ofInt 3)))) ((Int32.ofInt 0))).2.2), x9_58]) (st' := [.ref 0]) rfl rfl ?_
  refine hp_gf (pc' := 132) rfl (by decide) (hp_c0 X _) rfl rfl ?_
  refine hp_sN [134, 136] (pc' := 136) (L' := [some (.ref 0), some (.int i1), some (.int i2), some (.int i3), some (.int i4), some (.int (i4 >>> ((Int32.ofInt 1) &&& 31))), some (.int (i4 &&& (Int32.ofInt 1))), some (.int (hq_64_58 i1 i2 i3 i4 ((i3.toInt - (Int32.ofInt 0).toInt).toNat + 1) (hq_197 (hq_197 (hq_55 S (Int32.ofInt 0)) 10 i1 (i4 >>> ((Int32.ofInt 1) &&& 31))) 10 i2 (i4 &&& (Int32.ofInt 1))) ((i4 >>> ((Int32.ofInt 1) &&& 31))) ((i4 &&& (Int32.ofInt 1))) (((-(i4 >>> ((Int32.ofInt 1) &&& 31))) * (i3 / (Int32.ofInt 3)))) (((-(i4 &&& (Int32.ofInt 1))) * (i3 / (Int32.ofInt 3)))) ((Int32.ofInt 0))).2.1), some (.int (hq_64_58 i1 i2 i3 i4 ((i3.toInt - (Int32.ofInt 0).toInt).toNat + 1) (hq_197 (hq_197 (hq_55 S (Int32.ofInt 0)) 10 i1 (i4 >>> ((Int32.ofInt 1) &&& 31))) 10 i2 (i4 &&& (Int32.ofInt 1))) ((i4 >>> ((Int32.ofInt 1) &&& 31))) ((i4 &&& (Int32.ofInt 1))) (((-(i4 >>> ((Int32.ofInt 1) &&& 31))) * (i3 / (Int32.ofInt 3)))) (((-(i4 &&& (Int32.ofInt 1))) * (i3 / (Int32.ofInt 3)))) ((Int32.ofInt 0))).2.2), x9_58]) (st' := [.int (hq_64_58 i1 i2 i3 i4 ((i3.toInt - (Int32.ofInt 0).toInt).toNat + 1) (hq_197 (hq_197 (hq_55 S (Int32.ofInt 0)) 10 i1 (i4 >>> ((Int32.ofInt 1) &&& 31))) 10 i2 (i4 &&& (Int32.ofInt 1))) ((i4 >>> ((Int32.ofInt 1) &&& 31))) ((i4 &&& (Int32.ofInt 1))) (((-(i4 >>> ((Int32.ofInt 1) &&& 31))) * (i3 / (Int32.ofInt 3)))) (((-(i4 &&& (Int32.ofInt 1))) * (i3 / (Int32.ofInt 3)))) ((Int32.ofInt 0))).2.2, .int i4, .ref 46]) rfl rfl ?_
  refine hp_as (pc' := 137) rfl (by decide) (fun _ => rfl) rfl ?_
  exact hp_Rv rfl
theorem hk_64 {X : hp_X} (S : hp_S) (i1 : Int32) (i2 : Int32) (i3 : Int32) (i4 : Int32) : hp_K 64 [.ref 0, .int i1, .int i2, .int i3, .int i4] (hp_mem X S) (hp_v X) (hq_64 S i1 i2 i3 i4) := by
  refine hp_mk (q := hzq_64) rfl (by decide) (L := [some (.ref 0), some (.int i1), some (.int i2), some (.int i3), some (.int i4), none, none, none, none, none]) rfl (fun n => ?_)
  exact ht_64 S i1 i2 i3 i4 n

/-! 28: HatsOfTheWind.two(III)I -/
def hq_28_42 (i1 : Int32) (i2 : Int32) (i3 : Int32) : Nat → hp_S → Int32 → hp_S
  | 0, S, _ => S
  | m + 1, S, v4 => (if hz_cmp .ge v4 (Int32.ofInt 4) = true then S else hq_28_42 i1 i2 i3 m (hq_64 S i1 i2 i3 v4) (v4 + (Int32.ofInt 1)))
def hq_28_66 (i1 : Int32) (i2 : Int32) (i3 : Int32) : Nat → hp_S → Int32 → Int32 × hp_S
  | 0, S, _ => (0, S)
  | m + 1, S, v4 => (if hz_cmp .ge v4 (Int32.ofInt 4) = true then ((Int32.ofInt (-4)), S) else (if hz_cmp .lt (S 45 v4.toNatClampNeg) (S 45 (v4 ^^^ (Int32.ofInt 2)).toNatClampNeg) = true then hq_28_66 i1 i2 i3 m S (v4 + (Int32.ofInt 1)) else (if hz_cmp .lt (S 46 v4.toNatClampNeg) (S 46 (v4 ^^^ (Int32.ofInt 1)).toNatClampNeg) = true then hq_28_66 i1 i2 i3 m S (v4 + (Int32.ofInt 1)) else ((((Int32.ofInt 10) * (v4 >>> ((Int32.ofInt 1) &&& 31))) + (v4 &&& (Int32.ofInt 1))), S))))
def hq_28 (S : hp_S) (i1 : Int32) (i2 : Int32) (i3 : Int32) : Int32 × hp_S := (if hz_cmp .eq (hq_181 S 1 i1) 0 = true then ((Int32.ofInt (-1)), S) else (if hz_cmp .eq (hq_181 S 1 i2) 0 = true then ((Int32.ofInt (-1)), S) else (if hz_cmp .eq i1 i2 = true then ((Int32.ofInt (-1)), S) else (if hz_cmp .ne (hq_44 S i3 (Int32.ofInt 1) (Int32.ofInt 24)) 0 = true then (hq_28_66 i1 i2 i3 (((Int32.ofInt 4).toInt - (Int32.ofInt 0).toInt).toNat + 1) ((hq_28_42 i1 i2 i3 (((Int32.ofInt 4).toInt - (Int32.ofInt 0).toInt).toNat + 1) S ((Int32.ofInt 0)))) ((Int32.ofInt 0))) else ((Int32.ofInt (-1)), S)))))
theorem hf_28_42 {i1 : Int32} {i2 : Int32} {i3 : Int32} (j : Nat) (z0 : j ≠ (10 + 1)) (z1 : j ≠ 10) (z2 : j ≠ (10 + 2)) (z3 : j ≠ (10 + 3)) (z4 : j ≠ (10 + 4)) (z5 : j ≠ (10 + 5)) (z6 : j ≠ (10 + 6)) (z7 : j ≠ (10 + 7)) (z8 : j ≠ (10 + 8)) (z9 : j ≠ 45) (z10 : j ≠ 46) : ∀ (m : Nat) (S : hp_S) (v4 : Int32), (hq_28_42 i1 i2 i3 m S v4) j = S j := by
  intro m
  induction m with
  | zero => intros; rfl
  | succ m ih =>
    intro S v4
    rw [hq_28_42]
    repeat' split
    all_goals simp [ih, hp_wo, hp_wgo, hp_cpo, hf_64, z0, z1, z2, z3, z4, z5, z6, z7, z8, z9, z10]
theorem hf_28_66 {i1 : Int32} {i2 : Int32} {i3 : Int32} (j : Nat) (z0 : j ≠ (10 + 1)) (z1 : j ≠ 10) (z2 : j ≠ (10 + 2)) (z3 : j ≠ (10 + 3)) (z4 : j ≠ (10 + 4)) (z5 : j ≠ (10 + 5)) (z6 : j ≠ (10 + 6)) (z7 : j ≠ (10 + 7)) (z8 : j ≠ (10 + 8)) (z9 : j ≠ 45) (z10 : j ≠ 46) : ∀ (m : Nat) (S : hp_S) (v4 : Int32), (hq_28_66 i1 i2 i3 m S v4).2 j = S j := by
  intro m
  induction m with
  | zero => intros; rfl
  | succ m ih =>
    intro S v4
    rw [hq_28_66]
    repeat' split
    all_goals simp [ih, hp_wo, hp_wgo, hp_cpo, hf_64, z0, z1, z2, z3, z4, z5, z6, z7, z8, z9, z10, hf_28_42]
theorem hf_28 (S : hp_S) (i1 : Int32) (i2 : Int32) (i3 : Int32) (j : Nat) (z0 : j ≠ (10 + 1)) (z1 : j ≠ 10) (z2 : j ≠ (10 + 2)) (z3 : j ≠ (10 + 3)) (z4 : j ≠ (10 + 4)) (z5 : j ≠ (10 + 5)) (z6 : j ≠ (10 + 6)) (z7 : j ≠ (10 + 7)) (z8 : j ≠ (10 + 8)) (z9 : j ≠ 45) (z10 : j ≠ 46) : (hq_28 S i1 i2 i3).2 j = S j := by
  unfold hq_28
  repeat' split
  all_goals simp [hp_wo, hp_wgo, hp_cpo, hf_64, z0, z1, z2, z3, z4, z5, z6, z7, z8, z9, z10, hf_28_42, hf_28_66]
set_option maxRecDepth 10000 in
theorem ht_28_42 {α : Type} {φ : α → Option Value × hzMem} {R : α} {X : hp_X} (N : Nat) (i1 : Int32) (i2 : Int32) (i3 : Int32) : ∀ (n : Nat), n ≤ N → ∀ (m : Nat) (S : hp_S) (v4 : Int32) (Z : hp_S), ((Int32.ofInt 4).toInt - v4.toInt).toNat < m → hq_28_42 i1 i2 i3 m S v4 = Z → (∀ (x4 : Option Value), hp_T N 28 63 [some (.ref 0), some (.int i1), some (.int i2), some (.int i3), x4] [] (hp_mem X Z) φ R) → hp_T n 28 42 [some (.ref 0), some (.int i1), some (.int i2), some (.int i3), some (.int v4)] [] (hp_mem X S) φ R := by
  intro n
  induction n with
  | zero => intros; exact hp_0
  | succ n ih =>
    intro hN m S v4 Z hm hZ kk
    cases m with
    | zero => exact absurd hm (Nat.not_lt_zero _)
    | succ m =>
      rw [hq_28_42] at hZ
      refine hp_sN [44, 45] (pc' := 45) (L' := [some (.ref 0), some (.int i1), some (.int i2), some (.int i3), some (.int v4)]) (st' := [.int (Int32.ofInt 4), .int v4]) rfl rfl ?_
      refine hp_ic2 (pc' := 48) rfl rfl (fun h1 => ?_) (fun h1 => ?_)
      · rw [if_pos h1] at hZ
        subst hZ
        exact hp_le hN (kk (some (.int v4)))
      · rw [if_neg (hp_nt h1)] at hZ
        refine hp_sN [49, 50, 51, 52, 54] (pc' := 54) (L' := [some (.ref 0), some (.int i1), some (.int i2), some (.int i3), some (.int v4)]) (st' := [.int v4, .int i3, .int i2, .int i1, .ref 0]) rfl rfl ?_
        refine hp_iv (virt := true) (pc' := 57) (rv := none) (M1 := hp_mem X (hq_64 S i1 i2 i3 v4)) rfl rfl (by decide) (hk_64 S (i1) (i2) (i3) (v4)) rfl rfl ?_
        show hp_T _ 28 57 _ [] _ _ _
        refine hp_sB 60 [42] (pc' := 42) (L' := [some (.ref 0), some (.int i1), some (.int i2), some (.int i3), some (.int (v4 + (Int32.ofInt 1)))]) (st' := []) rfl rfl ?_
        exact ih (Nat.le_trans (Nat.le_succ n) hN) m (hq_64 S i1 i2 i3 v4) ((v4 + (Int32.ofInt 1))) Z (hp_up h1 hm) hZ kk
set_option maxRecDepth 10000 in
theorem ht_28_66 {X : hp_X} (i1 : Int32) (i2 : Int32) (i3 : Int32) : ∀ (n m : Nat) (S : hp_S) (v4 : Int32), ((Int32.ofInt 4).toInt - v4.toInt).toNat < m → hp_T n 28 66 [some (.ref 0), some (.int i1), some (.int i2), some (.int i3), some (.int v4)] [] (hp_mem X S) (hp_is X) (hq_28_66 i1 i2 i3 m S v4) := by
  intro n
  induction n with
  | zero => intros; exact hp_0
  | succ n ih =>
    intro m S v4 hm
    cases m with
    | zero => exact absurd hm (Nat.not_lt_zero _)
    | succ m =>
      rw [hq_28_66]
      refine hp_sN [68, 69] (pc' := 69) (L' := [some (.ref 0), some (.int i1), some (.int i2), some (.int i3), some (.int v4)]) (st' := [.int (Int32.ofInt 4), .int v4]) rfl rfl ?_
      refine hp_ic (pc' := 72) rfl rfl (fun h1 => ?_) (fun h1 => ?_)
      · refine hp_sN [131] (pc' := 131) (L' := [some (.ref 0), some (.int i1), some (.int i2), some (.int i3), some (.int v4)]) (st' := [.int (Int32.ofInt (-4))]) rfl rfl ?_
        exact hp_Ris rfl
      · refine hp_sN [73] (pc' := 73) (L' := [some (.ref 0), some (.int i1), some (.int i2), some (.int i3), some (.int v4)]) (st' := [.ref 0]) rfl rfl ?_
        refine hp_gf (pc' := 76) rfl (by decide) (hp_c0 X _) rfl rfl ?_
        refine hp_sN [78] (pc' := 78) (L' := [some (.ref 0), some (.int i1), some (.int i2), some (.int i3), some (.int v4)]) (st' := [.int v4, .ref 45]) rfl rfl ?_
        refine hp_al (pc' := 79) rfl (by decide) rfl rfl ?_
        refine hp_sN [80] (pc' := 80) (L' := [some (.ref 0), some (.int i1), some (.int i2), some (.int i3), some (.int v4)]) (st' := [.ref 0, .int (S 45 v4.toNatClampNeg)]) rfl rfl ?_
        refine hp_gf (pc' := 83) rfl (by decide) (hp_c0 X _) rfl rfl ?_
        refine hp_sN [85, 86, 87] (pc' := 87) (L' := [some (.ref 0), some (.int i1), some (.int i2), some (.int i3), some (.int v4)]) (st' := [.int (v4 ^^^ (Int32.ofInt 2)), .ref 45, .int (S 45 v4.toNatClampNeg)]) rfl rfl ?_
        refine hp_al (pc' := 88) rfl (by decide) rfl rfl ?_
        refine hp_ic (pc' := 91) rfl rfl (fun h2 => ?_) (fun h2 => ?_)
        · refine hp_sB 126 [66] (pc' := 66) (L' := [some (.ref 0), some (.int i1), some (.int i2), some (.int i3), some (.int (v4 + (Int32.ofInt 1)))]) (st' := []) rfl rfl ?_
          exact ih m S ((v4 + (Int32.ofInt 1))) (hp_up h1 hm)
        · refine hp_sN [92] (pc' := 92) (L' := [some (.ref 0), some (.int i1), some (.int i2), some (.int i3), some (.int v4)]) (st' := [.ref 0]) rfl rfl ?_
          refine hp_gf (pc' := 95) rfl (by decide) (hp_c0 X _) rfl rfl ?_
          refine hp_sN [97] (pc' := 97) (L' := [some (.ref 0), some (.int i1), some (.int i2), some (.int i3), some (.int v4)]) (st' := [.int v4, .ref 46]) rfl rfl ?_
          refine hp_al (pc' := 98) rfl (by decide) rfl rfl ?_
          refine hp_sN [99] (pc' := 99) (L' := [some (.ref 0), some (.int i1), some (.int i2), some (.int i3), some (.int v4)]) (st' := [.ref 0, .int (S 46 v4.toNatClampNeg)]) rfl rfl ?_
          refine hp_gf (pc' := 102) rfl (by decide) (hp_c0 X _) rfl rfl ?_
          refine hp_sN [104, 105, 106] (pc' := 106) (L' := [some (.ref 0), some (.int i1), some (.int i2), some (.int i3), some (.int v4)]) (st' := [.int (v4 ^^^ (Int32.ofInt 1)), .ref 46, .int (S 46 v4.toNatClampNeg)]) rfl rfl ?_
          refine hp_al (pc' := 107) rfl (by decide) rfl rfl ?_
          refine hp_ic (pc' := 110) rfl rfl (fun h3 => ?_) (fun h3 => ?_)
          · refine hp_sB 126 [66] (pc' := 66) (L' := [some (.ref 0), some (.int i1), some (.int i2), some (.int i3), some (.int (v4 + (Int32.ofInt 1)))]) (st' := []) rfl rfl ?_
            exact ih m S ((v4 + (Int32.ofInt 1))) (hp_up h1 hm)
          · refine hp_sN [112, 114, 115, 116, 117, 119, 120, 121, 122] (pc' := 122) (L' := [some (.ref 0), some (.int i1), some (.int i2), some (.int i3), some (.int v4)]) (st' := [.int (((Int32.ofInt 10) * (v4 >>> ((Int32.ofInt 1) &&& 31))) + (v4 &&& (Int32.ofInt 1)))]) rfl rfl ?_
            exact hp_Ris rfl
set_option maxRecDepth 10000 in
theorem ht_28 {X : hp_X} (S : hp_S) (i1 : Int32) (i2 : Int32) (i3 : Int32) (n : Nat) : hp_T n 28 0 [some (.ref 0), some (.int i1), some (.int i2), some (.int i3), none] [] (hp_mem X S) (hp_is X) (hq_28 S i1 i2 i3) := by
  unfold hq_28
  refine hp_sN [1] (pc' := 1) (L' := [some (.ref 0), some (.int i1), some (.int i2), some (.int i3), none]) (st' := [.ref 0]) rfl rfl ?_
  refine hp_gf (pc' := 4) rfl (by decide) (hp_c0 X _) rfl rfl ?_
  refine hp_sN [5] (pc' := 5) (L' := [some (.ref 0), some (.int i1), some (.int i2), some (.int i3), none]) (st' := [.int i1, .ref 1]) rfl rfl ?_
  refine hp_iv (virt := true) (pc' := 8) (rv := some (.int (hq_181 S 1 i1))) (M1 := hp_mem X (S)) rfl rfl (by decide) (hk_181 (Or.inl rfl) S (i1)) rfl rfl ?_
  show hp_T _ 28 8 _ [.int (hq_181 S 1 i1)] _ _ _
  refine hp_if (pc' := 11) rfl rfl (fun h1 => ?_) (fun h1 => ?_)
  · refine hp_sN [38] (pc' := 38) (L' := [some (.ref 0), some (.int i1), some (.int i2), some (.int i3), none]) (st' := [.int (Int32.ofInt (-1))]) rfl rfl ?_
    exact hp_Ris rfl
  · refine hp_sN [12] (pc' := 12) (L' := [some (.ref 0), some (.int i1), some (.int i2), some (.int i3), none]) (st' := [.ref 0]) rfl rfl ?_
    refine hp_gf (pc' := 15) rfl (by decide) (hp_c0 X _) rfl rfl ?_
    refine hp_sN [16] (pc' := 16) (L' := [some (.ref 0), some (.int i1), some (.int i2), some (.int i3), none]) (st' := [.int i2, .ref 1]) rfl rfl ?_
    refine hp_iv (virt := true) (pc' := 19) (rv := some (.int (hq_181 S 1 i2))) (M1 := hp_mem X (S)) rfl rfl (by decide) (hk_181 (Or.inl rfl) S (i2)) rfl rfl ?_
    show hp_T _ 28 19 _ [.int (hq_181 S 1 i2)] _ _ _
    refine hp_if (pc' := 22) rfl rfl (fun h2 => ?_) (fun h2 => ?_)
    · refine hp_sN [38] (pc' := 38) (L' := [some (.ref 0), some (.int i1), some (.int i2), some (.int i3), none]) (st' := [.int (Int32.ofInt (-1))]) rfl rfl ?_
      exact hp_Ris rfl
    · refine hp_sN [23, 24] (pc' := 24) (L' := [some (.ref 0), some (.int i1), some (.int i2), some (.int i3), none]) (st' := [.int i2, .int i1]) rfl rfl ?_
      refine hp_ic (pc' := 27) rfl rfl (fun h3 => ?_) (fun h3 => ?_)
      · refine hp_sN [38] (pc' := 38) (L' := [some (.ref 0), some (.int i1), some (.int i2), some (.int i3), none]) (st' := [.int (Int32.ofInt (-1))]) rfl rfl ?_
        exact hp_Ris rfl
      · refine hp_sN [28, 29, 31] (pc' := 31) (L' := [some (.ref 0), some (.int i1), some (.int i2), some (.int i3), none]) (st' := [.int (Int32.ofInt 24), .int (Int32.ofInt 1), .int i3]) rfl rfl ?_
        refine hp_iv (virt := false) (pc' := 34) (rv := some (.int (hq_44 S i3 (Int32.ofInt 1) (Int32.ofInt 24)))) (M1 := hp_mem X (S)) rfl rfl (by decide) (hk_44 S (i3) ((Int32.ofInt 1)) ((Int32.ofInt 24))) rfl rfl ?_
        show hp_T _ 28 34 _ [.int (hq_44 S i3 (Int32.ofInt 1) (Int32.ofInt 24))] _ _ _
        refine hp_if (pc' := 37) rfl rfl (fun h4 => ?_) (fun h4 => ?_)
        · refine hp_sN [40, 42] (pc' := 42) (L' := [some (.ref 0), some (.int i1), some (.int i2), some (.int i3), some (.int (Int32.ofInt 0))]) (st' := []) rfl rfl ?_
          refine ht_28_42 n i1 i2 i3  n (Nat.le_refl _) (((Int32.ofInt 4).toInt - (Int32.ofInt 0).toInt).toNat + 1) S ((Int32.ofInt 0))  _ (Nat.lt_succ_self _) rfl (fun x4_42 => ?_)
          show hp_T _ 28 63 [some (.ref 0), some (.int i1), some (.int i2), some (.int i3), x4_42] _ (hp_mem X ((hq_28_42 i1 i2 i3 (((Int32.ofInt 4).toInt - (Int32.ofInt 0).toInt).toNat + 1) S ((Int32.ofInt 0))))) _ _
          refine hp_sN [64, 66] (pc' := 66) (L' := [some (.ref 0), some (.int i1), some (.int i2), some (.int i3), some (.int (Int32.ofInt 0))]) (st' := []) rfl rfl ?_
          exact ht_28_66 i1 i2 i3  n (((Int32.ofInt 4).toInt - (Int32.ofInt 0).toInt).toNat + 1) ((hq_28_42 i1 i2 i3 (((Int32.ofInt 4).toInt - (Int32.ofInt 0).toInt).toNat + 1) S ((Int32.ofInt 0)))) ((Int32.ofInt 0))  (Nat.lt_succ_self _)
        · refine hp_sN [38] (pc' := 38) (L' := [some (.ref 0), some (.int i1), some (.int i2), some (.int i3), none]) (st' := [.int (Int32.ofInt (-1))]) rfl rfl ?_
          exact hp_Ris rfl
theorem hk_28 {X : hp_X} (S : hp_S) (i1 : Int32) (i2 : Int32) (i3 : Int32) : hp_K 28 [.ref 0, .int i1, .int i2, .int i3] (hp_mem X S) (hp_is X) (hq_28 S i1 i2 i3) := by
  refine hp_mk (q := hzq_28) rfl (by decide) (L := [some (.ref 0), some (.int i1), some (.int i2), some (.int i3), none]) rfl (fun n => ?_)
  exact ht_28 S i1 i2 i3 n
/-! 65: HatsOfTheWind.weightIfCovered(IIII)J -/
def hq_65_11 (i1 : Int32) (i2 : Int32) (i3 : Int32) (i4 : Int32) : Nat → hp_S → Int64 → Int32 → hp_S × Int64
  | 0, S, _, _ => (S, 0)
  | m + 1, S, v5, v7 => (if hz_cmp .ge v7 i2 = true then (S, v5) else (if hz_cmp .ne ((i4 >>> (v7 &&& 31)) &&& (Int32.ofInt 1)) (Int32.ofInt 1) = true then hq_65_11 i1 i2 i3 i4 m (hq_201 S 10) (v5 * (i3 - (Int32.ofInt 1)).toInt64) (v7 + (Int32.ofInt 1)) else hq_65_11 i1 i2 i3 i4 m (hq_201 (hp_w S (10 + 1) (S 10 2).toNatClampNeg (hq_220 S (Int32.ofInt 9) ((S (10 + 1) (S 10 2).toNatClampNeg) + (Int32.ofInt 3)))) 10) v5 (v7 + (Int32.ofInt 1))))
def hq_65 (S : hp_S) (i1 : Int32) (i2 : Int32) (i3 : Int32) (i4 : Int32) : Int64 × hp_S := (if hz_cmp .eq (hq_188 ((hq_65_11 i1 i2 i3 i4 ((i2.toInt - (Int32.ofInt 0).toInt).toNat + 1) (hq_55 S (Int32.ofInt 0)) ((Int64.ofInt 1)) ((Int32.ofInt 0))).1) 10 i1) 0 = true then ((hq_65_11 i1 i2 i3 i4 ((i2.toInt - (Int32.ofInt 0).toInt).toNat + 1) (hq_55 S (Int32.ofInt 0)) ((Int64.ofInt 1)) ((Int32.ofInt 0))).2, (hq_65_11 i1 i2 i3 i4 ((i2.toInt - (Int32.ofInt 0).toInt).toNat + 1) (hq_55 S (Int32.ofInt 0)) ((Int64.ofInt 1)) ((Int32.ofInt 0))).1) else ((Int64.ofInt 0), (hq_65_11 i1 i2 i3 i4 ((i2.toInt - (Int32.ofInt 0).toInt).toNat + 1) (hq_55 S (Int32.ofInt 0)) ((Int64.ofInt 1)) ((Int32.ofInt 0))).1))
theorem hf_65_11 {i1 : Int32} {i2 : Int32} {i3 : Int32} {i4 : Int32} (j : Nat) (z0 : j ≠ (10 + 1)) (z1 : j ≠ 10) (z2 : j ≠ (10 + 2)) (z3 : j ≠ (10 + 3)) (z4 : j ≠ (10 + 4)) (z5 : j ≠ (10 + 5)) (z6 : j ≠ (10 + 6)) (z7 : j ≠ (10 + 7)) (z8 : j ≠ (10 + 8)) : ∀ (m : Nat) (S : hp_S) (v5 : Int64) (v7 : Int32), (hq_65_11 i1 i2 i3 i4 m S v5 v7).1 j = S j := by
  intro m
  induction m with
  | zero => intros; rfl
  | succ m ih =>
    intro S v5 v7
    rw [hq_65_11]
    repeat' split
    all_goals simp [ih, hp_wo, hp_wgo, hp_cpo, hf_55, hf_201, z0, z1, z2, z3, z4, z5, z6, z7, z8]
theorem hf_65 (S : hp_S) (i1 : Int32) (i2 : Int32) (i3 : Int32) (i4 : Int32) (j : Nat) (z0 : j ≠ (10 + 1)) (z1 : j ≠ 10) (z2 : j ≠ (10 + 2)) (z3 : j ≠ (10 + 3)) (z4 : j ≠ (10 + 4)) (z5 : j ≠ (10 + 5)) (z6 : j ≠ (10 + 6)) (z7 : j ≠ (10 + 7)) (z8 : j ≠ (10 + 8)) : (hq_65 S i1 i2 i3 i4).2 j = S j := by
  unfold hq_65
  repeat' split
  all_goals simp [hp_wo, hp_wgo, hp_cpo, hf_55, hf_201, z0, z1, z2, z3, z4, z5, z6, z7, z8, hf_65_11]
set_option maxRecDepth 10000 in
theorem ht_65_11 {α : Type} {φ : α → Option Value × hzMem} {R : α} {X : hp_X} (N : Nat) (i1 : Int32) (i2 : Int32) (i3 : Int32) (i4 : Int32) : ∀ (n : Nat), n ≤ N → ∀ (m : Nat) (S : hp_S) (v5 : Int64) (v7 : Int32) (Z : hp_S × Int64), (i2.toInt - v7.toInt).toNat < m → hq_65_11 i1 i2 i3 i4 m S v5 v7 = Z → (∀ (x7 : Option Value), hp_T N 65 90 [some (.ref 0), some (.int i1), some (.int i2), some (.int i3), some (.int i4), some (.long Z.2), none, x7] [] (hp_mem X Z.1) φ R) → hp_T n 65 11 [some (.ref 0), some (.int i1), some (.int i2), some (.int i3), some (.int i4), some (.long v5), none, some (.int v7)] [] (hp_mem X S) φ R := by
  intro n
  induction n with
  | zero => intros; exact hp_0
  | succ n ih =>
    intro hN m S v5 v7 Z hm hZ kk
    cases m with
    | zero => exact absurd hm (Nat.not_lt_zero _)
    | succ m =>
      rw [hq_65_11] at hZ
      refine hp_sN [13, 14] (pc' := 14) (L' := [some (.ref 0), some (.int i1), some (.int i2), some (.int i3), some (.int i4), some (.long v5), none, some (.int v7)]) (st' := [.int i2, .int v7]) rfl rfl ?_
      refine hp_ic2 (pc' := 17) rfl rfl (fun h1 => ?_) (fun h1 => ?_)
      · rw [if_pos h1] at hZ
        subst hZ
        exact hp_le hN (kk (some (.int v7)))
      · rw [if_neg (hp_nt h1)] at hZ
        refine hp_sN [19, 21, 22, 23, 24, 25] (pc' := 25) (L' := [some (.ref 0), some (.int i1), some (.int i2), some (.int i3), some (.int i4), some (.long v5), none, some (.int v7)]) (st' := [.int (Int32.ofInt 1), .int ((i4 >>> (v7 &&& 31)) &&& (Int32.ofInt 1))]) rfl rfl ?_
        refine hp_ic2 (pc' := 28) rfl rfl (fun h2 => ?_) (fun h2 => ?_)
        · rw [if_pos h2] at hZ
          refine hp_sN [70, 71, 72, 73, 74, 75, 77, 78] (pc' := 78) (L' := [some (.ref 0), some (.int i1), some (.int i2), some (.int i3), some (.int i4), some (.long (v5 * (i3 - (Int32.ofInt 1)).toInt64)), none, some (.int v7)]) (st' := [.ref 0]) rfl rfl ?_
          refine hp_gf (pc' := 81) rfl (by decide) (hp_c0 X _) rfl rfl ?_
          refine hp_iv (virt := true) (pc' := 84) (rv := none) (M1 := hp_mem X (hq_201 S 10)) rfl rfl (by decide) (hk_201 (Or.inr (Or.inl rfl)) S) rfl rfl ?_
          show hp_T _ 65 84 _ [] _ _ _
          refine hp_sB 87 [11] (pc' := 11) (L' := [some (.ref 0), some (.int i1), some (.int i2), some (.int i3), some (.int i4), some (.long (v5 * (i3 - (Int32.ofInt 1)).toInt64)), none, some (.int (v7 + (Int32.ofInt 1)))]) (st' := []) rfl rfl ?_
          exact ih (Nat.le_trans (Nat.le_succ n) hN) m (hq_201 S 10) ((v5 * (i3 - (Int32.ofInt 1)).toInt64)) ((v7 + (Int32.ofInt 1))) Z (hp_up h1 hm) hZ kk
        · rw [if_neg (hp_nt h2)] at hZ
          refine hp_sN [29] (pc' := 29) (L' := [some (.ref 0), some (.int i1), some (.int i2), some (.int i3), some (.int i4), some (.long v5), none, some (.int v7)]) (st' := [.ref 0]) rfl rfl ?_
          refine hp_gf (pc' := 32) rfl (by decide) (hp_c0 X _) rfl rfl ?_
          refine hp_gf (pc' := 35) rfl (hp_bl (Or.inr (Or.inl rfl)) 0 (by decide)) (hp_b0 (Or.inr (Or.inl rfl)) X _) rfl rfl ?_
          refine hp_sN [36] (pc' := 36) (L' := [some (.ref 0), some (.int i1), some (.int i2), some (.int i3), some (.int i4), some (.long v5), none, some (.int v7)]) (st' := [.ref 0, .ref (10 + 1)]) rfl rfl ?_
          refine hp_gf (pc' := 39) rfl (by decide) (hp_c0 X _) rfl rfl ?_
          refine hp_gf (pc' := 42) rfl (hp_bl (Or.inr (Or.inl rfl)) 0 (by decide)) (hp_b0 (Or.inr (Or.inl rfl)) X _) rfl rfl ?_
          refine hp_sN [44, 45] (pc' := 45) (L' := [some (.ref 0), some (.int i1), some (.int i2), some (.int i3), some (.int i4), some (.long v5), none, some (.int v7)]) (st' := [.ref 0, .int (Int32.ofInt 9), .int (S 10 2), .ref (10 + 1)]) rfl rfl ?_
          refine hp_gf (pc' := 48) rfl (by decide) (hp_c0 X _) rfl rfl ?_
          refine hp_gf (pc' := 51) rfl (hp_bl (Or.inr (Or.inl rfl)) 0 (by decide)) (hp_b0 (Or.inr (Or.inl rfl)) X _) rfl rfl ?_
          refine hp_sN [52] (pc' := 52) (L' := [some (.ref 0), some (.int i1), some (.int i2), some (.int i3), some (.int i4), some (.long v5), none, some (.int v7)]) (st' := [.ref 0, .ref (10 + 1), .int (Int32.ofInt 9), .int (S 10 2), .ref (10 + 1)]) rfl rfl ?_
          refine hp_gf (pc' := 55) rfl (by decide) (hp_c0 X _) rfl rfl ?_
          refine hp_gf (pc' := 58) rfl (hp_bl (Or.inr (Or.inl rfl)) 0 (by decide)) (hp_b0 (Or.inr (Or.inl rfl)) X _) rfl rfl ?_
          refine hp_al (pc' := 59) rfl (hp_bl (Or.inr (Or.inl rfl)) 1 (by decide)) (hp_b1 (Or.inr (Or.inl rfl)) X _) rfl ?_
          refine hp_sN [60, 61] (pc' := 61) (L' := [some (.ref 0), some (.int i1), some (.int i2), some (.int i3), some (.int i4), some (.long v5), none, some (.int v7)]) (st' := [.int ((S (10 + 1) (S 10 2).toNatClampNeg) + (Int32.ofInt 3)), .int (Int32.ofInt 9), .int (S 10 2), .ref (10 + 1)]) rfl rfl ?_
          refine hp_iv (virt := false) (pc' := 64) (rv := some (.int (hq_220 S (Int32.ofInt 9) ((S (10 + 1) (S 10 2).toNatClampNeg) + (Int32.ofInt 3))))) (M1 := hp_mem X (S)) rfl rfl (by decide) (hk_220 S ((Int32.ofInt 9)) (((S (10 + 1) (S 10 2).toNatClampNeg) + (Int32.ofInt 3)))) rfl rfl ?_
          show hp_T _ 65 64 _ [.int (hq_220 S (Int32.ofInt 9) ((S (10 + 1) (S 10 2).toNatClampNeg) + (Int32.ofInt 3))), .int (S 10 2), .ref (10 + 1)] _ _ _
          refine hp_as (pc' := 65) rfl (hp_bl (Or.inr (Or.inl rfl)) 1 (by decide)) (fun _ => (hp_b1 (Or.inr (Or.inl rfl)) X _)) rfl ?_
          refine hp_sN [77, 78] (pc' := 78) (L' := [some (.ref 0), some (.int i1), some (.int i2), some (.int i3), some (.int i4), some (.long v5), none, some (.int v7)]) (st' := [.ref 0]) rfl rfl ?_
          refine hp_gf (pc' := 81) rfl (by decide) (hp_c0 X _) rfl rfl ?_
          refine hp_iv (virt := true) (pc' := 84) (rv := none) (M1 := hp_mem X (hq_201 (hp_w S (10 + 1) (S 10 2).toNatClampNeg (hq_220 S (Int32.ofInt 9) ((S (10 + 1) (S 10 2).toNatClampNeg) + (Int32.ofInt 3)))) 10)) rfl rfl (by decide) (hk_201 (Or.inr (Or.inl rfl)) (hp_w S (10 + 1) (S 10 2).toNatClampNeg (hq_220 S (Int32.ofInt 9) ((S (10 + 1) (S 10 2).toNatClampNeg) + (Int32.ofInt 3))))) rfl rfl ?_
          show hp_T _ 65 84 _ [] _ _ _
          refine hp_sB 87 [11] (pc' := 11) (L' := [some (.ref 0), some (.int i1), some (.int i2), some (.int i3), some (.int i4), some (.long v5), none, some (.int (v7 + (Int32.ofInt 1)))]) (st' := []) rfl rfl ?_
          exact ih (Nat.le_trans (Nat.le_succ n) hN) m (hq_201 (hp_w S (10 + 1) (S 10 2).toNatClampNeg (hq_220 S (Int32.ofInt 9) ((S (10 + 1) (S 10 2).toNatClampNeg) + (Int32.ofInt 3)))) 10) (v5) ((v7 + (Int32.ofInt 1))) Z (hp_up h1 hm) hZ kk
set_option maxRecDepth 10000 in
theorem ht_65 {X : hp_X} (S : hp_S) (i1 : Int32) (i2 : Int32) (i3 : Int32) (i4 : Int32) (n : Nat) : hp_T n 65 0 [some (.ref 0), some (.int i1), some (.int i2), some (.int i3), some (.int i4), none, none, none] [] (hp_mem X S) (hp_ls X) (hq_65 S i1 i2 i3 i4) := by
  unfold hq_65
  refine hp_sN [1, 3, 4, 5] (pc' := 5) (L' := [some (.ref 0), some (.int i1), some (.int i2), some (.int i3), some (.int i4), some (.long (Int64.ofInt 1)), none, none]) (st' := [.int (Int32.ofInt 0), .ref 0]) rfl rfl ?_
  refine hp_iv (virt := true) (pc' := 8) (rv := none) (M1 := hp_mem X (hq_55 S (Int32.ofInt 0))) rfl rfl (by decide) (hk_55 S ((Int32.ofInt 0))) rfl rfl ?_
  show hp_T _ 65 8 _ [] _ _ _
  refine hp_sN [9, 11] (pc' := 11) (L' := [some (.ref 0), some (.int i1), some (.int i2), some (.int i3), some (.int i4), some (.long (Int64.ofInt 1)), none, some (.int (Int32.ofInt 0))]) (st' := []) rfl rfl ?_
  refine ht_65_11 n i1 i2 i3 i4  n (Nat.le_refl _) ((i2.toInt - (Int32.ofInt 0).toInt).toNat + 1) (hq_55 S (Int32.ofInt 0)) ((Int64.ofInt 1)) ((Int32.ofInt 0))  _ (Nat.lt_succ_self _) rfl (fun x7_11 => ?_)
  show hp_T _ 65 90 [some (.ref 0), some (.int i1), some (.int i2), some (.int i3), some (.int i4), some (.long (hq_65_11 i1 i2 i3 i4 ((i2.toInt - (Int32.ofInt 0).toInt).toNat + 1) (hq_55 S (Int32.ofInt 0)) ((Int64.ofInt 1)) ((Int32.ofInt 0))).2), none, x7_11] _ (hp_mem X ((hq_65_11 i1 i2 i3 i4 ((i2.toInt - (Int32.ofInt 0).toInt).toNat + 1) (hq_55 S (Int32.ofInt 0)) ((Int64.ofInt 1)) ((Int32.ofInt 0))).1)) _ _
  refine hp_sN [91] (pc' := 91) (L' := [some (.ref 0), some (.int i1), some (.int i2), some (.int i3), some (.int i4), some (.long (hq_65_11 i1 i2 i3 i4 ((i2.toInt - (Int32.ofInt 0).toInt).toNat + 1) (hq_55 S (Int32.ofInt 0)) ((Int64.ofInt 1)) ((Int32.ofInt 0))).2), none, x7_11]) (st' := [.ref 0]) rfl rfl ?_
  refine hp_gf (pc' := 94) rfl (by decide) (hp_c0 X _) rfl rfl ?_
  refine hp_sN [95] (pc' := 95) (L' := [some (.ref 0), some (.int i1), some (.int i2), some (.int i3), some (.int i4), some (.long (hq_65_11 i1 i2 i3 i4 ((i2.toInt - (Int32.ofInt 0).toInt).toNat + 1) (hq_55 S (Int32.ofInt 0)) ((Int64.ofInt 1)) ((Int32.ofInt 0))).2), none, x7_11]) (st' := [.int i1, .ref 10]) rfl rfl ?_
  refine hp_iv (virt := true) (pc' := 98) (rv := some (.int (hq_188 ((hq_65_11 i1 i2 i3 i4 ((i2.toInt - (Int32.ofInt 0).toInt).toNat + 1) (hq_55 S (Int32.ofInt 0)) ((Int64.ofInt 1)) ((Int32.ofInt 0))).1) 10 i1))) (M1 := hp_mem X ((hq_65_11 i1 i2 i3 i4 ((i2.toInt - (Int32.ofInt 0).toInt).toNat + 1) (hq_55 S (Int32.ofInt 0)) ((Int64.ofInt 1)) ((Int32.ofInt 0))).1)) rfl rfl (by decide) (hk_188 (Or.inr (Or.inl rfl)) ((hq_65_11 i1 i2 i3 i4 ((i2.toInt - (Int32.ofInt 0).toInt).toNat + 1) (hq_55 S (Int32.ofInt 0)) ((Int64.ofInt 1)) ((Int32.ofInt 0))).1) (i1)) rfl rfl ?_
  show hp_T _ 65 98 _ [.int (hq_188 ((hq_65_11 i1 i2 i3 i4 ((i2.toInt - (Int32.ofInt 0).toInt).toNat + 1) (hq_55 S (Int32.ofInt 0)) ((Int64.ofInt 1)) ((Int32.ofInt 0))).1) 10 i1)] _ _ _
  refine hp_if (pc' := 101) rfl rfl (fun h1 => ?_) (fun h1 => ?_)
  · refine hp_sN [107] (pc' := 107) (L' := [some (.ref 0), some (.int i1), some (.int i2), some (.int i3), some (.int i4), some (.long (hq_65_11 i1 i2 i3 i4 ((i2.toInt - (Int32.ofInt 0).toInt).toNat + 1) (hq_55 S (Int32.ofInt 0)) ((Int64.ofInt 1)) ((Int32.ofInt 0))).2), none, x7_11]) (st' := [.long (hq_65_11 i1 i2 i3 i4 ((i2.toInt - (Int32.ofInt 0).toInt).toNat + 1) (hq_55 S (Int32.ofInt 0)) ((Int64.ofInt 1)) ((Int32.ofInt 0))).2]) rfl rfl ?_
    exact hp_Rls rfl
  · refine hp_sN [102, 107] (pc' := 107) (L' := [some (.ref 0), some (.int i1), some (.int i2), some (.int i3), some (.int i4), some (.long (hq_65_11 i1 i2 i3 i4 ((i2.toInt - (Int32.ofInt 0).toInt).toNat + 1) (hq_55 S (Int32.ofInt 0)) ((Int64.ofInt 1)) ((Int32.ofInt 0))).2), none, x7_11]) (st' := [.long (Int64.ofInt 0)]) rfl rfl ?_
    exact hp_Rls rfl
theorem hk_65 {X : hp_X} (S : hp_S) (i1 : Int32) (i2 : Int32) (i3 : Int32) (i4 : Int32) : hp_K 65 [.ref 0, .int i1, .int i2, .int i3, .int i4] (hp_mem X S) (hp_ls X) (hq_65 S i1 i2 i3 i4) := by
  refine hp_mk (q := hzq_65) rfl (by decide) (L := [some (.ref 0), some (.int i1), some (.int i2), some (.int i3), some (.int i4), none, none, none]) rfl (fun n => ?_)
  exact ht_65 S i1 i2 i3 i4 n
/-! 67: HatsOfTheWind.greatestDivisor(JJ)J -/
def hq_67_9 (i1 : Int64) (i2 : Int64) : Nat → hp_S → Int64 → Int64 → Int32 → Int64
  | 0, S, _, _, _ => 0
  | m + 1, S, v4, v6, v8 => (if hz_cmp .ge v8 (Int32.ofInt 100) = true then v4 else (if hz_cmp .eq (lg_cmp v6 (Int64.ofInt 0)) 0 = true then v4 else hq_67_9 i1 i2 m S v6 (v4 - v4 / v6 * v6) (v8 + (Int32.ofInt 1))))
def hq_67 (S : hp_S) (i1 : Int64) (i2 : Int64) : Int64 := (hq_67_9 i1 i2 (((Int32.ofInt 100).toInt - (Int32.ofInt 0).toInt).toNat + 1) S (i1) (i2) ((Int32.ofInt 0)))
set_option maxRecDepth 10000 in
theorem ht_67_9 {α : Type} {φ : α → Option Value × hzMem} {R : α} {X : hp_X} (N : Nat) (i1 : Int64) (i2 : Int64) (S : hp_S) : ∀ (n : Nat), n ≤ N → ∀ (m : Nat) (v4 : Int64) (v6 : Int64) (v8 : Int32) (x9 : Option Value) (x10 : Option Value) (Z : Int64), ((Int32.ofInt 100).toInt - v8.toInt).toNat < m → hq_67_9 i1 i2 m S v4 v6 v8 = Z → (∀ (x9 : Option Value) (x10 : Option Value) (x6 : Option Value) (x8 : Option Value), hp_T N 67 44 [some (.long i1), none, some (.long i2), none, some (.long Z), none, x6, none, x8, x9, x10] [] (hp_mem X S) φ R) → hp_T n 67 9 [some (.long i1), none, some (.long i2), none, some (.long v4), none, some (.long v6), none, some (.int v8), x9, x10] [] (hp_mem X S) φ R := by
  intro n
  induction n with
  | zero => intros; exact hp_0
  | succ n ih =>
    intro hN m v4 v6 v8 x9 x10 Z hm hZ kk
    cases m with
    | zero => exact absurd hm (Nat.not_lt_zero _)
    | succ m =>
      rw [hq_67_9] at hZ
      refine hp_sN [11, 13] (pc' := 13) (L' := [some (.long i1), none, some (.long i2), none, some (.long v4), none, some (.long v6), none, some (.int v8), x9, x10]) (st' := [.int (Int32.ofInt 100), .int v8]) rfl rfl ?_
      refine hp_ic2 (pc' := 16) rfl rfl (fun h1 => ?_) (fun h1 => ?_)
      · rw [if_pos h1] at hZ
        subst hZ
        exact hp_le hN (kk (x9) (x10) (some (.long v6)) (some (.int v8)))
      · rw [if_neg (hp_nt h1)] at hZ
        refine hp_sN [18, 19, 20] (pc' := 20) (L' := [some (.long i1), none, some (.long i2), none, some (.long v4), none, some (.long v6), none, some (.int v8), x9, x10]) (st' := [.int (lg_cmp v6 (Int64.ofInt 0))]) rfl rfl ?_
        refine hp_if2 (pc' := 23) rfl rfl (fun h2 => ?_) (fun h2 => ?_)
        · rw [if_pos h2] at hZ
          subst hZ
          exact hp_le hN (kk (x9) (x10) (some (.long v6)) (some (.int v8)))
        · rw [if_neg (hp_nt h2)] at hZ
          refine hp_sN [25, 27] (pc' := 27) (L' := [some (.long i1), none, some (.long i2), none, some (.long v4), none, some (.long v6), none, some (.int v8), x9, x10]) (st' := [.long v6, .long v4]) rfl rfl ?_
          refine hp_rl2 (pc' := 28) rfl rfl ?_
          refine hp_sB 30 [32, 34, 36, 38, 41, 9] (pc' := 9) (L' := [some (.long i1), none, some (.long i2), none, some (.long v6), none, some (.long (v4 - v4 / v6 * v6)), none, some (.int (v8 + (Int32.ofInt 1))), some (.long (v4 - v4 / v6 * v6)), none]) (st' := []) rfl rfl ?_
          exact ih (Nat.le_trans (Nat.le_succ n) hN) m (v6) ((v4 - v4 / v6 * v6)) ((v8 + (Int32.ofInt 1))) (some (.long (v4 - v4 / v6 * v6))) (none) Z (hp_up h1 hm) hZ kk
set_option maxRecDepth 10000 in
theorem ht_67 {X : hp_X} (S : hp_S) (i1 : Int64) (i2 : Int64) (n : Nat) : hp_T n 67 0 [some (.long i1), none, some (.long i2), none, none, none, none, none, none, none, none] [] (hp_mem X S) (hp_l X S) (hq_67 S i1 i2) := by
  unfold hq_67
  refine hp_sN [1, 3, 4, 6, 7, 9] (pc' := 9) (L' := [some (.long i1), none, some (.long i2), none, some (.long i1), none, some (.long i2), none, some (.int (Int32.ofInt 0)), none, none]) (st' := []) rfl rfl ?_
  refine ht_67_9 n i1 i2 S n (Nat.le_refl _) (((Int32.ofInt 100).toInt - (Int32.ofInt 0).toInt).toNat + 1)  (i1) (i2) ((Int32.ofInt 0)) (none) (none) _ (Nat.lt_succ_self _) rfl (fun x9_9 x10_9 x6_9 x8_9 => ?_)
  show hp_T _ 67 44 [some (.long i1), none, some (.long i2), none, some (.long (hq_67_9 i1 i2 (((Int32.ofInt 100).toInt - (Int32.ofInt 0).toInt).toNat + 1) S (i1) (i2) ((Int32.ofInt 0)))), none, x6_9, none, x8_9, x9_9, x10_9] _ (hp_mem X S) _ _
  refine hp_sN [46] (pc' := 46) (L' := [some (.long i1), none, some (.long i2), none, some (.long (hq_67_9 i1 i2 (((Int32.ofInt 100).toInt - (Int32.ofInt 0).toInt).toNat + 1) S (i1) (i2) ((Int32.ofInt 0)))), none, x6_9, none, x8_9, x9_9, x10_9]) (st' := [.long (hq_67_9 i1 i2 (((Int32.ofInt 100).toInt - (Int32.ofInt 0).toInt).toNat + 1) S (i1) (i2) ((Int32.ofInt 0)))]) rfl rfl ?_
  exact hp_Rl rfl
theorem hk_67 {X : hp_X} (S : hp_S) (i1 : Int64) (i2 : Int64) : hp_K 67 [.long i1, .long i2] (hp_mem X S) (hp_l X S) (hq_67 S i1 i2) := by
  refine hp_mk (q := hzq_67) rfl (by decide) (L := [some (.long i1), none, some (.long i2), none, none, none, none, none, none, none, none]) rfl (fun n => ?_)
  exact ht_67 S i1 i2 n
/-! 66: HatsOfTheWind.inLeastTerms(JJI)J -/
def hq_66 (S : hp_S) (i1 : Int64) (i2 : Int64) (i3 : Int32) : Int64 := (if hz_cmp .ne (lg_cmp (hq_67 S i1 i2) (Int64.ofInt 0)) 0 = true then (if hz_cmp .ne i3 0 = true then (i2 / (hq_67 S i1 i2)) else (i1 / (hq_67 S i1 i2))) else (Int64.ofInt 0))
set_option maxRecDepth 10000 in
theorem ht_66 {X : hp_X} (S : hp_S) (i1 : Int64) (i2 : Int64) (i3 : Int32) (n : Nat) : hp_T n 66 0 [some (.long i1), none, some (.long i2), none, some (.int i3), none, none] [] (hp_mem X S) (hp_l X S) (hq_66 S i1 i2 i3) := by
  unfold hq_66
  refine hp_sN [1, 2] (pc' := 2) (L' := [some (.long i1), none, some (.long i2), none, some (.int i3), none, none]) (st' := [.long i2, .long i1]) rfl rfl ?_
  refine hp_iv (virt := false) (pc' := 5) (rv := some (.long (hq_67 S i1 i2))) (M1 := hp_mem X (S)) rfl rfl (by decide) (hk_67 S (i1) (i2)) rfl rfl ?_
  show hp_T _ 66 5 _ [.long (hq_67 S i1 i2)] _ _ _
  refine hp_sN [7, 9, 10, 11] (pc' := 11) (L' := [some (.long i1), none, some (.long i2), none, some (.int i3), some (.long (hq_67 S i1 i2)), none]) (st' := [.int (lg_cmp (hq_67 S i1 i2) (Int64.ofInt 0))]) rfl rfl ?_
  refine hp_if (pc' := 14) rfl rfl (fun h1 => ?_) (fun h1 => ?_)
  · refine hp_sN [18] (pc' := 18) (L' := [some (.long i1), none, some (.long i2), none, some (.int i3), some (.long (hq_67 S i1 i2)), none]) (st' := [.int i3]) rfl rfl ?_
    refine hp_if (pc' := 21) rfl rfl (fun h2 => ?_) (fun h2 => ?_)
    · refine hp_sN [26, 28] (pc' := 28) (L' := [some (.long i1), none, some (.long i2), none, some (.int i3), some (.long (hq_67 S i1 i2)), none]) (st' := [.long (hq_67 S i1 i2), .long i2]) rfl rfl ?_
      refine hp_dl (pc' := 29) rfl rfl ?_
      exact hp_Rl rfl
    · refine hp_sN [22, 26, 28] (pc' := 28) (L' := [some (.long i1), none, some (.long i2), none, some (.int i3), some (.long (hq_67 S i1 i2)), none]) (st' := [.long (hq_67 S i1 i2), .long i1]) rfl rfl ?_
      refine hp_dl (pc' := 29) rfl rfl ?_
      exact hp_Rl rfl
  · refine hp_sN [15] (pc' := 15) (L' := [some (.long i1), none, some (.long i2), none, some (.int i3), some (.long (hq_67 S i1 i2)), none]) (st' := [.long (Int64.ofInt 0)]) rfl rfl ?_
    exact hp_Rl rfl
theorem hk_66 {X : hp_X} (S : hp_S) (i1 : Int64) (i2 : Int64) (i3 : Int32) : hp_K 66 [.long i1, .long i2, .int i3] (hp_mem X S) (hp_l X S) (hq_66 S i1 i2 i3) := by
  refine hp_mk (q := hzq_66) rfl (by decide) (L := [some (.long i1), none, some (.long i2), none, some (.int i3), none, none]) rfl (fun n => ?_)
  exact ht_66 S i1 i2 i3 n
/-! 29: HatsOfTheWind.gusts(IIII)J -/
def hq_29_49 (i1 : Int32) (i2 : Int32) (i3 : Int32) (i4 : Int32) : Nat → hp_S → Int64 → Int32 → Int64
  | 0, S, _, _ => 0
  | m + 1, S, v5, v7 => (if hz_cmp .ge v7 i2 = true then v5 else hq_29_49 i1 i2 i3 i4 m S (v5 * i3.toInt64) (v7 + (Int32.ofInt 1)))
def hq_29_74 (i1 : Int32) (i2 : Int32) (i3 : Int32) (i4 : Int32) : Nat → hp_S → Int64 → Int64 → Int32 → hp_S × Int64
  | 0, S, _, _, _ => (S, 0)
  | m + 1, S, v5, v7, v9 => (if hz_cmp .ge v9 ((Int32.ofInt 1) <<< (i2 &&& 31)) = true then (S, v7) else hq_29_74 i1 i2 i3 i4 m ((hq_65 S i1 i2 i3 v9).2) v5 (v7 + (hq_65 S i1 i2 i3 v9).1) (v9 + (Int32.ofInt 1)))
def hq_29 (S : hp_S) (i1 : Int32) (i2 : Int32) (i3 : Int32) (i4 : Int32) : Int64 × hp_S := (if hz_cmp .eq (hq_181 S 1 i1) 0 = true then ((Int64.ofInt 1000000001), S) else (if hz_cmp .eq (hq_44 S i2 (Int32.ofInt 0) (Int32.ofInt 7)) 0 = true then ((Int64.ofInt 1000000001), S) else (if hz_cmp .eq (hq_44 S i3 (Int32.ofInt 2) (Int32.ofInt 20)) 0 = true then ((Int64.ofInt 1000000001), S) else (if hz_cmp .ne (hq_45 S i4) 0 = true then ((hq_66 ((hq_29_74 i1 i2 i3 i4 ((((Int32.ofInt 1) <<< (i2 &&& 31)).toInt - (Int32.ofInt 0).toInt).toNat + 1) S ((hq_29_49 i1 i2 i3 i4 ((i2.toInt - (Int32.ofInt 0).toInt).toNat + 1) S ((Int64.ofInt 1)) ((Int32.ofInt 0)))) ((Int64.ofInt 0)) ((Int32.ofInt 0))).1) (hq_29_74 i1 i2 i3 i4 ((((Int32.ofInt 1) <<< (i2 &&& 31)).toInt - (Int32.ofInt 0).toInt).toNat + 1) S ((hq_29_49 i1 i2 i3 i4 ((i2.toInt - (Int32.ofInt 0).toInt).toNat + 1) S ((Int64.ofInt 1)) ((Int32.ofInt 0)))) ((Int64.ofInt 0)) ((Int32.ofInt 0))).2 (hq_29_49 i1 i2 i3 i4 ((i2.toInt - (Int32.ofInt 0).toInt).toNat + 1) S ((Int64.ofInt 1)) ((Int32.ofInt 0))) i4), (hq_29_74 i1 i2 i3 i4 ((((Int32.ofInt 1) <<< (i2 &&& 31)).toInt - (Int32.ofInt 0).toInt).toNat + 1) S ((hq_29_49 i1 i2 i3 i4 ((i2.toInt - (Int32.ofInt 0).toInt).toNat + 1) S ((Int64.ofInt 1)) ((Int32.ofInt 0)))) ((Int64.ofInt 0)) ((Int32.ofInt 0))).1) else ((Int64.ofInt 1000000001), S)))))
theorem hf_29_74 {i1 : Int32} {i2 : Int32} {i3 : Int32} {i4 : Int32} (j : Nat) (z0 : j ≠ (10 + 1)) (z1 : j ≠ 10) (z2 : j ≠ (10 + 2)) (z3 : j ≠ (10 + 3)) (z4 : j ≠ (10 + 4)) (z5 : j ≠ (10 + 5)) (z6 : j ≠ (10 + 6)) (z7 : j ≠ (10 + 7)) (z8 : j ≠ (10 + 8)) : ∀ (m : Nat) (S : hp_S) (v5 : Int64) (v7 : Int64) (v9 : Int32), (hq_29_74 i1 i2 i3 i4 m S v5 v7 v9).1 j = S j := by
  intro m
  induction m with
  | zero => intros; rfl
  | succ m ih =>
    intro S v5 v7 v9
    rw [hq_29_74]
    repeat' split
    all_goals simp [ih, hp_wo, hp_wgo, hp_cpo, hf_65, z0, z1, z2, z3, z4, z5, z6, z7, z8]
theorem hf_29 (S : hp_S) (i1 : Int32) (i2 : Int32) (i3 : Int32) (i4 : Int32) (j : Nat) (z0 : j ≠ (10 + 1)) (z1 : j ≠ 10) (z2 : j ≠ (10 + 2)) (z3 : j ≠ (10 + 3)) (z4 : j ≠ (10 + 4)) (z5 : j ≠ (10 + 5)) (z6 : j ≠ (10 + 6)) (z7 : j ≠ (10 + 7)) (z8 : j ≠ (10 + 8)) : (hq_29 S i1 i2 i3 i4).2 j = S j := by
  unfold hq_29
  repeat' split
  all_goals simp [hp_wo, hp_wgo, hp_cpo, hf_65, z0, z1, z2, z3, z4, z5, z6, z7, z8, hf_29_74]
set_option maxRecDepth 10000 in
theorem ht_29_49 {α : Type} {φ : α → Option Value × hzMem} {R : α} {X : hp_X} (N : Nat) (i1 : Int32) (i2 : Int32) (i3 : Int32) (i4 : Int32) (S : hp_S) : ∀ (n : Nat), n ≤ N → ∀ (m : Nat) (v5 : Int64) (v7 : Int32) (x8 : Option Value) (x9 : Option Value) (Z : Int64), (i2.toInt - v7.toInt).toNat < m → hq_29_49 i1 i2 i3 i4 m S v5 v7 = Z → (∀ (x8 : Option Value) (x9 : Option Value) (x7 : Option Value), hp_T N 29 68 [some (.ref 0), some (.int i1), some (.int i2), some (.int i3), some (.int i4), some (.long Z), none, x7, x8, x9] [] (hp_mem X S) φ R) → hp_T n 29 49 [some (.ref 0), some (.int i1), some (.int i2), some (.int i3), some (.int i4), some (.long v5), none, some (.int v7), x8, x9] [] (hp_mem X S) φ R := by
  intro n
  induction n with
  | zero => intros; exact hp_0
  | succ n ih =>
    intro hN m v5 v7 x8 x9 Z hm hZ kk
    cases m with
    | zero => exact absurd hm (Nat.not_lt_zero _)
    | succ m =>
      rw [hq_29_49] at hZ
      refine hp_sN [51, 52] (pc' := 52) (L' := [some (.ref 0), some (.int i1), some (.int i2), some (.int i3), some (.int i4), some (.long v5), none, some (.int v7), x8, x9]) (st' := [.int i2, .int v7]) rfl rfl ?_
      refine hp_ic2 (pc' := 55) rfl rfl (fun h1 => ?_) (fun h1 => ?_)
      · rw [if_pos h1] at hZ
        subst hZ
        exact hp_le hN (kk (x8) (x9) (some (.int v7)))
      · rw [if_neg (hp_nt h1)] at hZ
        refine hp_sB 57 [58, 59, 60, 62, 65, 49] (pc' := 49) (L' := [some (.ref 0), some (.int i1), some (.int i2), some (.int i3), some (.int i4), some (.long (v5 * i3.toInt64)), none, some (.int (v7 + (Int32.ofInt 1))), x8, x9]) (st' := []) rfl rfl ?_
        exact ih (Nat.le_trans (Nat.le_succ n) hN) m ((v5 * i3.toInt64)) ((v7 + (Int32.ofInt 1))) (x8) (x9) Z (hp_up h1 hm) hZ kk
set_option maxRecDepth 10000 in
theorem ht_29_74 {α : Type} {φ : α → Option Value × hzMem} {R : α} {X : hp_X} (N : Nat) (i1 : Int32) (i2 : Int32) (i3 : Int32) (i4 : Int32) : ∀ (n : Nat), n ≤ N → ∀ (m : Nat) (S : hp_S) (v5 : Int64) (v7 : Int64) (v9 : Int32) (Z : hp_S × Int64), (((Int32.ofInt 1) <<< (i2 &&& 31)).toInt - v9.toInt).toNat < m → hq_29_74 i1 i2 i3 i4 m S v5 v7 v9 = Z → (∀ (x9 : Option Value), hp_T N 29 102 [some (.ref 0), some (.int i1), some (.int i2), some (.int i3), some (.int i4), some (.long v5), none, some (.long Z.2), none, x9] [] (hp_mem X Z.1) φ R) → hp_T n 29 74 [some (.ref 0), some (.int i1), some (.int i2), some (.int i3), some (.int i4), some (.long v5), none, some (.long v7), none, some (.int v9)] [] (hp_mem X S) φ R := by
  intro n
  induction n with
  | zero => intros; exact hp_0
  | succ n ih =>
    intro hN m S v5 v7 v9 Z hm hZ kk
    cases m with
    | zero => exact absurd hm (Nat.not_lt_zero _)
    | succ m =>
      rw [hq_29_74] at hZ
      refine hp_sN [76, 77, 78, 79] (pc' := 79) (L' := [some (.ref 0), some (.int i1), some (.int i2), some (.int i3), some (.int i4), some (.long v5), none, some (.long v7), none, some (.int v9)]) (st' := [.int ((Int32.ofInt 1) <<< (i2 &&& 31)), .int v9]) rfl rfl ?_
      refine hp_ic2 (pc' := 82) rfl rfl (fun h1 => ?_) (fun h1 => ?_)
      · rw [if_pos h1] at hZ
        subst hZ
        exact hp_le hN (kk (some (.int v9)))
      · rw [if_neg (hp_nt h1)] at hZ
        refine hp_sN [84, 85, 86, 87, 88, 90] (pc' := 90) (L' := [some (.ref 0), some (.int i1), some (.int i2), some (.int i3), some (.int i4), some (.long v5), none, some (.long v7), none, some (.int v9)]) (st' := [.int v9, .int i3, .int i2, .int i1, .ref 0, .long v7]) rfl rfl ?_
        refine hp_iv (virt := true) (pc' := 93) (rv := some (.long (hq_65 S i1 i2 i3 v9).1)) (M1 := hp_mem X ((hq_65 S i1 i2 i3 v9).2)) rfl rfl (by decide) (hk_65 S (i1) (i2) (i3) (v9)) rfl rfl ?_
        show hp_T _ 29 93 _ [.long (hq_65 S i1 i2 i3 v9).1, .long v7] _ _ _
        refine hp_sB 94 [96, 99, 74] (pc' := 74) (L' := [some (.ref 0), some (.int i1), some (.int i2), some (.int i3), some (.int i4), some (.long v5), none, some (.long (v7 + (hq_65 S i1 i2 i3 v9).1)), none, some (.int (v9 + (Int32.ofInt 1)))]) (st' := []) rfl rfl ?_
        exact ih (Nat.le_trans (Nat.le_succ n) hN) m ((hq_65 S i1 i2 i3 v9).2) (v5) ((v7 + (hq_65 S i1 i2 i3 v9).1)) ((v9 + (Int32.ofInt 1))) Z (hp_up h1 hm) hZ kk
set_option maxRecDepth 10000 in
theorem ht_29 {X : hp_X} (S : hp_S) (i1 : Int32) (i2 : Int32) (i3 : Int32) (i4 : Int32) (n : Nat) : hp_T n 29 0 [some (.ref 0), some (.int i1), some (.int i2), some (.int i3), some (.int i4), none, none, none, none, none] [] (hp_mem X S) (hp_ls X) (hq_29 S i1 i2 i3 i4) := by
  unfold hq_29
  refine hp_sN [1] (pc' := 1) (L' := [some (.ref 0), some (.int i1), some (.int i2), some (.int i3), some (.int i4), none, none, none, none, none]) (st' := [.ref 0]) rfl rfl ?_
  refine hp_gf (pc' := 4) rfl (by decide) (hp_c0 X _) rfl rfl ?_
  refine hp_sN [5] (pc' := 5) (L' := [some (.ref 0), some (.int i1), some (.int i2), some (.int i3), some (.int i4), none, none, none, none, none]) (st' := [.int i1, .ref 1]) rfl rfl ?_
  refine hp_iv (virt := true) (pc' := 8) (rv := some (.int (hq_181 S 1 i1))) (M1 := hp_mem X (S)) rfl rfl (by decide) (hk_181 (Or.inl rfl) S (i1)) rfl rfl ?_
  show hp_T _ 29 8 _ [.int (hq_181 S 1 i1)] _ _ _
  refine hp_if (pc' := 11) rfl rfl (fun h1 => ?_) (fun h1 => ?_)
  · refine hp_sN [42] (pc' := 42) (L' := [some (.ref 0), some (.int i1), some (.int i2), some (.int i3), some (.int i4), none, none, none, none, none]) (st' := [.long (Int64.ofInt 1000000001)]) rfl rfl ?_
    exact hp_Rls rfl
  · refine hp_sN [12, 13, 15] (pc' := 15) (L' := [some (.ref 0), some (.int i1), some (.int i2), some (.int i3), some (.int i4), none, none, none, none, none]) (st' := [.int (Int32.ofInt 7), .int (Int32.ofInt 0), .int i2]) rfl rfl ?_
    refine hp_iv (virt := false) (pc' := 18) (rv := some (.int (hq_44 S i2 (Int32.ofInt 0) (Int32.ofInt 7)))) (M1 := hp_mem X (S)) rfl rfl (by decide) (hk_44 S (i2) ((Int32.ofInt 0)) ((Int32.ofInt 7))) rfl rfl ?_
    show hp_T _ 29 18 _ [.int (hq_44 S i2 (Int32.ofInt 0) (Int32.ofInt 7))] _ _ _
    refine hp_if (pc' := 21) rfl rfl (fun h2 => ?_) (fun h2 => ?_)
    · refine hp_sN [42] (pc' := 42) (L' := [some (.ref 0), some (.int i1), some (.int i2), some (.int i3), some (.int i4), none, none, none, none, none]) (st' := [.long (Int64.ofInt 1000000001)]) rfl rfl ?_
      exact hp_Rls rfl
    · refine hp_sN [22, 23, 25] (pc' := 25) (L' := [some (.ref 0), some (.int i1), some (.int i2), some (.int i3), some (.int i4), none, none, none, none, none]) (st' := [.int (Int32.ofInt 20), .int (Int32.ofInt 2), .int i3]) rfl rfl ?_
      refine hp_iv (virt := false) (pc' := 28) (rv := some (.int (hq_44 S i3 (Int32.ofInt 2) (Int32.ofInt 20)))) (M1 := hp_mem X (S)) rfl rfl (by decide) (hk_44 S (i3) ((Int32.ofInt 2)) ((Int32.ofInt 20))) rfl rfl ?_
      show hp_T _ 29 28 _ [.int (hq_44 S i3 (Int32.ofInt 2) (Int32.ofInt 20))] _ _ _
      refine hp_if (pc' := 31) rfl rfl (fun h3 => ?_) (fun h3 => ?_)
      · refine hp_sN [42] (pc' := 42) (L' := [some (.ref 0), some (.int i1), some (.int i2), some (.int i3), some (.int i4), none, none, none, none, none]) (st' := [.long (Int64.ofInt 1000000001)]) rfl rfl ?_
        exact hp_Rls rfl
      · refine hp_sN [33] (pc' := 33) (L' := [some (.ref 0), some (.int i1), some (.int i2), some (.int i3), some (.int i4), none, none, none, none, none]) (st' := [.int i4]) rfl rfl ?_
        refine hp_iv (virt := false) (pc' := 36) (rv := some (.int (hq_45 S i4))) (M1 := hp_mem X (S)) rfl rfl (by decide) (hk_45 S (i4)) rfl rfl ?_
        show hp_T _ 29 36 _ [.int (hq_45 S i4)] _ _ _
        refine hp_if (pc' := 39) rfl rfl (fun h4 => ?_) (fun h4 => ?_)
        · refine hp_sN [44, 46, 47, 49] (pc' := 49) (L' := [some (.ref 0), some (.int i1), some (.int i2), some (.int i3), some (.int i4), some (.long (Int64.ofInt 1)), none, some (.int (Int32.ofInt 0)), none, none]) (st' := []) rfl rfl ?_
          refine ht_29_49 n i1 i2 i3 i4 S n (Nat.le_refl _) ((i2.toInt - (Int32.ofInt 0).toInt).toNat + 1)  ((Int64.ofInt 1)) ((Int32.ofInt 0)) (none) (none) _ (Nat.lt_succ_self _) rfl (fun x8_49 x9_49 x7_49 => ?_)
          show hp_T _ 29 68 [some (.ref 0), some (.int i1), some (.int i2), some (.int i3), some (.int i4), some (.long (hq_29_49 i1 i2 i3 i4 ((i2.toInt - (Int32.ofInt 0).toInt).toNat + 1) S ((Int64.ofInt 1)) ((Int32.ofInt 0)))), none, x7_49, x8_49, x9_49] _ (hp_mem X S) _ _
          refine hp_sN [69, 71, 72, 74] (pc' := 74) (L' := [some (.ref 0), some (.int i1), some (.int i2), some (.int i3), some (.int i4), some (.long (hq_29_49 i1 i2 i3 i4 ((i2.toInt - (Int32.ofInt 0).toInt).toNat + 1) S ((Int64.ofInt 1)) ((Int32.ofInt 0)))), none, some (.long (Int64.ofInt 0)), none, some (.int (Int32.ofInt 0))]) (st' := []) rfl rfl ?_
          refine ht_29_74 n i1 i2 i3 i4  n (Nat.le_refl _) ((((Int32.ofInt 1) <<< (i2 &&& 31)).toInt - (Int32.ofInt 0).toInt).toNat + 1) S ((hq_29_49 i1 i2 i3 i4 ((i2.toInt - (Int32.ofInt 0).toInt).toNat + 1) S ((Int64.ofInt 1)) ((Int32.ofInt 0)))) ((Int64.ofInt 0)) ((Int32.ofInt 0))  _ (Nat.lt_succ_self _) rfl (fun x9_74 => ?_)
          show hp_T _ 29 102 [some (.ref 0), some (.int i1), some (.int i2), some (.int i3), some (.int i4), some (.long (hq_29_49 i1 i2 i3 i4 ((i2.toInt - (Int32.ofInt 0).toInt).toNat + 1) S ((Int64.ofInt 1)) ((Int32.ofInt 0)))), none, some (.long (hq_29_74 i1 i2 i3 i4 ((((Int32.ofInt 1) <<< (i2 &&& 31)).toInt - (Int32.ofInt 0).toInt).toNat + 1) S ((hq_29_49 i1 i2 i3 i4 ((i2.toInt - (Int32.ofInt 0).toInt).toNat + 1) S ((Int64.ofInt 1)) ((Int32.ofInt 0)))) ((Int64.ofInt 0)) ((Int32.ofInt 0))).2), none, x9_74] _ (hp_mem X ((hq_29_74 i1 i2 i3 i4 ((((Int32.ofInt 1) <<< (i2 &&& 31)).toInt - (Int32.ofInt 0).toInt).toNat + 1) S ((hq_29_49 i1 i2 i3 i4 ((i2.toInt - (Int32.ofInt 0).toInt).toNat + 1) S ((Int64.ofInt 1)) ((Int32.ofInt 0)))) ((Int64.ofInt 0)) ((Int32.ofInt 0))).1)) _ _
          refine hp_sN [104, 106, 108] (pc' := 108) (L' := [some (.ref 0), some (.int i1), some (.int i2), some (.int i3), some (.int i4), some (.long (hq_29_49 i1 i2 i3 i4 ((i2.toInt - (Int32.ofInt 0).toInt).toNat + 1) S ((Int64.ofInt 1)) ((Int32.ofInt 0)))), none, some (.long (hq_29_74 i1 i2 i3 i4 ((((Int32.ofInt 1) <<< (i2 &&& 31)).toInt - (Int32.ofInt 0).toInt).toNat + 1) S ((hq_29_49 i1 i2 i3 i4 ((i2.toInt - (Int32.ofInt 0).toInt).toNat + 1) S ((Int64.ofInt 1)) ((Int32.ofInt 0)))) ((Int64.ofInt 0)) ((Int32.ofInt 0))).2), none, x9_74]) (st' := [.int i4, .long (hq_29_49 i1 i2 i3 i4 ((i2.toInt - (Int32.ofInt 0).toInt).toNat + 1) S ((Int64.ofInt 1)) ((Int32.ofInt 0))), .long (hq_29_74 i1 i2 i3 i4 ((((Int32.ofInt 1) <<< (i2 &&& 31)).toInt - (Int32.ofInt 0).toInt).toNat + 1) S ((hq_29_49 i1 i2 i3 i4 ((i2.toInt - (Int32.ofInt 0).toInt).toNat + 1) S ((Int64.ofInt 1)) ((Int32.ofInt 0)))) ((Int64.ofInt 0)) ((Int32.ofInt 0))).2]) rfl rfl ?_
          refine hp_iv (virt := false) (pc' := 111) (rv := some (.long (hq_66 ((hq_29_74 i1 i2 i3 i4 ((((Int32.ofInt 1) <<< (i2 &&& 31)).toInt - (Int32.ofInt 0).toInt).toNat + 1) S ((hq_29_49 i1 i2 i3 i4 ((i2.toInt - (Int32.ofInt 0).toInt).toNat + 1) S ((Int64.ofInt 1)) ((Int32.ofInt 0)))) ((Int64.ofInt 0)) ((Int32.ofInt 0))).1) (hq_29_74 i1 i2 i3 i4 ((((Int32.ofInt 1) <<< (i2 &&& 31)).toInt - (Int32.ofInt 0).toInt).toNat + 1) S ((hq_29_49 i1 i2 i3 i4 ((i2.toInt - (Int32.ofInt 0).toInt).toNat + 1) S ((Int64.ofInt 1)) ((Int32.ofInt 0)))) ((Int64.ofInt 0)) ((Int32.ofInt 0))).2 (hq_29_49 i1 i2 i3 i4 ((i2.toInt - (Int32.ofInt 0).toInt).toNat + 1) S ((Int64.ofInt 1)) ((Int32.ofInt 0))) i4))) (M1 := hp_mem X ((hq_29_74 i1 i2 i3 i4 ((((Int32.ofInt 1) <<< (i2 &&& 31)).toInt - (Int32.ofInt 0).toInt).toNat + 1) S ((hq_29_49 i1 i2 i3 i4 ((i2.toInt - (Int32.ofInt 0).toInt).toNat + 1) S ((Int64.ofInt 1)) ((Int32.ofInt 0)))) ((Int64.ofInt 0)) ((Int32.ofInt 0))).1)) rfl rfl (by decide) (hk_66 ((hq_29_74 i1 i2 i3 i4 ((((Int32.ofInt 1) <<< (i2 &&& 31)).toInt - (Int32.ofInt 0).toInt).toNat + 1) S ((hq_29_49 i1 i2 i3 i4 ((i2.toInt - (Int32.ofInt 0).toInt).toNat + 1) S ((Int64.ofInt 1)) ((Int32.ofInt 0)))) ((Int64.ofInt 0)) ((Int32.ofInt 0))).1) ((hq_29_74 i1 i2 i3 i4 ((((Int32.ofInt 1) <<< (i2 &&& 31)).toInt - (Int32.ofInt 0).toInt).toNat + 1) S ((hq_29_49 i1 i2 i3 i4 ((i2.toInt - (Int32.ofInt 0).toInt).toNat + 1) S ((Int64.ofInt 1)) ((Int32.ofInt 0)))) ((Int64.ofInt 0)) ((Int32.ofInt 0))).2) ((hq_29_49 i1 i2 i3 i4 ((i2.toInt - (Int32.ofInt 0).toInt).toNat + 1) S ((Int64.ofInt 1)) ((Int32.ofInt 0)))) (i4)) rfl rfl ?_
          show hp_T _ 29 111 _ [.long (hq_66 ((hq_29_74 i1 i2 i3 i4 ((((Int32.ofInt 1) <<< (i2 &&& 31)).toInt - (Int32.ofInt 0).toInt).toNat + 1) S ((hq_29_49 i1 i2 i3 i4 ((i2.toInt - (Int32.ofInt 0).toInt).toNat + 1) S ((Int64.ofInt 1)) ((Int32.ofInt 0)))) ((Int64.ofInt 0)) ((Int32.ofInt 0))).1) (hq_29_74 i1 i2 i3 i4 ((((Int32.ofInt 1) <<< (i2 &&& 31)).toInt - (Int32.ofInt 0).toInt).toNat + 1) S ((hq_29_49 i1 i2 i3 i4 ((i2.toInt - (Int32.ofInt 0).toInt).toNat + 1) S ((Int64.ofInt 1)) ((Int32.ofInt 0)))) ((Int64.ofInt 0)) ((Int32.ofInt 0))).2 (hq_29_49 i1 i2 i3 i4 ((i2.toInt - (Int32.ofInt 0).toInt).toNat + 1) S ((Int64.ofInt 1)) ((Int32.ofInt 0))) i4)] _ _ _
          exact hp_Rls rfl
        · refine hp_sN [42] (pc' := 42) (L' := [some (.ref 0), some (.int i1), some (.int i2), some (.int i3), some (.int i4), none, none, none, none, none]) (st' := [.long (Int64.ofInt 1000000001)]) rfl rfl ?_
          exact hp_Rls rfl
theorem hk_29 {X : hp_X} (S : hp_S) (i1 : Int32) (i2 : Int32) (i3 : Int32) (i4 : Int32) : hp_K 29 [.ref 0, .int i1, .int i2, .int i3, .int i4] (hp_mem X S) (hp_ls X) (hq_29 S i1 i2 i3 i4) := by
  refine hp_mk (q := hzq_29) rfl (by decide) (L := [some (.ref 0), some (.int i1), some (.int i2), some (.int i3), some (.int i4), none, none, none, none, none]) rfl (fun n => ?_)
  exact ht_29 S i1 i2 i3 i4 n
/-! 30: HatsOfTheWind.mean(I)J -/
def hq_30_16 (i1 : Int32) : Nat → hp_S → Int64 → Int32 → Int64
  | 0, S, _, _ => 0
  | m + 1, S, v2, v4 => (if hz_cmp .ge v4 (Int32.ofInt 24) = true then v2 else hq_30_16 i1 m S (v2 + (S (1 + 1) v4.toNatClampNeg).toInt64) (v4 + (Int32.ofInt 1)))
def hq_30 (S : hp_S) (i1 : Int32) : Int64 := (if hz_cmp .ne (hq_45 S i1) 0 = true then (hq_66 S (hq_30_16 i1 (((Int32.ofInt 24).toInt - (Int32.ofInt 0).toInt).toNat + 1) S ((Int64.ofInt 0)) ((Int32.ofInt 0))) (Int64.ofInt 24) i1) else (Int64.ofInt 1000000001))
set_option maxRecDepth 10000 in
theorem ht_30_16 {α : Type} {φ : α → Option Value × hzMem} {R : α} {X : hp_X} (N : Nat) (i1 : Int32) (S : hp_S) : ∀ (n : Nat), n ≤ N → ∀ (m : Nat) (v2 : Int64) (v4 : Int32) (Z : Int64), ((Int32.ofInt 24).toInt - v4.toInt).toNat < m → hq_30_16 i1 m S v2 v4 = Z → (∀ (x4 : Option Value), hp_T N 30 43 [some (.ref 0), some (.int i1), some (.long Z), none, x4] [] (hp_mem X S) φ R) → hp_T n 30 16 [some (.ref 0), some (.int i1), some (.long v2), none, some (.int v4)] [] (hp_mem X S) φ R := by
  intro n
  induction n with
  | zero => intros; exact hp_0
  | succ n ih =>
    intro hN m v2 v4 Z hm hZ kk
    cases m with
    | zero => exact absurd hm (Nat.not_lt_zero _)
    | succ m =>
      rw [hq_30_16] at hZ
      refine hp_sN [18, 20] (pc' := 20) (L' := [some (.ref 0), some (.int i1), some (.long v2), none, some (.int v4)]) (st' := [.int (Int32.ofInt 24), .int v4]) rfl rfl ?_
      refine hp_ic2 (pc' := 23) rfl rfl (fun h1 => ?_) (fun h1 => ?_)
      · rw [if_pos h1] at hZ
        subst hZ
        exact hp_le hN (kk (some (.int v4)))
      · rw [if_neg (hp_nt h1)] at hZ
        refine hp_sN [24, 25] (pc' := 25) (L' := [some (.ref 0), some (.int i1), some (.long v2), none, some (.int v4)]) (st' := [.ref 0, .long v2]) rfl rfl ?_
        refine hp_gf (pc' := 28) rfl (by decide) (hp_c0 X _) rfl rfl ?_
        refine hp_gf (pc' := 31) rfl (hp_bl (Or.inl rfl) 0 (by decide)) (hp_b0 (Or.inl rfl) X _) rfl rfl ?_
        refine hp_sN [33] (pc' := 33) (L' := [some (.ref 0), some (.int i1), some (.long v2), none, some (.int v4)]) (st' := [.int v4, .ref (1 + 1), .long v2]) rfl rfl ?_
        refine hp_al (pc' := 34) rfl (hp_bl (Or.inl rfl) 1 (by decide)) (hp_b1 (Or.inl rfl) X _) rfl ?_
        refine hp_sB 35 [36, 37, 40, 16] (pc' := 16) (L' := [some (.ref 0), some (.int i1), some (.long (v2 + (S (1 + 1) v4.toNatClampNeg).toInt64)), none, some (.int (v4 + (Int32.ofInt 1)))]) (st' := []) rfl rfl ?_
        exact ih (Nat.le_trans (Nat.le_succ n) hN) m ((v2 + (S (1 + 1) v4.toNatClampNeg).toInt64)) ((v4 + (Int32.ofInt 1))) Z (hp_up h1 hm) hZ kk
set_option maxRecDepth 10000 in
theorem ht_30 {X : hp_X} (S : hp_S) (i1 : Int32) (n : Nat) : hp_T n 30 0 [some (.ref 0), some (.int i1), none, none, none] [] (hp_mem X S) (hp_l X S) (hq_30 S i1) := by
  unfold hq_30
  refine hp_sN [1] (pc' := 1) (L' := [some (.ref 0), some (.int i1), none, none, none]) (st' := [.int i1]) rfl rfl ?_
  refine hp_iv (virt := false) (pc' := 4) (rv := some (.int (hq_45 S i1))) (M1 := hp_mem X (S)) rfl rfl (by decide) (hk_45 S (i1)) rfl rfl ?_
  show hp_T _ 30 4 _ [.int (hq_45 S i1)] _ _ _
  refine hp_if (pc' := 7) rfl rfl (fun h1 => ?_) (fun h1 => ?_)
  · refine hp_sN [12, 13, 14, 16] (pc' := 16) (L' := [some (.ref 0), some (.int i1), some (.long (Int64.ofInt 0)), none, some (.int (Int32.ofInt 0))]) (st' := []) rfl rfl ?_
    refine ht_30_16 n i1 S n (Nat.le_refl _) (((Int32.ofInt 24).toInt - (Int32.ofInt 0).toInt).toNat + 1)  ((Int64.ofInt 0)) ((Int32.ofInt 0))  _ (Nat.lt_succ_self _) rfl (fun x4_16 => ?_)
    show hp_T _ 30 43 [some (.ref 0), some (.int i1), some (.long (hq_30_16 i1 (((Int32.ofInt 24).toInt - (Int32.ofInt 0).toInt).toNat + 1) S ((Int64.ofInt 0)) ((Int32.ofInt 0)))), none, x4_16] _ (hp_mem X S) _ _
    refine hp_sN [44, 47, 48] (pc' := 48) (L' := [some (.ref 0), some (.int i1), some (.long (hq_30_16 i1 (((Int32.ofInt 24).toInt - (Int32.ofInt 0).toInt).toNat + 1) S ((Int64.ofInt 0)) ((Int32.ofInt 0)))), none, x4_16]) (st' := [.int i1, .long (Int64.ofInt 24), .long (hq_30_16 i1 (((Int32.ofInt 24).toInt - (Int32.ofInt 0).toInt).toNat + 1) S ((Int64.ofInt 0)) ((Int32.ofInt 0)))]) rfl rfl ?_
    refine hp_iv (virt := false) (pc' := 51) (rv := some (.long (hq_66 S (hq_30_16 i1 (((Int32.ofInt 24).toInt - (Int32.ofInt 0).toInt).toNat + 1) S ((Int64.ofInt 0)) ((Int32.ofInt 0))) (Int64.ofInt 24) i1))) (M1 := hp_mem X (S)) rfl rfl (by decide) (hk_66 S ((hq_30_16 i1 (((Int32.ofInt 24).toInt - (Int32.ofInt 0).toInt).toNat + 1) S ((Int64.ofInt 0)) ((Int32.ofInt 0)))) ((Int64.ofInt 24)) (i1)) rfl rfl ?_
    show hp_T _ 30 51 _ [.long (hq_66 S (hq_30_16 i1 (((Int32.ofInt 24).toInt - (Int32.ofInt 0).toInt).toNat + 1) S ((Int64.ofInt 0)) ((Int32.ofInt 0))) (Int64.ofInt 24) i1)] _ _ _
    exact hp_Rl rfl
  · refine hp_sN [10] (pc' := 10) (L' := [some (.ref 0), some (.int i1), none, none, none]) (st' := [.long (Int64.ofInt 1000000001)]) rfl rfl ?_
    exact hp_Rl rfl
theorem hk_30 {X : hp_X} (S : hp_S) (i1 : Int32) : hp_K 30 [.ref 0, .int i1] (hp_mem X S) (hp_l X S) (hq_30 S i1) := by
  refine hp_mk (q := hzq_30) rfl (by decide) (L := [some (.ref 0), some (.int i1), none, none, none]) rfl (fun n => ?_)
  exact ht_30 S i1 n
/-! 178: HatsOfTheWind$Shelf.isAllWithin(II)Z -/
def hq_178_2 (e : Nat) (i1 : Int32) (i2 : Int32) : Nat → hp_S → Int32 → Int32
  | 0, S, _ => 0
  | m + 1, S, v3 => (if hz_cmp .ge v3 (S (29 + 2 * e) 4) = true then (Int32.ofInt 1) else (if hz_cmp .ne (hq_44 S (S (30 + 2 * e) v3.toNatClampNeg) i1 i2) 0 = true then hq_178_2 e i1 i2 m S (v3 + (Int32.ofInt 1)) else (Int32.ofInt 0)))
def hq_178 (S : hp_S) (e : Nat) (i1 : Int32) (i2 : Int32) : Int32 := (hq_178_2 e i1 i2 (((S (29 + 2 * e) 4).toInt - (Int32.ofInt 0).toInt).toNat + 1) S ((Int32.ofInt 0)))
set_option maxRecDepth 10000 in
theorem ht_178_2 {X : hp_X} {e : Nat} (he : e < 8) (i1 : Int32) (i2 : Int32) (S : hp_S) : ∀ (n m : Nat) (v3 : Int32), ((S (29 + 2 * e) 4).toInt - v3.toInt).toNat < m → hp_T n 178 2 [some (.ref (29 + 2 * e)), some (.int i1), some (.int i2), some (.int v3)] [] (hp_mem X S) (hp_i X S) (hq_178_2 e i1 i2 m S v3) := by
  intro n
  induction n with
  | zero => intros; exact hp_0
  | succ n ih =>
    intro m v3 hm
    cases m with
    | zero => exact absurd hm (Nat.not_lt_zero _)
    | succ m =>
      rw [hq_178_2]
      refine hp_sN [3, 4] (pc' := 4) (L' := [some (.ref (29 + 2 * e)), some (.int i1), some (.int i2), some (.int v3)]) (st' := [.ref (29 + 2 * e), .int v3]) rfl rfl ?_
      refine hp_gf (pc' := 7) rfl (hp_sl0 he) (hp_s0 he X _) rfl rfl ?_
      refine hp_ic (pc' := 10) rfl rfl (fun h1 => ?_) (fun h1 => ?_)
      · refine hp_sN [33] (pc' := 33) (L' := [some (.ref (29 + 2 * e)), some (.int i1), some (.int i2), some (.int v3)]) (st' := [.int (Int32.ofInt 1)]) rfl rfl ?_
        exact hp_Ri rfl
      · refine hp_sN [11] (pc' := 11) (L' := [some (.ref (29 + 2 * e)), some (.int i1), some (.int i2), some (.int v3)]) (st' := [.ref (29 + 2 * e)]) rfl rfl ?_
        refine hp_gf (pc' := 14) rfl (hp_sl0 he) (hp_s0 he X _) rfl rfl ?_
        refine hp_sN [15] (pc' := 15) (L' := [some (.ref (29 + 2 * e)), some (.int i1), some (.int i2), some (.int v3)]) (st' := [.int v3, .ref (30 + 2 * e)]) rfl rfl ?_
        refine hp_al (pc' := 16) rfl (hp_sl1 he) (hp_s1 he X _) rfl ?_
        refine hp_sN [17, 18] (pc' := 18) (L' := [some (.ref (29 + 2 * e)), some (.int i1), some (.int i2), some (.int v3)]) (st' := [.int i2, .int i1, .int (S (30 + 2 * e) v3.toNatClampNeg)]) rfl rfl ?_
        refine hp_iv (virt := false) (pc' := 21) (rv := some (.int (hq_44 S (S (30 + 2 * e) v3.toNatClampNeg) i1 i2))) (M1 := hp_mem X (S)) rfl rfl (by decide) (hk_44 S ((S (30 + 2 * e) v3.toNatClampNeg)) (i1) (i2)) rfl rfl ?_
        show hp_T _ 178 21 _ [.int (hq_44 S (S (30 + 2 * e) v3.toNatClampNeg) i1 i2)] _ _ _
        refine hp_if (pc' := 24) rfl rfl (fun h2 => ?_) (fun h2 => ?_)
        · refine hp_sB 29 [2] (pc' := 2) (L' := [some (.ref (29 + 2 * e)), some (.int i1), some (.int i2), some (.int (v3 + (Int32.ofInt 1)))]) (st' := []) rfl rfl ?_
          exact ih m ((v3 + (Int32.ofInt 1))) (hp_up h1 hm)
        · refine hp_sN [25] (pc' := 25) (L' := [some (.ref (29 + 2 * e)), some (.int i1), some (.int i2), some (.int v3)]) (st' := [.int (Int32.ofInt 0)]) rfl rfl ?_
          exact hp_Ri rfl
set_option maxRecDepth 10000 in
theorem ht_178 {X : hp_X} {e : Nat} (he : e < 8) (S : hp_S) (i1 : Int32) (i2 : Int32) (n : Nat) : hp_T n 178 0 [some (.ref (29 + 2 * e)), some (.int i1), some (.int i2), none] [] (hp_mem X S) (hp_i X S) (hq_178 S e i1 i2) := by
  unfold hq_178
  refine hp_sN [1, 2] (pc' := 2) (L' := [some (.ref (29 + 2 * e)), some (.int i1), some (.int i2), some (.int (Int32.ofInt 0))]) (st' := []) rfl rfl ?_
  exact ht_178_2 he i1 i2 S n (((S (29 + 2 * e) 4).toInt - (Int32.ofInt 0).toInt).toNat + 1)  ((Int32.ofInt 0))  (Nat.lt_succ_self _)
theorem hk_178 {X : hp_X} {e : Nat} (he : e < 8) (S : hp_S) (i1 : Int32) (i2 : Int32) : hp_K 178 [.ref (29 + 2 * e), .int i1, .int i2] (hp_mem X S) (hp_i X S) (hq_178 S e i1 i2) := by
  refine hp_mk (q := hzq_178) rfl (by decide) (L := [some (.ref (29 + 2 * e)), some (.int i1), some (.int i2), none]) rfl (fun n => ?_)
  exact ht_178 he S i1 i2 n
/-! 179: HatsOfTheWind$Shelf.nearestTo(I)I -/
def hq_179_4 (e : Nat) (i1 : Int32) : Nat → hp_S → Int32 → Int32 → Int32
  | 0, S, _, _ => 0
  | m + 1, S, v2, v3 => (if hz_cmp .ge v3 (S (29 + 2 * e) 4) = true then v2 else (if hz_cmp .ge (hq_218 S ((S (30 + 2 * e) v3.toNatClampNeg) - i1)) (hq_218 S ((S (30 + 2 * e) v2.toNatClampNeg) - i1)) = true then hq_179_4 e i1 m S v2 (v3 + (Int32.ofInt 1)) else hq_179_4 e i1 m S v3 (v3 + (Int32.ofInt 1))))
def hq_179 (S : hp_S) (e : Nat) (i1 : Int32) : Int32 := (hq_179_4 e i1 (((S (29 + 2 * e) 4).toInt - (Int32.ofInt 1).toInt).toNat + 1) S ((Int32.ofInt 0)) ((Int32.ofInt 1)))
set_option maxRecDepth 10000 in
theorem ht_179_4 {α : Type} {φ : α → Option Value × hzMem} {R : α} {X : hp_X} (N : Nat) {e : Nat} (he : e < 8) (i1 : Int32) (S : hp_S) : ∀ (n : Nat), n ≤ N → ∀ (m : Nat) (v2 : Int32) (v3 : Int32) (Z : Int32), ((S (29 + 2 * e) 4).toInt - v3.toInt).toNat < m → hq_179_4 e i1 m S v2 v3 = Z → (∀ (x3 : Option Value), hp_T N 179 45 [some (.ref (29 + 2 * e)), some (.int i1), some (.int Z), x3] [] (hp_mem X S) φ R) → hp_T n 179 4 [some (.ref (29 + 2 * e)), some (.int i1), some (.int v2), some (.int v3)] [] (hp_mem X S) φ R := by
  intro n
  induction n with
  | zero => intros; exact hp_0
  | succ n ih =>
    intro hN m v2 v3 Z hm hZ kk
    cases m with
    | zero => exact absurd hm (Nat.not_lt_zero _)
    | succ m =>
      rw [hq_179_4] at hZ
      refine hp_sN [5, 6] (pc' := 6) (L' := [some (.ref (29 + 2 * e)), some (.int i1), some (.int v2), some (.int v3)]) (st' := [.ref (29 + 2 * e), .int v3]) rfl rfl ?_
      refine hp_gf (pc' := 9) rfl (hp_sl0 he) (hp_s0 he X _) rfl rfl ?_
      refine hp_ic2 (pc' := 12) rfl rfl (fun h1 => ?_) (fun h1 => ?_)
      · rw [if_pos h1] at hZ
        subst hZ
        exact hp_le hN (kk (some (.int v3)))
      · rw [if_neg (hp_nt h1)] at hZ
        refine hp_sN [13] (pc' := 13) (L' := [some (.ref (29 + 2 * e)), some (.int i1), some (.int v2), some (.int v3)]) (st' := [.ref (29 + 2 * e)]) rfl rfl ?_
        refine hp_gf (pc' := 16) rfl (hp_sl0 he) (hp_s0 he X _) rfl rfl ?_
        refine hp_sN [17] (pc' := 17) (L' := [some (.ref (29 + 2 * e)), some (.int i1), some (.int v2), some (.int v3)]) (st' := [.int v3, .ref (30 + 2 * e)]) rfl rfl ?_
        refine hp_al (pc' := 18) rfl (hp_sl1 he) (hp_s1 he X _) rfl ?_
        refine hp_sN [19, 20] (pc' := 20) (L' := [some (.ref (29 + 2 * e)), some (.int i1), some (.int v2), some (.int v3)]) (st' := [.int ((S (30 + 2 * e) v3.toNatClampNeg) - i1)]) rfl rfl ?_
        refine hp_iv (virt := false) (pc' := 23) (rv := some (.int (hq_218 S ((S (30 + 2 * e) v3.toNatClampNeg) - i1)))) (M1 := hp_mem X (S)) rfl rfl (by decide) (hk_218 S (((S (30 + 2 * e) v3.toNatClampNeg) - i1))) rfl rfl ?_
        show hp_T _ 179 23 _ [.int (hq_218 S ((S (30 + 2 * e) v3.toNatClampNeg) - i1))] _ _ _
        refine hp_sN [24] (pc' := 24) (L' := [some (.ref (29 + 2 * e)), some (.int i1), some (.int v2), some (.int v3)]) (st' := [.ref (29 + 2 * e), .int (hq_218 S ((S (30 + 2 * e) v3.toNatClampNeg) - i1))]) rfl rfl ?_
        refine hp_gf (pc' := 27) rfl (hp_sl0 he) (hp_s0 he X _) rfl rfl ?_
        refine hp_sN [28] (pc' := 28) (L' := [some (.ref (29 + 2 * e)), some (.int i1), some (.int v2), some (.int v3)]) (st' := [.int v2, .ref (30 + 2 * e), .int (hq_218 S ((S (30 + 2 * e) v3.toNatClampNeg) - i1))]) rfl rfl ?_
        refine hp_al (pc' := 29) rfl (hp_sl1 he) (hp_s1 he X _) rfl ?_
        refine hp_sN [30, 31] (pc' := 31) (L' := [some (.ref (29 + 2 * e)), some (.int i1), some (.int v2), some (.int v3)]) (st' := [.int ((S (30 + 2 * e) v2.toNatClampNeg) - i1), .int (hq_218 S ((S (30 + 2 * e) v3.toNatClampNeg) - i1))]) rfl rfl ?_
        refine hp_iv (virt := false) (pc' := 34) (rv := some (.int (hq_218 S ((S (30 + 2 * e) v2.toNatClampNeg) - i1)))) (M1 := hp_mem X (S)) rfl rfl (by decide) (hk_218 S (((S (30 + 2 * e) v2.toNatClampNeg) - i1))) rfl rfl ?_
        show hp_T _ 179 34 _ [.int (hq_218 S ((S (30 + 2 * e) v2.toNatClampNeg) - i1)), .int (hq_218 S ((S (30 + 2 * e) v3.toNatClampNeg) - i1))] _ _ _
        refine hp_ic2 (pc' := 37) rfl rfl (fun h2 => ?_) (fun h2 => ?_)
        · rw [if_pos h2] at hZ
          refine hp_sB 42 [4] (pc' := 4) (L' := [some (.ref (29 + 2 * e)), some (.int i1), some (.int v2), some (.int (v3 + (Int32.ofInt 1)))]) (st' := []) rfl rfl ?_
          exact ih (Nat.le_trans (Nat.le_succ n) hN) m (v2) ((v3 + (Int32.ofInt 1))) Z (hp_up h1 hm) hZ kk
        · rw [if_neg (hp_nt h2)] at hZ
          refine hp_sB 38 [39, 42, 4] (pc' := 4) (L' := [some (.ref (29 + 2 * e)), some (.int i1), some (.int v3), some (.int (v3 + (Int32.ofInt 1)))]) (st' := []) rfl rfl ?_
          exact ih (Nat.le_trans (Nat.le_succ n) hN) m (v3) ((v3 + (Int32.ofInt 1))) Z (hp_up h1 hm) hZ kk
set_option maxRecDepth 10000 in
theorem ht_179 {X : hp_X} {e : Nat} (he : e < 8) (S : hp_S) (i1 : Int32) (n : Nat) : hp_T n 179 0 [some (.ref (29 + 2 * e)), some (.int i1), none, none] [] (hp_mem X S) (hp_i X S) (hq_179 S e i1) := by
  unfold hq_179
  refine hp_sN [1, 2, 3, 4] (pc' := 4) (L' := [some (.ref (29 + 2 * e)), some (.int i1), some (.int (Int32.ofInt 0)), some (.int (Int32.ofInt 1))]) (st' := []) rfl rfl ?_
  refine ht_179_4 n he i1 S n (Nat.le_refl _) (((S (29 + 2 * e) 4).toInt - (Int32.ofInt 1).toInt).toNat + 1)  ((Int32.ofInt 0)) ((Int32.ofInt 1))  _ (Nat.lt_succ_self _) rfl (fun x3_4 => ?_)
  show hp_T _ 179 45 [some (.ref (29 + 2 * e)), some (.int i1), some (.int (hq_179_4 e i1 (((S (29 + 2 * e) 4).toInt - (Int32.ofInt 1).toInt).toNat + 1) S ((Int32.ofInt 0)) ((Int32.ofInt 1)))), x3_4] _ (hp_mem X S) _ _
  refine hp_sN [46] (pc' := 46) (L' := [some (.ref (29 + 2 * e)), some (.int i1), some (.int (hq_179_4 e i1 (((S (29 + 2 * e) 4).toInt - (Int32.ofInt 1).toInt).toNat + 1) S ((Int32.ofInt 0)) ((Int32.ofInt 1)))), x3_4]) (st' := [.int (hq_179_4 e i1 (((S (29 + 2 * e) 4).toInt - (Int32.ofInt 1).toInt).toNat + 1) S ((Int32.ofInt 0)) ((Int32.ofInt 1)))]) rfl rfl ?_
  exact hp_Ri rfl
theorem hk_179 {X : hp_X} {e : Nat} (he : e < 8) (S : hp_S) (i1 : Int32) : hp_K 179 [.ref (29 + 2 * e), .int i1] (hp_mem X S) (hp_i X S) (hq_179 S e i1) := by
  refine hp_mk (q := hzq_179) rfl (by decide) (L := [some (.ref (29 + 2 * e)), some (.int i1), none, none]) rfl (fun n => ?_)
  exact ht_179 he S i1 n

