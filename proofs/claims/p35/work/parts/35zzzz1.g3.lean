/-! 31: HatsOfTheWind.wager(II)I -/
def hq_31 (S : hp_S) (i1 : Int32) (i2 : Int32) : Int32 × hp_S := (if hz_cmp .ne (hq_182 S 1 i2) 0 = true then (if hz_cmp .eq (hq_52 S i1) 0 = true then (if hz_cmp .ne (hq_183 S 1 i2) 0 = true then (if hz_cmp .eq (S (29 + 2 * i1.toNatClampNeg) 4) 0 = true then ((Int32.ofInt (-13)), S) else (if hz_cmp .ne (hq_178 S i1.toNatClampNeg (Int32.ofInt 1) (Int32.ofInt 99)) 0 = true then (if hz_cmp .ne (hq_56 (hq_55 S (Int32.ofInt 0)) i2 (Int32.ofInt 99)).1 (Int32.ofInt (-4)) = true then ((hq_179 ((hq_56 (hq_55 S (Int32.ofInt 0)) i2 (Int32.ofInt 99)).2) i1.toNatClampNeg (hq_56 (hq_55 S (Int32.ofInt 0)) i2 (Int32.ofInt 99)).1), (hq_56 (hq_55 S (Int32.ofInt 0)) i2 (Int32.ofInt 99)).2) else ((Int32.ofInt (-4)), (hq_56 (hq_55 S (Int32.ofInt 0)) i2 (Int32.ofInt 99)).2)) else ((Int32.ofInt (-13)), S))) else ((Int32.ofInt (-3)), S)) else ((hq_52 S i1), S)) else ((Int32.ofInt (-1)), S))
theorem hf_31 (S : hp_S) (i1 : Int32) (i2 : Int32) (j : Nat) (z0 : j ≠ (10 + 1)) (z1 : j ≠ 10) (z2 : j ≠ (10 + 2)) (z3 : j ≠ (10 + 3)) (z4 : j ≠ (10 + 4)) (z5 : j ≠ (10 + 5)) (z6 : j ≠ (10 + 6)) (z7 : j ≠ (10 + 7)) (z8 : j ≠ (10 + 8)) : (hq_31 S i1 i2).2 j = S j := by
  unfold hq_31
  repeat' split
  all_goals simp [hp_wo, hp_wgo, hp_cpo, hf_55, hf_56, z0, z1, z2, z3, z4, z5, z6, z7, z8]
set_option maxRecDepth 10000 in
theorem ht_31 {X : hp_X} (S : hp_S) (i1 : Int32) (i2 : Int32) (n : Nat) : hp_T n 31 0 [some (.ref 0), some (.int i1), some (.int i2), none, none, none] [] (hp_mem X S) (hp_is X) (hq_31 S i1 i2) := by
  unfold hq_31
  refine hp_sN [1] (pc' := 1) (L' := [some (.ref 0), some (.int i1), some (.int i2), none, none, none]) (st' := [.ref 0]) rfl rfl ?_
  refine hp_gf (pc' := 4) rfl (by decide) (hp_c0 X _) rfl rfl ?_
  refine hp_sN [5] (pc' := 5) (L' := [some (.ref 0), some (.int i1), some (.int i2), none, none, none]) (st' := [.int i2, .ref 1]) rfl rfl ?_
  refine hp_iv (virt := true) (pc' := 8) (rv := some (.int (hq_182 S 1 i2))) (M1 := hp_mem X (S)) rfl rfl (by decide) (hk_182 (Or.inl rfl) S (i2)) rfl rfl ?_
  show hp_T _ 31 8 _ [.int (hq_182 S 1 i2)] _ _ _
  refine hp_if (pc' := 11) rfl rfl (fun h1 => ?_) (fun h1 => ?_)
  · refine hp_sN [14, 15] (pc' := 15) (L' := [some (.ref 0), some (.int i1), some (.int i2), none, none, none]) (st' := [.int i1, .ref 0]) rfl rfl ?_
    refine hp_iv (virt := true) (pc' := 18) (rv := some (.int (hq_52 S i1))) (M1 := hp_mem X (S)) rfl rfl (by decide) (hk_52 S (i1)) rfl rfl ?_
    show hp_T _ 31 18 _ [.int (hq_52 S i1)] _ _ _
    refine hp_sN [19, 20] (pc' := 20) (L' := [some (.ref 0), some (.int i1), some (.int i2), some (.int (hq_52 S i1)), none, none]) (st' := [.int (hq_52 S i1)]) rfl rfl ?_
    refine hp_if (pc' := 23) rfl rfl (fun h2 => ?_) (fun h2 => ?_)
    · refine hp_sN [26] (pc' := 26) (L' := [some (.ref 0), some (.int i1), some (.int i2), some (.int (hq_52 S i1)), none, none]) (st' := [.ref 0]) rfl rfl ?_
      refine hp_gf (pc' := 29) rfl (by decide) (hp_c0 X _) rfl rfl ?_
      refine hp_sN [30] (pc' := 30) (L' := [some (.ref 0), some (.int i1), some (.int i2), some (.int (hq_52 S i1)), none, none]) (st' := [.int i2, .ref 1]) rfl rfl ?_
      refine hp_iv (virt := true) (pc' := 33) (rv := some (.int (hq_183 S 1 i2))) (M1 := hp_mem X (S)) rfl rfl (by decide) (hk_183 (Or.inl rfl) S (i2)) rfl rfl ?_
      show hp_T _ 31 33 _ [.int (hq_183 S 1 i2)] _ _ _
      refine hp_if (pc' := 36) rfl rfl (fun h3 => ?_) (fun h3 => ?_)
      · refine hp_sN [40] (pc' := 40) (L' := [some (.ref 0), some (.int i1), some (.int i2), some (.int (hq_52 S i1)), none, none]) (st' := [.ref 0]) rfl rfl ?_
        refine hp_gf (pc' := 43) rfl (by decide) (hp_c0 X _) rfl rfl ?_
        refine hp_sN [44] (pc' := 44) (L' := [some (.ref 0), some (.int i1), some (.int i2), some (.int (hq_52 S i1)), none, none]) (st' := [.int i1, .ref 28]) rfl rfl ?_
        refine hp_aa (pc' := 45) rfl rfl (fun h4 => ?_)
        refine hp_sN [47, 49] (pc' := 49) (L' := [some (.ref 0), some (.int i1), some (.int i2), some (.int (hq_52 S i1)), some (.ref (29 + 2 * i1.toNatClampNeg)), none]) (st' := [.ref (29 + 2 * i1.toNatClampNeg)]) rfl rfl ?_
        refine hp_gf (pc' := 52) rfl (hp_sl0 h4) (hp_s0 h4 X _) rfl rfl ?_
        refine hp_if (pc' := 55) rfl rfl (fun h5 => ?_) (fun h5 => ?_)
        · refine hp_sN [68] (pc' := 68) (L' := [some (.ref 0), some (.int i1), some (.int i2), some (.int (hq_52 S i1)), some (.ref (29 + 2 * i1.toNatClampNeg)), none]) (st' := [.int (Int32.ofInt (-13))]) rfl rfl ?_
          exact hp_Ris rfl
        · refine hp_sN [57, 58, 60] (pc' := 60) (L' := [some (.ref 0), some (.int i1), some (.int i2), some (.int (hq_52 S i1)), some (.ref (29 + 2 * i1.toNatClampNeg)), none]) (st' := [.int (Int32.ofInt 99), .int (Int32.ofInt 1), .ref (29 + 2 * i1.toNatClampNeg)]) rfl rfl ?_
          refine hp_iv (virt := true) (pc' := 63) (rv := some (.int (hq_178 S i1.toNatClampNeg (Int32.ofInt 1) (Int32.ofInt 99)))) (M1 := hp_mem X (S)) rfl rfl (by decide) (hk_178 h4 S ((Int32.ofInt 1)) ((Int32.ofInt 99))) rfl rfl ?_
          show hp_T _ 31 63 _ [.int (hq_178 S i1.toNatClampNeg (Int32.ofInt 1) (Int32.ofInt 99))] _ _ _
          refine hp_if (pc' := 66) rfl rfl (fun h6 => ?_) (fun h6 => ?_)
          · refine hp_sN [70, 71] (pc' := 71) (L' := [some (.ref 0), some (.int i1), some (.int i2), some (.int (hq_52 S i1)), some (.ref (29 + 2 * i1.toNatClampNeg)), none]) (st' := [.int (Int32.ofInt 0), .ref 0]) rfl rfl ?_
            refine hp_iv (virt := true) (pc' := 74) (rv := none) (M1 := hp_mem X (hq_55 S (Int32.ofInt 0))) rfl rfl (by decide) (hk_55 S ((Int32.ofInt 0))) rfl rfl ?_
            show hp_T _ 31 74 _ [] _ _ _
            refine hp_sN [75, 76, 78] (pc' := 78) (L' := [some (.ref 0), some (.int i1), some (.int i2), some (.int (hq_52 S i1)), some (.ref (29 + 2 * i1.toNatClampNeg)), none]) (st' := [.int (Int32.ofInt 99), .int i2, .ref 0]) rfl rfl ?_
            refine hp_iv (virt := true) (pc' := 81) (rv := some (.int (hq_56 (hq_55 S (Int32.ofInt 0)) i2 (Int32.ofInt 99)).1)) (M1 := hp_mem X ((hq_56 (hq_55 S (Int32.ofInt 0)) i2 (Int32.ofInt 99)).2)) rfl rfl (by decide) (hk_56 (hq_55 S (Int32.ofInt 0)) (i2) ((Int32.ofInt 99)) (by decide)) rfl rfl ?_
            show hp_T _ 31 81 _ [.int (hq_56 (hq_55 S (Int32.ofInt 0)) i2 (Int32.ofInt 99)).1] _ _ _
            refine hp_sN [83, 85, 87] (pc' := 87) (L' := [some (.ref 0), some (.int i1), some (.int i2), some (.int (hq_52 S i1)), some (.ref (29 + 2 * i1.toNatClampNeg)), some (.int (hq_56 (hq_55 S (Int32.ofInt 0)) i2 (Int32.ofInt 99)).1)]) (st' := [.int (Int32.ofInt (-4)), .int (hq_56 (hq_55 S (Int32.ofInt 0)) i2 (Int32.ofInt 99)).1]) rfl rfl ?_
            refine hp_ic (pc' := 90) rfl rfl (fun h7 => ?_) (fun h7 => ?_)
            · refine hp_sN [97, 99] (pc' := 99) (L' := [some (.ref 0), some (.int i1), some (.int i2), some (.int (hq_52 S i1)), some (.ref (29 + 2 * i1.toNatClampNeg)), some (.int (hq_56 (hq_55 S (Int32.ofInt 0)) i2 (Int32.ofInt 99)).1)]) (st' := [.int (hq_56 (hq_55 S (Int32.ofInt 0)) i2 (Int32.ofInt 99)).1, .ref (29 + 2 * i1.toNatClampNeg)]) rfl rfl ?_
              refine hp_iv (virt := true) (pc' := 102) (rv := some (.int (hq_179 ((hq_56 (hq_55 S (Int32.ofInt 0)) i2 (Int32.ofInt 99)).2) i1.toNatClampNeg (hq_56 (hq_55 S (Int32.ofInt 0)) i2 (Int32.ofInt 99)).1))) (M1 := hp_mem X ((hq_56 (hq_55 S (Int32.ofInt 0)) i2 (Int32.ofInt 99)).2)) rfl rfl (by decide) (hk_179 h4 ((hq_56 (hq_55 S (Int32.ofInt 0)) i2 (Int32.ofInt 99)).2) ((hq_56 (hq_55 S (Int32.ofInt 0)) i2 (Int32.ofInt 99)).1)) rfl rfl ?_
              show hp_T _ 31 102 _ [.int (hq_179 ((hq_56 (hq_55 S (Int32.ofInt 0)) i2 (Int32.ofInt 99)).2) i1.toNatClampNeg (hq_56 (hq_55 S (Int32.ofInt 0)) i2 (Int32.ofInt 99)).1)] _ _ _
              exact hp_Ris rfl
            · refine hp_sN [92, 102] (pc' := 102) (L' := [some (.ref 0), some (.int i1), some (.int i2), some (.int (hq_52 S i1)), some (.ref (29 + 2 * i1.toNatClampNeg)), some (.int (hq_56 (hq_55 S (Int32.ofInt 0)) i2 (Int32.ofInt 99)).1)]) (st' := [.int (Int32.ofInt (-4))]) rfl rfl ?_
              exact hp_Ris rfl
          · refine hp_sN [68] (pc' := 68) (L' := [some (.ref 0), some (.int i1), some (.int i2), some (.int (hq_52 S i1)), some (.ref (29 + 2 * i1.toNatClampNeg)), none]) (st' := [.int (Int32.ofInt (-13))]) rfl rfl ?_
            exact hp_Ris rfl
      · refine hp_sN [38] (pc' := 38) (L' := [some (.ref 0), some (.int i1), some (.int i2), some (.int (hq_52 S i1)), none, none]) (st' := [.int (Int32.ofInt (-3))]) rfl rfl ?_
        exact hp_Ris rfl
    · refine hp_sN [24] (pc' := 24) (L' := [some (.ref 0), some (.int i1), some (.int i2), some (.int (hq_52 S i1)), none, none]) (st' := [.int (hq_52 S i1)]) rfl rfl ?_
      exact hp_Ris rfl
  · refine hp_sN [12] (pc' := 12) (L' := [some (.ref 0), some (.int i1), some (.int i2), none, none, none]) (st' := [.int (Int32.ofInt (-1))]) rfl rfl ?_
    exact hp_Ris rfl
theorem hk_31 {X : hp_X} (S : hp_S) (i1 : Int32) (i2 : Int32) : hp_K 31 [.ref 0, .int i1, .int i2] (hp_mem X S) (hp_is X) (hq_31 S i1 i2) := by
  refine hp_mk (q := hzq_31) rfl (by decide) (L := [some (.ref 0), some (.int i1), some (.int i2), none, none, none]) rfl (fun n => ?_)
  exact ht_31 S i1 i2 n
/-! 32: HatsOfTheWind.forged(II)I -/
def hq_32_67 (i1 : Int32) (i2 : Int32) : Nat → hp_S → Int32 → Int32 → Int32 × hp_S
  | 0, S, _, _ => (0, S)
  | m + 1, S, v3, v5 => (if hz_cmp .ge v5 (S (29 + 2 * i1.toNatClampNeg) 4) = true then ((Int32.ofInt (-4)), S) else (if hz_cmp .eq (S (30 + 2 * i1.toNatClampNeg) v5.toNatClampNeg) (hq_205 S 10 i2 (S (30 + 2 * i1.toNatClampNeg) (v5 - (Int32.ofInt 1)).toNatClampNeg)) = true then hq_32_67 i1 i2 m (hq_202 S 10) v3 (v5 + (Int32.ofInt 1)) else (v5, S)))
def hq_32 (S : hp_S) (i1 : Int32) (i2 : Int32) : Int32 × hp_S := (if hz_cmp .ne (hq_182 S 1 i2) 0 = true then (if hz_cmp .eq (hq_52 S i1) 0 = true then (if hz_cmp .le (S (29 + 2 * i1.toNatClampNeg) 4) 0 = true then (hq_32_67 i1 i2 (((hq_55 S (Int32.ofInt 0) (29 + 2 * i1.toNatClampNeg) 4).toInt - (Int32.ofInt 1).toInt).toNat + 1) (hq_55 S (Int32.ofInt 0)) ((hq_52 S i1)) ((Int32.ofInt 1))) else (if hz_cmp .ne (hq_44 S (S (30 + 2 * i1.toNatClampNeg) (Int32.ofInt 0).toNatClampNeg) (Int32.ofInt 0) (Int32.ofInt 21)) 0 = true then (hq_32_67 i1 i2 (((hq_55 S (Int32.ofInt 0) (29 + 2 * i1.toNatClampNeg) 4).toInt - (Int32.ofInt 1).toInt).toNat + 1) (hq_55 S (Int32.ofInt 0)) ((hq_52 S i1)) ((Int32.ofInt 1))) else ((Int32.ofInt 0), S))) else ((hq_52 S i1), S)) else ((Int32.ofInt (-1)), S))
theorem hf_32_67 {i1 : Int32} {i2 : Int32} (j : Nat) (z0 : j ≠ (10 + 1)) (z1 : j ≠ 10) (z2 : j ≠ (10 + 2)) (z3 : j ≠ (10 + 3)) (z4 : j ≠ (10 + 4)) (z5 : j ≠ (10 + 5)) (z6 : j ≠ (10 + 6)) (z7 : j ≠ (10 + 7)) (z8 : j ≠ (10 + 8)) : ∀ (m : Nat) (S : hp_S) (v3 : Int32) (v5 : Int32), (hq_32_67 i1 i2 m S v3 v5).2 j = S j := by
  intro m
  induction m with
  | zero => intros; rfl
  | succ m ih =>
    intro S v3 v5
    rw [hq_32_67]
    repeat' split
    all_goals simp [ih, hp_wo, hp_wgo, hp_cpo, hf_55, hf_202, z0, z1, z2, z3, z4, z5, z6, z7, z8]
theorem hf_32 (S : hp_S) (i1 : Int32) (i2 : Int32) (j : Nat) (z0 : j ≠ (10 + 1)) (z1 : j ≠ 10) (z2 : j ≠ (10 + 2)) (z3 : j ≠ (10 + 3)) (z4 : j ≠ (10 + 4)) (z5 : j ≠ (10 + 5)) (z6 : j ≠ (10 + 6)) (z7 : j ≠ (10 + 7)) (z8 : j ≠ (10 + 8)) : (hq_32 S i1 i2).2 j = S j := by
  unfold hq_32
  repeat' split
  all_goals simp [hp_wo, hp_wgo, hp_cpo, hf_55, hf_202, z0, z1, z2, z3, z4, z5, z6, z7, z8, hf_32_67]
set_option maxRecDepth 10000 in
theorem ht_32_67 {X : hp_X} (i1 : Int32) (i2 : Int32) (hs4 : i1.toNatClampNeg < 8) : ∀ (n m : Nat) (S : hp_S) (v3 : Int32) (v5 : Int32), ((S (29 + 2 * i1.toNatClampNeg) 4).toInt - v5.toInt).toNat < m → hp_T n 32 67 [some (.ref 0), some (.int i1), some (.int i2), some (.int v3), some (.ref (29 + 2 * i1.toNatClampNeg)), some (.int v5)] [] (hp_mem X S) (hp_is X) (hq_32_67 i1 i2 m S v3 v5) := by
  intro n
  induction n with
  | zero => intros; exact hp_0
  | succ n ih =>
    intro m S v3 v5 hm
    cases m with
    | zero => exact absurd hm (Nat.not_lt_zero _)
    | succ m =>
      rw [hq_32_67]
      refine hp_sN [69, 71] (pc' := 71) (L' := [some (.ref 0), some (.int i1), some (.int i2), some (.int v3), some (.ref (29 + 2 * i1.toNatClampNeg)), some (.int v5)]) (st' := [.ref (29 + 2 * i1.toNatClampNeg), .int v5]) rfl rfl ?_
      refine hp_gf (pc' := 74) rfl (hp_sl0 hs4) (hp_s0 hs4 X _) rfl rfl ?_
      refine hp_ic (pc' := 77) rfl rfl (fun h1 => ?_) (fun h1 => ?_)
      · refine hp_sN [124] (pc' := 124) (L' := [some (.ref 0), some (.int i1), some (.int i2), some (.int v3), some (.ref (29 + 2 * i1.toNatClampNeg)), some (.int v5)]) (st' := [.int (Int32.ofInt (-4))]) rfl rfl ?_
        exact hp_Ris rfl
      · refine hp_sN [79] (pc' := 79) (L' := [some (.ref 0), some (.int i1), some (.int i2), some (.int v3), some (.ref (29 + 2 * i1.toNatClampNeg)), some (.int v5)]) (st' := [.ref (29 + 2 * i1.toNatClampNeg)]) rfl rfl ?_
        refine hp_gf (pc' := 82) rfl (hp_sl0 hs4) (hp_s0 hs4 X _) rfl rfl ?_
        refine hp_sN [84] (pc' := 84) (L' := [some (.ref 0), some (.int i1), some (.int i2), some (.int v3), some (.ref (29 + 2 * i1.toNatClampNeg)), some (.int v5)]) (st' := [.int v5, .ref (30 + 2 * i1.toNatClampNeg)]) rfl rfl ?_
        refine hp_al (pc' := 85) rfl (hp_sl1 hs4) (hp_s1 hs4 X _) rfl ?_
        refine hp_sN [86] (pc' := 86) (L' := [some (.ref 0), some (.int i1), some (.int i2), some (.int v3), some (.ref (29 + 2 * i1.toNatClampNeg)), some (.int v5)]) (st' := [.ref 0, .int (S (30 + 2 * i1.toNatClampNeg) v5.toNatClampNeg)]) rfl rfl ?_
        refine hp_gf (pc' := 89) rfl (by decide) (hp_c0 X _) rfl rfl ?_
        refine hp_sN [90, 92] (pc' := 92) (L' := [some (.ref 0), some (.int i1), some (.int i2), some (.int v3), some (.ref (29 + 2 * i1.toNatClampNeg)), some (.int v5)]) (st' := [.ref (29 + 2 * i1.toNatClampNeg), .int i2, .ref 10, .int (S (30 + 2 * i1.toNatClampNeg) v5.toNatClampNeg)]) rfl rfl ?_
        refine hp_gf (pc' := 95) rfl (hp_sl0 hs4) (hp_s0 hs4 X _) rfl rfl ?_
        refine hp_sN [97, 98, 99] (pc' := 99) (L' := [some (.ref 0), some (.int i1), some (.int i2), some (.int v3), some (.ref (29 + 2 * i1.toNatClampNeg)), some (.int v5)]) (st' := [.int (v5 - (Int32.ofInt 1)), .ref (30 + 2 * i1.toNatClampNeg), .int i2, .ref 10, .int (S (30 + 2 * i1.toNatClampNeg) v5.toNatClampNeg)]) rfl rfl ?_
        refine hp_al (pc' := 100) rfl (hp_sl1 hs4) (hp_s1 hs4 X _) rfl ?_
        refine hp_iv (virt := true) (pc' := 103) (rv := some (.int (hq_205 S 10 i2 (S (30 + 2 * i1.toNatClampNeg) (v5 - (Int32.ofInt 1)).toNatClampNeg)))) (M1 := hp_mem X (S)) rfl rfl (by decide) (hk_205 (Or.inr (Or.inl rfl)) S (i2) ((S (30 + 2 * i1.toNatClampNeg) (v5 - (Int32.ofInt 1)).toNatClampNeg))) rfl rfl ?_
        show hp_T _ 32 103 _ [.int (hq_205 S 10 i2 (S (30 + 2 * i1.toNatClampNeg) (v5 - (Int32.ofInt 1)).toNatClampNeg)), .int (S (30 + 2 * i1.toNatClampNeg) v5.toNatClampNeg)] _ _ _
        refine hp_ic (pc' := 106) rfl rfl (fun h2 => ?_) (fun h2 => ?_)
        · refine hp_sN [110] (pc' := 110) (L' := [some (.ref 0), some (.int i1), some (.int i2), some (.int v3), some (.ref (29 + 2 * i1.toNatClampNeg)), some (.int v5)]) (st' := [.ref 0]) rfl rfl ?_
          refine hp_gf (pc' := 113) rfl (by decide) (hp_c0 X _) rfl rfl ?_
          refine hp_iv (virt := true) (pc' := 116) (rv := none) (M1 := hp_mem X (hq_202 S 10)) rfl rfl (by decide) (hk_202 (Or.inr (Or.inl rfl)) S) rfl rfl ?_
          show hp_T _ 32 116 _ [] _ _ _
          refine hp_sB 119 [67] (pc' := 67) (L' := [some (.ref 0), some (.int i1), some (.int i2), some (.int v3), some (.ref (29 + 2 * i1.toNatClampNeg)), some (.int (v5 + (Int32.ofInt 1)))]) (st' := []) rfl rfl ?_
          exact ih m (hq_202 S 10) (v3) ((v5 + (Int32.ofInt 1))) (by rw [show ((hq_202 S 10) (29 + 2 * i1.toNatClampNeg) 4) = (S (29 + 2 * i1.toNatClampNeg) 4) from by simp (disch := omega) [hp_wo, hp_wgo, hp_cpo, hf_55, hf_202]]; exact (hp_up h1 hm))
        · refine hp_sN [108] (pc' := 108) (L' := [some (.ref 0), some (.int i1), some (.int i2), some (.int v3), some (.ref (29 + 2 * i1.toNatClampNeg)), some (.int v5)]) (st' := [.int v5]) rfl rfl ?_
          exact hp_Ris rfl
set_option maxRecDepth 10000 in
theorem ht_32 {X : hp_X} (S : hp_S) (i1 : Int32) (i2 : Int32) (n : Nat) : hp_T n 32 0 [some (.ref 0), some (.int i1), some (.int i2), none, none, none] [] (hp_mem X S) (hp_is X) (hq_32 S i1 i2) := by
  unfold hq_32
  refine hp_sN [1] (pc' := 1) (L' := [some (.ref 0), some (.int i1), some (.int i2), none, none, none]) (st' := [.ref 0]) rfl rfl ?_
  refine hp_gf (pc' := 4) rfl (by decide) (hp_c0 X _) rfl rfl ?_
  refine hp_sN [5] (pc' := 5) (L' := [some (.ref 0), some (.int i1), some (.int i2), none, none, none]) (st' := [.int i2, .ref 1]) rfl rfl ?_
  refine hp_iv (virt := true) (pc' := 8) (rv := some (.int (hq_182 S 1 i2))) (M1 := hp_mem X (S)) rfl rfl (by decide) (hk_182 (Or.inl rfl) S (i2)) rfl rfl ?_
  show hp_T _ 32 8 _ [.int (hq_182 S 1 i2)] _ _ _
  refine hp_if (pc' := 11) rfl rfl (fun h1 => ?_) (fun h1 => ?_)
  · refine hp_sN [14, 15] (pc' := 15) (L' := [some (.ref 0), some (.int i1), some (.int i2), none, none, none]) (st' := [.int i1, .ref 0]) rfl rfl ?_
    refine hp_iv (virt := true) (pc' := 18) (rv := some (.int (hq_52 S i1))) (M1 := hp_mem X (S)) rfl rfl (by decide) (hk_52 S (i1)) rfl rfl ?_
    show hp_T _ 32 18 _ [.int (hq_52 S i1)] _ _ _
    refine hp_sN [19, 20] (pc' := 20) (L' := [some (.ref 0), some (.int i1), some (.int i2), some (.int (hq_52 S i1)), none, none]) (st' := [.int (hq_52 S i1)]) rfl rfl ?_
    refine hp_if (pc' := 23) rfl rfl (fun h2 => ?_) (fun h2 => ?_)
    · refine hp_sN [26] (pc' := 26) (L' := [some (.ref 0), some (.int i1), some (.int i2), some (.int (hq_52 S i1)), none, none]) (st' := [.ref 0]) rfl rfl ?_
      refine hp_gf (pc' := 29) rfl (by decide) (hp_c0 X _) rfl rfl ?_
      refine hp_sN [30] (pc' := 30) (L' := [some (.ref 0), some (.int i1), some (.int i2), some (.int (hq_52 S i1)), none, none]) (st' := [.int i1, .ref 28]) rfl rfl ?_
      refine hp_aa (pc' := 31) rfl rfl (fun h3 => ?_)
      refine hp_sN [33, 35] (pc' := 35) (L' := [some (.ref 0), some (.int i1), some (.int i2), some (.int (hq_52 S i1)), some (.ref (29 + 2 * i1.toNatClampNeg)), none]) (st' := [.ref (29 + 2 * i1.toNatClampNeg)]) rfl rfl ?_
      refine hp_gf (pc' := 38) rfl (hp_sl0 h3) (hp_s0 h3 X _) rfl rfl ?_
      refine hp_if (pc' := 41) rfl rfl (fun h4 => ?_) (fun h4 => ?_)
      · refine hp_sN [60, 61] (pc' := 61) (L' := [some (.ref 0), some (.int i1), some (.int i2), some (.int (hq_52 S i1)), some (.ref (29 + 2 * i1.toNatClampNeg)), none]) (st' := [.int (Int32.ofInt 0), .ref 0]) rfl rfl ?_
        refine hp_iv (virt := true) (pc' := 64) (rv := none) (M1 := hp_mem X (hq_55 S (Int32.ofInt 0))) rfl rfl (by decide) (hk_55 S ((Int32.ofInt 0))) rfl rfl ?_
        show hp_T _ 32 64 _ [] _ _ _
        refine hp_sN [65, 67] (pc' := 67) (L' := [some (.ref 0), some (.int i1), some (.int i2), some (.int (hq_52 S i1)), some (.ref (29 + 2 * i1.toNatClampNeg)), some (.int (Int32.ofInt 1))]) (st' := []) rfl rfl ?_
        exact ht_32_67 i1 i2 h3  n (((hq_55 S (Int32.ofInt 0) (29 + 2 * i1.toNatClampNeg) 4).toInt - (Int32.ofInt 1).toInt).toNat + 1) (hq_55 S (Int32.ofInt 0)) ((hq_52 S i1)) ((Int32.ofInt 1))  (Nat.lt_succ_self _)
      · refine hp_sN [43] (pc' := 43) (L' := [some (.ref 0), some (.int i1), some (.int i2), some (.int (hq_52 S i1)), some (.ref (29 + 2 * i1.toNatClampNeg)), none]) (st' := [.ref (29 + 2 * i1.toNatClampNeg)]) rfl rfl ?_
        refine hp_gf (pc' := 46) rfl (hp_sl0 h3) (hp_s0 h3 X _) rfl rfl ?_
        refine hp_sN [47] (pc' := 47) (L' := [some (.ref 0), some (.int i1), some (.int i2), some (.int (hq_52 S i1)), some (.ref (29 + 2 * i1.toNatClampNeg)), none]) (st' := [.int (Int32.ofInt 0), .ref (30 + 2 * i1.toNatClampNeg)]) rfl rfl ?_
        refine hp_al (pc' := 48) rfl (hp_sl1 h3) (hp_s1 h3 X _) rfl ?_
        refine hp_sN [49, 51] (pc' := 51) (L' := [some (.ref 0), some (.int i1), some (.int i2), some (.int (hq_52 S i1)), some (.ref (29 + 2 * i1.toNatClampNeg)), none]) (st' := [.int (Int32.ofInt 21), .int (Int32.ofInt 0), .int (S (30 + 2 * i1.toNatClampNeg) (Int32.ofInt 0).toNatClampNeg)]) rfl rfl ?_
        refine hp_iv (virt := false) (pc' := 54) (rv := some (.int (hq_44 S (S (30 + 2 * i1.toNatClampNeg) (Int32.ofInt 0).toNatClampNeg) (Int32.ofInt 0) (Int32.ofInt 21)))) (M1 := hp_mem X (S)) rfl rfl (by decide) (hk_44 S ((S (30 + 2 * i1.toNatClampNeg) (Int32.ofInt 0).toNatClampNeg)) ((Int32.ofInt 0)) ((Int32.ofInt 21))) rfl rfl ?_
        show hp_T _ 32 54 _ [.int (hq_44 S (S (30 + 2 * i1.toNatClampNeg) (Int32.ofInt 0).toNatClampNeg) (Int32.ofInt 0) (Int32.ofInt 21))] _ _ _
        refine hp_if (pc' := 57) rfl rfl (fun h5 => ?_) (fun h5 => ?_)
        · refine hp_sN [60, 61] (pc' := 61) (L' := [some (.ref 0), some (.int i1), some (.int i2), some (.int (hq_52 S i1)), some (.ref (29 + 2 * i1.toNatClampNeg)), none]) (st' := [.int (Int32.ofInt 0), .ref 0]) rfl rfl ?_
          refine hp_iv (virt := true) (pc' := 64) (rv := none) (M1 := hp_mem X (hq_55 S (Int32.ofInt 0))) rfl rfl (by decide) (hk_55 S ((Int32.ofInt 0))) rfl rfl ?_
          show hp_T _ 32 64 _ [] _ _ _
          refine hp_sN [65, 67] (pc' := 67) (L' := [some (.ref 0), some (.int i1), some (.int i2), some (.int (hq_52 S i1)), some (.ref (29 + 2 * i1.toNatClampNeg)), some (.int (Int32.ofInt 1))]) (st' := []) rfl rfl ?_
          exact ht_32_67 i1 i2 h3  n (((hq_55 S (Int32.ofInt 0) (29 + 2 * i1.toNatClampNeg) 4).toInt - (Int32.ofInt 1).toInt).toNat + 1) (hq_55 S (Int32.ofInt 0)) ((hq_52 S i1)) ((Int32.ofInt 1))  (Nat.lt_succ_self _)
        · refine hp_sN [58] (pc' := 58) (L' := [some (.ref 0), some (.int i1), some (.int i2), some (.int (hq_52 S i1)), some (.ref (29 + 2 * i1.toNatClampNeg)), none]) (st' := [.int (Int32.ofInt 0)]) rfl rfl ?_
          exact hp_Ris rfl
    · refine hp_sN [24] (pc' := 24) (L' := [some (.ref 0), some (.int i1), some (.int i2), some (.int (hq_52 S i1)), none, none]) (st' := [.int (hq_52 S i1)]) rfl rfl ?_
      exact hp_Ris rfl
  · refine hp_sN [12] (pc' := 12) (L' := [some (.ref 0), some (.int i1), some (.int i2), none, none, none]) (st' := [.int (Int32.ofInt (-1))]) rfl rfl ?_
    exact hp_Ris rfl
theorem hk_32 {X : hp_X} (S : hp_S) (i1 : Int32) (i2 : Int32) : hp_K 32 [.ref 0, .int i1, .int i2] (hp_mem X S) (hp_is X) (hq_32 S i1 i2) := by
  refine hp_mk (q := hzq_32) rfl (by decide) (L := [some (.ref 0), some (.int i1), some (.int i2), none, none, none]) rfl (fun n => ?_)
  exact ht_32 S i1 i2 n
/-! 33: HatsOfTheWind.judge(I)I -/
def hq_33_27 (i1 : Int32) : Nat → hp_S → Int32 → Int32 → Int32 × hp_S
  | 0, S, _, _ => (0, S)
  | m + 1, S, v2, v4 => (if hz_cmp .ge v4 (S (29 + 2 * i1.toNatClampNeg) 4) = true then ((Int32.ofInt (-4)), S) else (if hz_cmp .ne (hq_177 S i1.toNatClampNeg v4) 0 = true then hq_33_27 i1 m (hq_201 S 10) v2 (v4 + (Int32.ofInt 1)) else (if hz_cmp .eq (S (30 + 2 * i1.toNatClampNeg) v4.toNatClampNeg) (hq_216 S (hq_189 S 10)) = true then hq_33_27 i1 m (hq_201 S 10) v2 (v4 + (Int32.ofInt 1)) else (v4, S))))
def hq_33 (S : hp_S) (i1 : Int32) : Int32 × hp_S := (if hz_cmp .eq (hq_52 S i1) 0 = true then (hq_33_27 i1 (((hq_55 S (Int32.ofInt 0) (29 + 2 * i1.toNatClampNeg) 4).toInt - (Int32.ofInt 0).toInt).toNat + 1) (hq_55 S (Int32.ofInt 0)) ((hq_52 S i1)) ((Int32.ofInt 0))) else ((hq_52 S i1), S))
theorem hf_33_27 {i1 : Int32} (j : Nat) (z0 : j ≠ (10 + 1)) (z1 : j ≠ 10) (z2 : j ≠ (10 + 2)) (z3 : j ≠ (10 + 3)) (z4 : j ≠ (10 + 4)) (z5 : j ≠ (10 + 5)) (z6 : j ≠ (10 + 6)) (z7 : j ≠ (10 + 7)) (z8 : j ≠ (10 + 8)) : ∀ (m : Nat) (S : hp_S) (v2 : Int32) (v4 : Int32), (hq_33_27 i1 m S v2 v4).2 j = S j := by
  intro m
  induction m with
  | zero => intros; rfl
  | succ m ih =>
    intro S v2 v4
    rw [hq_33_27]
    repeat' split
    all_goals simp [ih, hp_wo, hp_wgo, hp_cpo, hf_55, hf_201, z0, z1, z2, z3, z4, z5, z6, z7, z8]
theorem hf_33 (S : hp_S) (i1 : Int32) (j : Nat) (z0 : j ≠ (10 + 1)) (z1 : j ≠ 10) (z2 : j ≠ (10 + 2)) (z3 : j ≠ (10 + 3)) (z4 : j ≠ (10 + 4)) (z5 : j ≠ (10 + 5)) (z6 : j ≠ (10 + 6)) (z7 : j ≠ (10 + 7)) (z8 : j ≠ (10 + 8)) : (hq_33 S i1).2 j = S j := by
  unfold hq_33
  repeat' split
  all_goals simp [hp_wo, hp_wgo, hp_cpo, hf_55, hf_201, z0, z1, z2, z3, z4, z5, z6, z7, z8, hf_33_27]
set_option maxRecDepth 10000 in
theorem ht_33_27 {X : hp_X} (i1 : Int32) (hs3 : i1.toNatClampNeg < 8) : ∀ (n m : Nat) (S : hp_S) (v2 : Int32) (v4 : Int32), ((S (29 + 2 * i1.toNatClampNeg) 4).toInt - v4.toInt).toNat < m → hp_T n 33 27 [some (.ref 0), some (.int i1), some (.int v2), some (.ref (29 + 2 * i1.toNatClampNeg)), some (.int v4)] [] (hp_mem X S) (hp_is X) (hq_33_27 i1 m S v2 v4) := by
  intro n
  induction n with
  | zero => intros; exact hp_0
  | succ n ih =>
    intro m S v2 v4 hm
    cases m with
    | zero => exact absurd hm (Nat.not_lt_zero _)
    | succ m =>
      rw [hq_33_27]
      refine hp_sN [29, 30] (pc' := 30) (L' := [some (.ref 0), some (.int i1), some (.int v2), some (.ref (29 + 2 * i1.toNatClampNeg)), some (.int v4)]) (st' := [.ref (29 + 2 * i1.toNatClampNeg), .int v4]) rfl rfl ?_
      refine hp_gf (pc' := 33) rfl (hp_sl0 hs3) (hp_s0 hs3 X _) rfl rfl ?_
      refine hp_ic (pc' := 36) rfl rfl (fun h1 => ?_) (fun h1 => ?_)
      · refine hp_sN [83] (pc' := 83) (L' := [some (.ref 0), some (.int i1), some (.int v2), some (.ref (29 + 2 * i1.toNatClampNeg)), some (.int v4)]) (st' := [.int (Int32.ofInt (-4))]) rfl rfl ?_
        exact hp_Ris rfl
      · refine hp_sN [37, 39] (pc' := 39) (L' := [some (.ref 0), some (.int i1), some (.int v2), some (.ref (29 + 2 * i1.toNatClampNeg)), some (.int v4)]) (st' := [.int v4, .ref (29 + 2 * i1.toNatClampNeg)]) rfl rfl ?_
        refine hp_iv (virt := true) (pc' := 42) (rv := some (.int (hq_177 S i1.toNatClampNeg v4))) (M1 := hp_mem X (S)) rfl rfl (by decide) (hk_177 hs3 S (v4)) rfl rfl ?_
        show hp_T _ 33 42 _ [.int (hq_177 S i1.toNatClampNeg v4)] _ _ _
        refine hp_if (pc' := 45) rfl rfl (fun h2 => ?_) (fun h2 => ?_)
        · refine hp_sN [69] (pc' := 69) (L' := [some (.ref 0), some (.int i1), some (.int v2), some (.ref (29 + 2 * i1.toNatClampNeg)), some (.int v4)]) (st' := [.ref 0]) rfl rfl ?_
          refine hp_gf (pc' := 72) rfl (by decide) (hp_c0 X _) rfl rfl ?_
          refine hp_iv (virt := true) (pc' := 75) (rv := none) (M1 := hp_mem X (hq_201 S 10)) rfl rfl (by decide) (hk_201 (Or.inr (Or.inl rfl)) S) rfl rfl ?_
          show hp_T _ 33 75 _ [] _ _ _
          refine hp_sB 78 [27] (pc' := 27) (L' := [some (.ref 0), some (.int i1), some (.int v2), some (.ref (29 + 2 * i1.toNatClampNeg)), some (.int (v4 + (Int32.ofInt 1)))]) (st' := []) rfl rfl ?_
          exact ih m (hq_201 S 10) (v2) ((v4 + (Int32.ofInt 1))) (by rw [show ((hq_201 S 10) (29 + 2 * i1.toNatClampNeg) 4) = (S (29 + 2 * i1.toNatClampNeg) 4) from by simp (disch := omega) [hp_wo, hp_wgo, hp_cpo, hf_55, hf_201]]; exact (hp_up h1 hm))
        · refine hp_sN [46] (pc' := 46) (L' := [some (.ref 0), some (.int i1), some (.int v2), some (.ref (29 + 2 * i1.toNatClampNeg)), some (.int v4)]) (st' := [.ref (29 + 2 * i1.toNatClampNeg)]) rfl rfl ?_
          refine hp_gf (pc' := 49) rfl (hp_sl0 hs3) (hp_s0 hs3 X _) rfl rfl ?_
          refine hp_sN [51] (pc' := 51) (L' := [some (.ref 0), some (.int i1), some (.int v2), some (.ref (29 + 2 * i1.toNatClampNeg)), some (.int v4)]) (st' := [.int v4, .ref (30 + 2 * i1.toNatClampNeg)]) rfl rfl ?_
          refine hp_al (pc' := 52) rfl (hp_sl1 hs3) (hp_s1 hs3 X _) rfl ?_
          refine hp_sN [53] (pc' := 53) (L' := [some (.ref 0), some (.int i1), some (.int v2), some (.ref (29 + 2 * i1.toNatClampNeg)), some (.int v4)]) (st' := [.ref 0, .int (S (30 + 2 * i1.toNatClampNeg) v4.toNatClampNeg)]) rfl rfl ?_
          refine hp_gf (pc' := 56) rfl (by decide) (hp_c0 X _) rfl rfl ?_
          refine hp_iv (virt := true) (pc' := 59) (rv := some (.int (hq_189 S 10))) (M1 := hp_mem X (S)) rfl rfl (by decide) (hk_189 (Or.inr (Or.inl rfl)) S) rfl rfl ?_
          show hp_T _ 33 59 _ [.int (hq_189 S 10), .int (S (30 + 2 * i1.toNatClampNeg) v4.toNatClampNeg)] _ _ _
          refine hp_iv (virt := false) (pc' := 62) (rv := some (.int (hq_216 S (hq_189 S 10)))) (M1 := hp_mem X (S)) rfl rfl (by decide) (hk_216 S ((hq_189 S 10))) rfl rfl ?_
          show hp_T _ 33 62 _ [.int (hq_216 S (hq_189 S 10)), .int (S (30 + 2 * i1.toNatClampNeg) v4.toNatClampNeg)] _ _ _
          refine hp_ic (pc' := 65) rfl rfl (fun h3 => ?_) (fun h3 => ?_)
          · refine hp_sN [69] (pc' := 69) (L' := [some (.ref 0), some (.int i1), some (.int v2), some (.ref (29 + 2 * i1.toNatClampNeg)), some (.int v4)]) (st' := [.ref 0]) rfl rfl ?_
            refine hp_gf (pc' := 72) rfl (by decide) (hp_c0 X _) rfl rfl ?_
            refine hp_iv (virt := true) (pc' := 75) (rv := none) (M1 := hp_mem X (hq_201 S 10)) rfl rfl (by decide) (hk_201 (Or.inr (Or.inl rfl)) S) rfl rfl ?_
            show hp_T _ 33 75 _ [] _ _ _
            refine hp_sB 78 [27] (pc' := 27) (L' := [some (.ref 0), some (.int i1), some (.int v2), some (.ref (29 + 2 * i1.toNatClampNeg)), some (.int (v4 + (Int32.ofInt 1)))]) (st' := []) rfl rfl ?_
            exact ih m (hq_201 S 10) (v2) ((v4 + (Int32.ofInt 1))) (by rw [show ((hq_201 S 10) (29 + 2 * i1.toNatClampNeg) 4) = (S (29 + 2 * i1.toNatClampNeg) 4) from by simp (disch := omega) [hp_wo, hp_wgo, hp_cpo, hf_55, hf_201]]; exact (hp_up h1 hm))
          · refine hp_sN [67] (pc' := 67) (L' := [some (.ref 0), some (.int i1), some (.int v2), some (.ref (29 + 2 * i1.toNatClampNeg)), some (.int v4)]) (st' := [.int v4]) rfl rfl ?_
            exact hp_Ris rfl
set_option maxRecDepth 10000 in
theorem ht_33 {X : hp_X} (S : hp_S) (i1 : Int32) (n : Nat) : hp_T n 33 0 [some (.ref 0), some (.int i1), none, none, none] [] (hp_mem X S) (hp_is X) (hq_33 S i1) := by
  unfold hq_33
  refine hp_sN [1, 2] (pc' := 2) (L' := [some (.ref 0), some (.int i1), none, none, none]) (st' := [.int i1, .ref 0]) rfl rfl ?_
  refine hp_iv (virt := true) (pc' := 5) (rv := some (.int (hq_52 S i1))) (M1 := hp_mem X (S)) rfl rfl (by decide) (hk_52 S (i1)) rfl rfl ?_
  show hp_T _ 33 5 _ [.int (hq_52 S i1)] _ _ _
  refine hp_sN [6, 7] (pc' := 7) (L' := [some (.ref 0), some (.int i1), some (.int (hq_52 S i1)), none, none]) (st' := [.int (hq_52 S i1)]) rfl rfl ?_
  refine hp_if (pc' := 10) rfl rfl (fun h1 => ?_) (fun h1 => ?_)
  · refine hp_sN [13] (pc' := 13) (L' := [some (.ref 0), some (.int i1), some (.int (hq_52 S i1)), none, none]) (st' := [.ref 0]) rfl rfl ?_
    refine hp_gf (pc' := 16) rfl (by decide) (hp_c0 X _) rfl rfl ?_
    refine hp_sN [17] (pc' := 17) (L' := [some (.ref 0), some (.int i1), some (.int (hq_52 S i1)), none, none]) (st' := [.int i1, .ref 28]) rfl rfl ?_
    refine hp_aa (pc' := 18) rfl rfl (fun h2 => ?_)
    refine hp_sN [19, 20, 21] (pc' := 21) (L' := [some (.ref 0), some (.int i1), some (.int (hq_52 S i1)), some (.ref (29 + 2 * i1.toNatClampNeg)), none]) (st' := [.int (Int32.ofInt 0), .ref 0]) rfl rfl ?_
    refine hp_iv (virt := true) (pc' := 24) (rv := none) (M1 := hp_mem X (hq_55 S (Int32.ofInt 0))) rfl rfl (by decide) (hk_55 S ((Int32.ofInt 0))) rfl rfl ?_
    show hp_T _ 33 24 _ [] _ _ _
    refine hp_sN [25, 27] (pc' := 27) (L' := [some (.ref 0), some (.int i1), some (.int (hq_52 S i1)), some (.ref (29 + 2 * i1.toNatClampNeg)), some (.int (Int32.ofInt 0))]) (st' := []) rfl rfl ?_
    exact ht_33_27 i1 h2  n (((hq_55 S (Int32.ofInt 0) (29 + 2 * i1.toNatClampNeg) 4).toInt - (Int32.ofInt 0).toInt).toNat + 1) (hq_55 S (Int32.ofInt 0)) ((hq_52 S i1)) ((Int32.ofInt 0))  (Nat.lt_succ_self _)
  · refine hp_sN [11] (pc' := 11) (L' := [some (.ref 0), some (.int i1), some (.int (hq_52 S i1)), none, none]) (st' := [.int (hq_52 S i1)]) rfl rfl ?_
    exact hp_Ris rfl
theorem hk_33 {X : hp_X} (S : hp_S) (i1 : Int32) : hp_K 33 [.ref 0, .int i1] (hp_mem X S) (hp_is X) (hq_33 S i1) := by
  refine hp_mk (q := hzq_33) rfl (by decide) (L := [some (.ref 0), some (.int i1), none, none, none]) rfl (fun n => ?_)
  exact ht_33 S i1 n
/-! 68: HatsOfTheWind.drawWinds(I)I -/
def hq_68_4 (i1 : Int32) : Nat → hp_S → Int32 → Int32 → hp_S × Int32
  | 0, S, _, _ => (S, 0)
  | m + 1, S, v2, v3 => (if hz_cmp .ge v3 (Int32.ofInt 24) = true then (S, v2) else hq_68_4 i1 m (hp_w S (10 + 1) v3.toNatClampNeg (((((v2 * (Int32.ofInt 1103515245)) + (Int32.ofInt 12345)) &&& (Int32.ofInt 2147483647)) / (Int32.ofInt 65536)) - ((((v2 * (Int32.ofInt 1103515245)) + (Int32.ofInt 12345)) &&& (Int32.ofInt 2147483647)) / (Int32.ofInt 65536)) / (Int32.ofInt 10) * (Int32.ofInt 10))) ((v2 * (Int32.ofInt 1103515245)) + (Int32.ofInt 12345)) (v3 + (Int32.ofInt 1)))
def hq_68 (S : hp_S) (i1 : Int32) : Int32 × hp_S := ((hq_68_4 i1 (((Int32.ofInt 24).toInt - (Int32.ofInt 0).toInt).toNat + 1) S (i1) ((Int32.ofInt 0))).2, (hq_68_4 i1 (((Int32.ofInt 24).toInt - (Int32.ofInt 0).toInt).toNat + 1) S (i1) ((Int32.ofInt 0))).1)
theorem hf_68_4 {i1 : Int32} (j : Nat) (z0 : j ≠ (10 + 1)) : ∀ (m : Nat) (S : hp_S) (v2 : Int32) (v3 : Int32), (hq_68_4 i1 m S v2 v3).1 j = S j := by
  intro m
  induction m with
  | zero => intros; rfl
  | succ m ih =>
    intro S v2 v3
    rw [hq_68_4]
    repeat' split
    all_goals simp [ih, hp_wo, hp_wgo, hp_cpo, z0]
theorem hf_68 (S : hp_S) (i1 : Int32) (j : Nat) (z0 : j ≠ (10 + 1)) : (hq_68 S i1).2 j = S j := by
  unfold hq_68
  repeat' split
  all_goals simp [hp_wo, hp_wgo, hp_cpo, z0, hf_68_4]
set_option maxRecDepth 10000 in
theorem ht_68_4 {α : Type} {φ : α → Option Value × hzMem} {R : α} {X : hp_X} (N : Nat) (i1 : Int32) : ∀ (n : Nat), n ≤ N → ∀ (m : Nat) (S : hp_S) (v2 : Int32) (v3 : Int32) (Z : hp_S × Int32), ((Int32.ofInt 24).toInt - v3.toInt).toNat < m → hq_68_4 i1 m S v2 v3 = Z → (∀ (x3 : Option Value), hp_T N 68 47 [some (.ref 0), some (.int i1), some (.int Z.2), x3] [] (hp_mem X Z.1) φ R) → hp_T n 68 4 [some (.ref 0), some (.int i1), some (.int v2), some (.int v3)] [] (hp_mem X S) φ R := by
  intro n
  induction n with
  | zero => intros; exact hp_0
  | succ n ih =>
    intro hN m S v2 v3 Z hm hZ kk
    cases m with
    | zero => exact absurd hm (Nat.not_lt_zero _)
    | succ m =>
      rw [hq_68_4] at hZ
      refine hp_sN [5, 7] (pc' := 7) (L' := [some (.ref 0), some (.int i1), some (.int v2), some (.int v3)]) (st' := [.int (Int32.ofInt 24), .int v3]) rfl rfl ?_
      refine hp_ic2 (pc' := 10) rfl rfl (fun h1 => ?_) (fun h1 => ?_)
      · rw [if_pos h1] at hZ
        subst hZ
        exact hp_le hN (kk (some (.int v3)))
      · rw [if_neg (hp_nt h1)] at hZ
        refine hp_sN [11, 14, 15, 18, 19, 20, 21] (pc' := 21) (L' := [some (.ref 0), some (.int i1), some (.int ((v2 * (Int32.ofInt 1103515245)) + (Int32.ofInt 12345))), some (.int v3)]) (st' := [.ref 0]) rfl rfl ?_
        refine hp_gf (pc' := 24) rfl (by decide) (hp_c0 X _) rfl rfl ?_
        refine hp_gf (pc' := 27) rfl (hp_bl (Or.inr (Or.inl rfl)) 0 (by decide)) (hp_b0 (Or.inr (Or.inl rfl)) X _) rfl rfl ?_
        refine hp_sN [28, 29, 32, 33, 36] (pc' := 36) (L' := [some (.ref 0), some (.int i1), some (.int ((v2 * (Int32.ofInt 1103515245)) + (Int32.ofInt 12345))), some (.int v3)]) (st' := [.int (Int32.ofInt 65536), .int (((v2 * (Int32.ofInt 1103515245)) + (Int32.ofInt 12345)) &&& (Int32.ofInt 2147483647)), .int v3, .ref (10 + 1)]) rfl rfl ?_
        refine hp_di (pc' := 37) rfl rfl ?_
        refine hp_sN [39] (pc' := 39) (L' := [some (.ref 0), some (.int i1), some (.int ((v2 * (Int32.ofInt 1103515245)) + (Int32.ofInt 12345))), some (.int v3)]) (st' := [.int (Int32.ofInt 10), .int ((((v2 * (Int32.ofInt 1103515245)) + (Int32.ofInt 12345)) &&& (Int32.ofInt 2147483647)) / (Int32.ofInt 65536)), .int v3, .ref (10 + 1)]) rfl rfl ?_
        refine hp_ri2 (pc' := 40) rfl rfl ?_
        refine hp_as (pc' := 41) rfl (hp_bl (Or.inr (Or.inl rfl)) 1 (by decide)) (fun _ => (hp_b1 (Or.inr (Or.inl rfl)) X _)) rfl ?_
        refine hp_sB 44 [4] (pc' := 4) (L' := [some (.ref 0), some (.int i1), some (.int ((v2 * (Int32.ofInt 1103515245)) + (Int32.ofInt 12345))), some (.int (v3 + (Int32.ofInt 1)))]) (st' := []) rfl rfl ?_
        exact ih (Nat.le_trans (Nat.le_succ n) hN) m (hp_w S (10 + 1) v3.toNatClampNeg (((((v2 * (Int32.ofInt 1103515245)) + (Int32.ofInt 12345)) &&& (Int32.ofInt 2147483647)) / (Int32.ofInt 65536)) - ((((v2 * (Int32.ofInt 1103515245)) + (Int32.ofInt 12345)) &&& (Int32.ofInt 2147483647)) / (Int32.ofInt 65536)) / (Int32.ofInt 10) * (Int32.ofInt 10))) (((v2 * (Int32.ofInt 1103515245)) + (Int32.ofInt 12345))) ((v3 + (Int32.ofInt 1))) Z (hp_up h1 hm) hZ kk
set_option maxRecDepth 10000 in
theorem ht_68 {X : hp_X} (S : hp_S) (i1 : Int32) (n : Nat) : hp_T n 68 0 [some (.ref 0), some (.int i1), none, none] [] (hp_mem X S) (hp_is X) (hq_68 S i1) := by
  unfold hq_68
  refine hp_sN [1, 2, 3, 4] (pc' := 4) (L' := [some (.ref 0), some (.int i1), some (.int i1), some (.int (Int32.ofInt 0))]) (st' := []) rfl rfl ?_
  refine ht_68_4 n i1  n (Nat.le_refl _) (((Int32.ofInt 24).toInt - (Int32.ofInt 0).toInt).toNat + 1) S (i1) ((Int32.ofInt 0))  _ (Nat.lt_succ_self _) rfl (fun x3_4 => ?_)
  show hp_T _ 68 47 [some (.ref 0), some (.int i1), some (.int (hq_68_4 i1 (((Int32.ofInt 24).toInt - (Int32.ofInt 0).toInt).toNat + 1) S (i1) ((Int32.ofInt 0))).2), x3_4] _ (hp_mem X ((hq_68_4 i1 (((Int32.ofInt 24).toInt - (Int32.ofInt 0).toInt).toNat + 1) S (i1) ((Int32.ofInt 0))).1)) _ _
  refine hp_sN [48] (pc' := 48) (L' := [some (.ref 0), some (.int i1), some (.int (hq_68_4 i1 (((Int32.ofInt 24).toInt - (Int32.ofInt 0).toInt).toNat + 1) S (i1) ((Int32.ofInt 0))).2), x3_4]) (st' := [.int (hq_68_4 i1 (((Int32.ofInt 24).toInt - (Int32.ofInt 0).toInt).toNat + 1) S (i1) ((Int32.ofInt 0))).2]) rfl rfl ?_
  exact hp_Ris rfl
theorem hk_68 {X : hp_X} (S : hp_S) (i1 : Int32) : hp_K 68 [.ref 0, .int i1] (hp_mem X S) (hp_is X) (hq_68 S i1) := by
  refine hp_mk (q := hzq_68) rfl (by decide) (L := [some (.ref 0), some (.int i1), none, none]) rfl (fun n => ?_)
  exact ht_68 S i1 n
/-! 34: HatsOfTheWind.thursdays(III)I -/
def hq_34_31 (i1 : Int32) (i2 : Int32) (i3 : Int32) : Nat → hp_S → Int32 → Int32 → Int32 → Int32 → hp_S × Int32 × Int32
  | 0, S, _, _, _, _ => (S, 0, 0)
  | m + 1, S, v4, v5, v6, v7 => (if hz_cmp .ge v7 i1 = true then (S, v5, v6) else hq_34_31 i1 i2 i3 m (hq_200 ((hq_68 (hq_55 S (Int32.ofInt 0)) v4).2) 10 (Int32.ofInt 24)) (hq_68 (hq_55 S (Int32.ofInt 0)) v4).1 (v5 + ((hq_216 (hq_200 ((hq_68 (hq_55 S (Int32.ofInt 0)) v4).2) 10 (Int32.ofInt 24)) (hq_190 (hq_200 ((hq_68 (hq_55 S (Int32.ofInt 0)) v4).2) 10 (Int32.ofInt 24)) 10)) - (hq_216 (hq_200 ((hq_68 (hq_55 S (Int32.ofInt 0)) v4).2) 10 (Int32.ofInt 24)) (hq_190 (hq_200 ((hq_68 (hq_55 S (Int32.ofInt 0)) v4).2) 10 (Int32.ofInt 24)) 1)))) (v6 ||| (hq_189 (hq_200 ((hq_68 (hq_55 S (Int32.ofInt 0)) v4).2) 10 (Int32.ofInt 24)) 10)) (v7 + (Int32.ofInt 1)))
def hq_34 (S : hp_S) (i1 : Int32) (i2 : Int32) (i3 : Int32) : Int32 × hp_S := (if hz_cmp .eq (hq_44 S i1 (Int32.ofInt 1) (Int32.ofInt 20)) 0 = true then ((Int32.ofInt (-1)), S) else (if hz_cmp .ne (hq_45 S i3) 0 = true then (if hz_cmp .ne i3 0 = true then ((hq_34_31 i1 i2 i3 ((i1.toInt - (Int32.ofInt 0).toInt).toNat + 1) S (i2) ((Int32.ofInt 0)) ((Int32.ofInt 0)) ((Int32.ofInt 0))).2.2, (hq_34_31 i1 i2 i3 ((i1.toInt - (Int32.ofInt 0).toInt).toNat + 1) S (i2) ((Int32.ofInt 0)) ((Int32.ofInt 0)) ((Int32.ofInt 0))).1) else ((hq_34_31 i1 i2 i3 ((i1.toInt - (Int32.ofInt 0).toInt).toNat + 1) S (i2) ((Int32.ofInt 0)) ((Int32.ofInt 0)) ((Int32.ofInt 0))).2.1, (hq_34_31 i1 i2 i3 ((i1.toInt - (Int32.ofInt 0).toInt).toNat + 1) S (i2) ((Int32.ofInt 0)) ((Int32.ofInt 0)) ((Int32.ofInt 0))).1)) else ((Int32.ofInt (-1)), S)))
theorem hf_34_31 {i1 : Int32} {i2 : Int32} {i3 : Int32} (j : Nat) (z0 : j ≠ (10 + 1)) (z1 : j ≠ 10) (z2 : j ≠ (10 + 2)) (z3 : j ≠ (10 + 3)) (z4 : j ≠ (10 + 4)) (z5 : j ≠ (10 + 5)) (z6 : j ≠ (10 + 6)) (z7 : j ≠ (10 + 7)) (z8 : j ≠ (10 + 8)) : ∀ (m : Nat) (S : hp_S) (v4 : Int32) (v5 : Int32) (v6 : Int32) (v7 : Int32), (hq_34_31 i1 i2 i3 m S v4 v5 v6 v7).1 j = S j := by
  intro m
  induction m with
  | zero => intros; rfl
  | succ m ih =>
    intro S v4 v5 v6 v7
    rw [hq_34_31]
    repeat' split
    all_goals simp [ih, hp_wo, hp_wgo, hp_cpo, hf_55, hf_68, hf_200, z0, z1, z2, z3, z4, z5, z6, z7, z8]
theorem hf_34 (S : hp_S) (i1 : Int32) (i2 : Int32) (i3 : Int32) (j : Nat) (z0 : j ≠ (10 + 1)) (z1 : j ≠ 10) (z2 : j ≠ (10 + 2)) (z3 : j ≠ (10 + 3)) (z4 : j ≠ (10 + 4)) (z5 : j ≠ (10 + 5)) (z6 : j ≠ (10 + 6)) (z7 : j ≠ (10 + 7)) (z8 : j ≠ (10 + 8)) : (hq_34 S i1 i2 i3).2 j = S j := by
  unfold hq_34
  repeat' split
  all_goals simp [hp_wo, hp_wgo, hp_cpo, hf_55, hf_68, hf_200, z0, z1, z2, z3, z4, z5, z6, z7, z8, hf_34_31]
set_option maxRecDepth 10000 in
theorem ht_34_31 {α : Type} {φ : α → Option Value × hzMem} {R : α} {X : hp_X} (N : Nat) (i1 : Int32) (i2 : Int32) (i3 : Int32) : ∀ (n : Nat), n ≤ N → ∀ (m : Nat) (S : hp_S) (v4 : Int32) (v5 : Int32) (v6 : Int32) (v7 : Int32) (Z : hp_S × Int32 × Int32), (i1.toInt - v7.toInt).toNat < m → hq_34_31 i1 i2 i3 m S v4 v5 v6 v7 = Z → (∀ (x4 : Option Value) (x7 : Option Value), hp_T N 34 103 [some (.ref 0), some (.int i1), some (.int i2), some (.int i3), x4, some (.int Z.2.1), some (.int Z.2.2), x7] [] (hp_mem X Z.1) φ R) → hp_T n 34 31 [some (.ref 0), some (.int i1), some (.int i2), some (.int i3), some (.int v4), some (.int v5), some (.int v6), some (.int v7)] [] (hp_mem X S) φ R := by
  intro n
  induction n with
  | zero => intros; exact hp_0
  | succ n ih =>
    intro hN m S v4 v5 v6 v7 Z hm hZ kk
    cases m with
    | zero => exact absurd hm (Nat.not_lt_zero _)
    | succ m =>
      rw [hq_34_31] at hZ
      refine hp_sN [33, 34] (pc' := 34) (L' := [some (.ref 0), some (.int i1), some (.int i2), some (.int i3), some (.int v4), some (.int v5), some (.int v6), some (.int v7)]) (st' := [.int i1, .int v7]) rfl rfl ?_
      refine hp_ic2 (pc' := 37) rfl rfl (fun h1 => ?_) (fun h1 => ?_)
      · rw [if_pos h1] at hZ
        subst hZ
        exact hp_le hN (kk (some (.int v4)) (some (.int v7)))
      · rw [if_neg (hp_nt h1)] at hZ
        refine hp_sN [38, 39] (pc' := 39) (L' := [some (.ref 0), some (.int i1), some (.int i2), some (.int i3), some (.int v4), some (.int v5), some (.int v6), some (.int v7)]) (st' := [.int (Int32.ofInt 0), .ref 0]) rfl rfl ?_
        refine hp_iv (virt := true) (pc' := 42) (rv := none) (M1 := hp_mem X (hq_55 S (Int32.ofInt 0))) rfl rfl (by decide) (hk_55 S ((Int32.ofInt 0))) rfl rfl ?_
        show hp_T _ 34 42 _ [] _ _ _
        refine hp_sN [43, 45] (pc' := 45) (L' := [some (.ref 0), some (.int i1), some (.int i2), some (.int i3), some (.int v4), some (.int v5), some (.int v6), some (.int v7)]) (st' := [.int v4, .ref 0]) rfl rfl ?_
        refine hp_iv (virt := true) (pc' := 48) (rv := some (.int (hq_68 (hq_55 S (Int32.ofInt 0)) v4).1)) (M1 := hp_mem X ((hq_68 (hq_55 S (Int32.ofInt 0)) v4).2)) rfl rfl (by decide) (hk_68 (hq_55 S (Int32.ofInt 0)) (v4)) rfl rfl ?_
        show hp_T _ 34 48 _ [.int (hq_68 (hq_55 S (Int32.ofInt 0)) v4).1] _ _ _
        refine hp_sN [50, 51] (pc' := 51) (L' := [some (.ref 0), some (.int i1), some (.int i2), some (.int i3), some (.int (hq_68 (hq_55 S (Int32.ofInt 0)) v4).1), some (.int v5), some (.int v6), some (.int v7)]) (st' := [.ref 0]) rfl rfl ?_
        refine hp_gf (pc' := 54) rfl (by decide) (hp_c0 X _) rfl rfl ?_
        refine hp_sN [56] (pc' := 56) (L' := [some (.ref 0), some (.int i1), some (.int i2), some (.int i3), some (.int (hq_68 (hq_55 S (Int32.ofInt 0)) v4).1), some (.int v5), some (.int v6), some (.int v7)]) (st' := [.int (Int32.ofInt 24), .ref 10]) rfl rfl ?_
        refine hp_iv (virt := true) (pc' := 59) (rv := none) (M1 := hp_mem X (hq_200 ((hq_68 (hq_55 S (Int32.ofInt 0)) v4).2) 10 (Int32.ofInt 24))) rfl rfl (by decide) (hk_200 (Or.inr (Or.inl rfl)) ((hq_68 (hq_55 S (Int32.ofInt 0)) v4).2) ((Int32.ofInt 24))) rfl rfl ?_
        show hp_T _ 34 59 _ [] _ _ _
        refine hp_sN [61, 62] (pc' := 62) (L' := [some (.ref 0), some (.int i1), some (.int i2), some (.int i3), some (.int (hq_68 (hq_55 S (Int32.ofInt 0)) v4).1), some (.int v5), some (.int v6), some (.int v7)]) (st' := [.ref 0, .int v5]) rfl rfl ?_
        refine hp_gf (pc' := 65) rfl (by decide) (hp_c0 X _) rfl rfl ?_
        refine hp_iv (virt := true) (pc' := 68) (rv := some (.int (hq_190 (hq_200 ((hq_68 (hq_55 S (Int32.ofInt 0)) v4).2) 10 (Int32.ofInt 24)) 10))) (M1 := hp_mem X (hq_200 ((hq_68 (hq_55 S (Int32.ofInt 0)) v4).2) 10 (Int32.ofInt 24))) rfl rfl (by decide) (hk_190 (Or.inr (Or.inl rfl)) (hq_200 ((hq_68 (hq_55 S (Int32.ofInt 0)) v4).2) 10 (Int32.ofInt 24))) rfl rfl ?_
        show hp_T _ 34 68 _ [.int (hq_190 (hq_200 ((hq_68 (hq_55 S (Int32.ofInt 0)) v4).2) 10 (Int32.ofInt 24)) 10), .int v5] _ _ _
        refine hp_iv (virt := false) (pc' := 71) (rv := some (.int (hq_216 (hq_200 ((hq_68 (hq_55 S (Int32.ofInt 0)) v4).2) 10 (Int32.ofInt 24)) (hq_190 (hq_200 ((hq_68 (hq_55 S (Int32.ofInt 0)) v4).2) 10 (Int32.ofInt 24)) 10)))) (M1 := hp_mem X (hq_200 ((hq_68 (hq_55 S (Int32.ofInt 0)) v4).2) 10 (Int32.ofInt 24))) rfl rfl (by decide) (hk_216 (hq_200 ((hq_68 (hq_55 S (Int32.ofInt 0)) v4).2) 10 (Int32.ofInt 24)) ((hq_190 (hq_200 ((hq_68 (hq_55 S (Int32.ofInt 0)) v4).2) 10 (Int32.ofInt 24)) 10))) rfl rfl ?_
        show hp_T _ 34 71 _ [.int (hq_216 (hq_200 ((hq_68 (hq_55 S (Int32.ofInt 0)) v4).2) 10 (Int32.ofInt 24)) (hq_190 (hq_200 ((hq_68 (hq_55 S (Int32.ofInt 0)) v4).2) 10 (Int32.ofInt 24)) 10)), .int v5] _ _ _
        refine hp_sN [72] (pc' := 72) (L' := [some (.ref 0), some (.int i1), some (.int i2), some (.int i3), some (.int (hq_68 (hq_55 S (Int32.ofInt 0)) v4).1), some (.int v5), some (.int v6), some (.int v7)]) (st' := [.ref 0, .int (hq_216 (hq_200 ((hq_68 (hq_55 S (Int32.ofInt 0)) v4).2) 10 (Int32.ofInt 24)) (hq_190 (hq_200 ((hq_68 (hq_55 S (Int32.ofInt 0)) v4).2) 10 (Int32.ofInt 24)) 10)), .int v5]) rfl rfl ?_
        refine hp_gf (pc' := 75) rfl (by decide) (hp_c0 X _) rfl rfl ?_
        refine hp_iv (virt := true) (pc' := 78) (rv := some (.int (hq_190 (hq_200 ((hq_68 (hq_55 S (Int32.ofInt 0)) v4).2) 10 (Int32.ofInt 24)) 1))) (M1 := hp_mem X (hq_200 ((hq_68 (hq_55 S (Int32.ofInt 0)) v4).2) 10 (Int32.ofInt 24))) rfl rfl (by decide) (hk_190 (Or.inl rfl) (hq_200 ((hq_68 (hq_55 S (Int32.ofInt 0)) v4).2) 10 (Int32.ofInt 24))) rfl rfl ?_
        show hp_T _ 34 78 _ [.int (hq_190 (hq_200 ((hq_68 (hq_55 S (Int32.ofInt 0)) v4).2) 10 (Int32.ofInt 24)) 1), .int (hq_216 (hq_200 ((hq_68 (hq_55 S (Int32.ofInt 0)) v4).2) 10 (Int32.ofInt 24)) (hq_190 (hq_200 ((hq_68 (hq_55 S (Int32.ofInt 0)) v4).2) 10 (Int32.ofInt 24)) 10)), .int v5] _ _ _
        refine hp_iv (virt := false) (pc' := 81) (rv := some (.int (hq_216 (hq_200 ((hq_68 (hq_55 S (Int32.ofInt 0)) v4).2) 10 (Int32.ofInt 24)) (hq_190 (hq_200 ((hq_68 (hq_55 S (Int32.ofInt 0)) v4).2) 10 (Int32.ofInt 24)) 1)))) (M1 := hp_mem X (hq_200 ((hq_68 (hq_55 S (Int32.ofInt 0)) v4).2) 10 (Int32.ofInt 24))) rfl rfl (by decide) (hk_216 (hq_200 ((hq_68 (hq_55 S (Int32.ofInt 0)) v4).2) 10 (Int32.ofInt 24)) ((hq_190 (hq_200 ((hq_68 (hq_55 S (Int32.ofInt 0)) v4).2) 10 (Int32.ofInt 24)) 1))) rfl rfl ?_
        show hp_T _ 34 81 _ [.int (hq_216 (hq_200 ((hq_68 (hq_55 S (Int32.ofInt 0)) v4).2) 10 (Int32.ofInt 24)) (hq_190 (hq_200 ((hq_68 (hq_55 S (Int32.ofInt 0)) v4).2) 10 (Int32.ofInt 24)) 1)), .int (hq_216 (hq_200 ((hq_68 (hq_55 S (Int32.ofInt 0)) v4).2) 10 (Int32.ofInt 24)) (hq_190 (hq_200 ((hq_68 (hq_55 S (Int32.ofInt 0)) v4).2) 10 (Int32.ofInt 24)) 10)), .int v5] _ _ _
        refine hp_sN [82, 83, 85, 87, 88] (pc' := 88) (L' := [some (.ref 0), some (.int i1), some (.int i2), some (.int i3), some (.int (hq_68 (hq_55 S (Int32.ofInt 0)) v4).1), some (.int (v5 + ((hq_216 (hq_200 ((hq_68 (hq_55 S (Int32.ofInt 0)) v4).2) 10 (Int32.ofInt 24)) (hq_190 (hq_200 ((hq_68 (hq_55 S (Int32.ofInt 0)) v4).2) 10 (Int32.ofInt 24)) 10)) - (hq_216 (hq_200 ((hq_68 (hq_55 S (Int32.ofInt 0)) v4).2) 10 (Int32.ofInt 24)) (hq_190 (hq_200 ((hq_68 (hq_55 S (Int32.ofInt 0)) v4).2) 10 (Int32.ofInt 24)) 1))))), some (.int v6), some (.int v7)]) (st' := [.ref 0, .int v6]) rfl rfl ?_
        refine hp_gf (pc' := 91) rfl (by decide) (hp_c0 X _) rfl rfl ?_
        refine hp_iv (virt := true) (pc' := 94) (rv := some (.int (hq_189 (hq_200 ((hq_68 (hq_55 S (Int32.ofInt 0)) v4).2) 10 (Int32.ofInt 24)) 10))) (M1 := hp_mem X (hq_200 ((hq_68 (hq_55 S (Int32.ofInt 0)) v4).2) 10 (Int32.ofInt 24))) rfl rfl (by decide) (hk_189 (Or.inr (Or.inl rfl)) (hq_200 ((hq_68 (hq_55 S (Int32.ofInt 0)) v4).2) 10 (Int32.ofInt 24))) rfl rfl ?_
        show hp_T _ 34 94 _ [.int (hq_189 (hq_200 ((hq_68 (hq_55 S (Int32.ofInt 0)) v4).2) 10 (Int32.ofInt 24)) 10), .int v6] _ _ _
        refine hp_sB 95 [97, 100, 31] (pc' := 31) (L' := [some (.ref 0), some (.int i1), some (.int i2), some (.int i3), some (.int (hq_68 (hq_55 S (Int32.ofInt 0)) v4).1), some (.int (v5 + ((hq_216 (hq_200 ((hq_68 (hq_55 S (Int32.ofInt 0)) v4).2) 10 (Int32.ofInt 24)) (hq_190 (hq_200 ((hq_68 (hq_55 S (Int32.ofInt 0)) v4).2) 10 (Int32.ofInt 24)) 10)) - (hq_216 (hq_200 ((hq_68 (hq_55 S (Int32.ofInt 0)) v4).2) 10 (Int32.ofInt 24)) (hq_190 (hq_200 ((hq_68 (hq_55 S (Int32.ofInt 0)) v4).2) 10 (Int32.ofInt 24)) 1))))), some (.int (v6 ||| (hq_189 (hq_200 ((hq_68 (hq_55 S (Int32.ofInt 0)) v4).2) 10 (Int32.ofInt 24)) 10))), some (.int (v7 + (Int32.ofInt 1)))]) (st' := []) rfl rfl ?_
        exact ih (Nat.le_trans (Nat.le_succ n) hN) m (hq_200 ((hq_68 (hq_55 S (Int32.ofInt 0)) v4).2) 10 (Int32.ofInt 24)) ((hq_68 (hq_55 S (Int32.ofInt 0)) v4).1) ((v5 + ((hq_216 (hq_200 ((hq_68 (hq_55 S (Int32.ofInt 0)) v4).2) 10 (Int32.ofInt 24)) (hq_190 (hq_200 ((hq_68 (hq_55 S (Int32.ofInt 0)) v4).2) 10 (Int32.ofInt 24)) 10)) - (hq_216 (hq_200 ((hq_68 (hq_55 S (Int32.ofInt 0)) v4).2) 10 (Int32.ofInt 24)) (hq_190 (hq_200 ((hq_68 (hq_55 S (Int32.ofInt 0)) v4).2) 10 (Int32.ofInt 24)) 1))))) ((v6 ||| (hq_189 (hq_200 ((hq_68 (hq_55 S (Int32.ofInt 0)) v4).2) 10 (Int32.ofInt 24)) 10))) ((v7 + (Int32.ofInt 1))) Z (hp_up h1 hm) hZ kk
set_option maxRecDepth 10000 in
theorem ht_34 {X : hp_X} (S : hp_S) (i1 : Int32) (i2 : Int32) (i3 : Int32) (n : Nat) : hp_T n 34 0 [some (.ref 0), some (.int i1), some (.int i2), some (.int i3), none, none, none, none] [] (hp_mem X S) (hp_is X) (hq_34 S i1 i2 i3) := by
  unfold hq_34
  refine hp_sN [1, 2, 4] (pc' := 4) (L' := [some (.ref 0), some (.int i1), some (.int i2), some (.int i3), none, none, none, none]) (st' := [.int (Int32.ofInt 20), .int (Int32.ofInt 1), .int i1]) rfl rfl ?_
  refine hp_iv (virt := false) (pc' := 7) (rv := some (.int (hq_44 S i1 (Int32.ofInt 1) (Int32.ofInt 20)))) (M1 := hp_mem X (S)) rfl rfl (by decide) (hk_44 S (i1) ((Int32.ofInt 1)) ((Int32.ofInt 20))) rfl rfl ?_
  show hp_T _ 34 7 _ [.int (hq_44 S i1 (Int32.ofInt 1) (Int32.ofInt 20))] _ _ _
  refine hp_if (pc' := 10) rfl rfl (fun h1 => ?_) (fun h1 => ?_)
  · refine hp_sN [18] (pc' := 18) (L' := [some (.ref 0), some (.int i1), some (.int i2), some (.int i3), none, none, none, none]) (st' := [.int (Int32.ofInt (-1))]) rfl rfl ?_
    exact hp_Ris rfl
  · refine hp_sN [11] (pc' := 11) (L' := [some (.ref 0), some (.int i1), some (.int i2), some (.int i3), none, none, none, none]) (st' := [.int i3]) rfl rfl ?_
    refine hp_iv (virt := false) (pc' := 14) (rv := some (.int (hq_45 S i3))) (M1 := hp_mem X (S)) rfl rfl (by decide) (hk_45 S (i3)) rfl rfl ?_
    show hp_T _ 34 14 _ [.int (hq_45 S i3)] _ _ _
    refine hp_if (pc' := 17) rfl rfl (fun h2 => ?_) (fun h2 => ?_)
    · refine hp_sN [20, 22, 23, 25, 26, 28, 29, 31] (pc' := 31) (L' := [some (.ref 0), some (.int i1), some (.int i2), some (.int i3), some (.int i2), some (.int (Int32.ofInt 0)), some (.int (Int32.ofInt 0)), some (.int (Int32.ofInt 0))]) (st' := []) rfl rfl ?_
      refine ht_34_31 n i1 i2 i3  n (Nat.le_refl _) ((i1.toInt - (Int32.ofInt 0).toInt).toNat + 1) S (i2) ((Int32.ofInt 0)) ((Int32.ofInt 0)) ((Int32.ofInt 0))  _ (Nat.lt_succ_self _) rfl (fun x4_31 x7_31 => ?_)
      show hp_T _ 34 103 [some (.ref 0), some (.int i1), some (.int i2), some (.int i3), x4_31, some (.int (hq_34_31 i1 i2 i3 ((i1.toInt - (Int32.ofInt 0).toInt).toNat + 1) S (i2) ((Int32.ofInt 0)) ((Int32.ofInt 0)) ((Int32.ofInt 0))).2.1), some (.int (hq_34_31 i1 i2 i3 ((i1.toInt - (Int32.ofInt 0).toInt).toNat + 1) S (i2) ((Int32.ofInt 0)) ((Int32.ofInt 0)) ((Int32.ofInt 0))).2.2), x7_31] _ (hp_mem X ((hq_34_31 i1 i2 i3 ((i1.toInt - (Int32.ofInt 0).toInt).toNat + 1) S (i2) ((Int32.ofInt 0)) ((Int32.ofInt 0)) ((Int32.ofInt 0))).1)) _ _
      refine hp_sN [104] (pc' := 104) (L' := [some (.ref 0), some (.int i1), some (.int i2), some (.int i3), x4_31, some (.int (hq_34_31 i1 i2 i3 ((i1.toInt - (Int32.ofInt 0).toInt).toNat + 1) S (i2) ((Int32.ofInt 0)) ((Int32.ofInt 0)) ((Int32.ofInt 0))).2.1), some (.int (hq_34_31 i1 i2 i3 ((i1.toInt - (Int32.ofInt 0).toInt).toNat + 1) S (i2) ((Int32.ofInt 0)) ((Int32.ofInt 0)) ((Int32.ofInt 0))).2.2), x7_31]) (st' := [.int i3]) rfl rfl ?_
      refine hp_if (pc' := 107) rfl rfl (fun h3 => ?_) (fun h3 => ?_)
      · refine hp_sN [114] (pc' := 114) (L' := [some (.ref 0), some (.int i1), some (.int i2), some (.int i3), x4_31, some (.int (hq_34_31 i1 i2 i3 ((i1.toInt - (Int32.ofInt 0).toInt).toNat + 1) S (i2) ((Int32.ofInt 0)) ((Int32.ofInt 0)) ((Int32.ofInt 0))).2.1), some (.int (hq_34_31 i1 i2 i3 ((i1.toInt - (Int32.ofInt 0).toInt).toNat + 1) S (i2) ((Int32.ofInt 0)) ((Int32.ofInt 0)) ((Int32.ofInt 0))).2.2), x7_31]) (st' := [.int (hq_34_31 i1 i2 i3 ((i1.toInt - (Int32.ofInt 0).toInt).toNat + 1) S (i2) ((Int32.ofInt 0)) ((Int32.ofInt 0)) ((Int32.ofInt 0))).2.2]) rfl rfl ?_
        exact hp_Ris rfl
      · refine hp_sN [109, 114] (pc' := 114) (L' := [some (.ref 0), some (.int i1), some (.int i2), some (.int i3), x4_31, some (.int (hq_34_31 i1 i2 i3 ((i1.toInt - (Int32.ofInt 0).toInt).toNat + 1) S (i2) ((Int32.ofInt 0)) ((Int32.ofInt 0)) ((Int32.ofInt 0))).2.1), some (.int (hq_34_31 i1 i2 i3 ((i1.toInt - (Int32.ofInt 0).toInt).toNat + 1) S (i2) ((Int32.ofInt 0)) ((Int32.ofInt 0)) ((Int32.ofInt 0))).2.2), x7_31]) (st' := [.int (hq_34_31 i1 i2 i3 ((i1.toInt - (Int32.ofInt 0).toInt).toNat + 1) S (i2) ((Int32.ofInt 0)) ((Int32.ofInt 0)) ((Int32.ofInt 0))).2.1]) rfl rfl ?_
        exact hp_Ris rfl
    · refine hp_sN [18] (pc' := 18) (L' := [some (.ref 0), some (.int i1), some (.int i2), some (.int i3), none, none, none, none]) (st' := [.int (Int32.ofInt (-1))]) rfl rfl ?_
      exact hp_Ris rfl
theorem hk_34 {X : hp_X} (S : hp_S) (i1 : Int32) (i2 : Int32) (i3 : Int32) : hp_K 34 [.ref 0, .int i1, .int i2, .int i3] (hp_mem X S) (hp_is X) (hq_34 S i1 i2 i3) := by
  refine hp_mk (q := hzq_34) rfl (by decide) (L := [some (.ref 0), some (.int i1), some (.int i2), some (.int i3), none, none, none, none]) rfl (fun n => ?_)
  exact ht_34 S i1 i2 i3 n
/-! 35: HatsOfTheWind.image()I -/
def hq_35_16 (S : hp_S) : Int32 × hp_S := ((S 1 3), S)
def hq_35_11 (S : hp_S) : Int32 × hp_S := (hq_35_16 (hp_w S 0 3 (Int32.ofInt 1)) )
def hq_35 (S : hp_S) : Int32 × hp_S := (hq_35_11 (hq_180 S 19 1) )
theorem hf_35_16 (S : hp_S) (j : Nat) (z0 : j ≠ (19 + 1)) (z1 : j ≠ 19) (z2 : j ≠ (19 + 2)) (z3 : j ≠ (19 + 3)) (z4 : j ≠ (19 + 4)) (z5 : j ≠ (19 + 5)) (z6 : j ≠ (19 + 6)) (z7 : j ≠ (19 + 7)) (z8 : j ≠ (19 + 8)) (z9 : j ≠ 0) : (hq_35_16 S).2 j = S j := by
  unfold hq_35_16
  repeat' split
  all_goals simp [hp_wo, hp_wgo, hp_cpo, hf_180, z0, z1, z2, z3, z4, z5, z6, z7, z8, z9]
theorem hf_35_11 (S : hp_S) (j : Nat) (z0 : j ≠ (19 + 1)) (z1 : j ≠ 19) (z2 : j ≠ (19 + 2)) (z3 : j ≠ (19 + 3)) (z4 : j ≠ (19 + 4)) (z5 : j ≠ (19 + 5)) (z6 : j ≠ (19 + 6)) (z7 : j ≠ (19 + 7)) (z8 : j ≠ (19 + 8)) (z9 : j ≠ 0) : (hq_35_11 S).2 j = S j := by
  unfold hq_35_11
  repeat' split
  all_goals simp [hp_wo, hp_wgo, hp_cpo, hf_180, z0, z1, z2, z3, z4, z5, z6, z7, z8, z9, hf_35_16]
theorem hf_35 (S : hp_S) (j : Nat) (z0 : j ≠ (19 + 1)) (z1 : j ≠ 19) (z2 : j ≠ (19 + 2)) (z3 : j ≠ (19 + 3)) (z4 : j ≠ (19 + 4)) (z5 : j ≠ (19 + 5)) (z6 : j ≠ (19 + 6)) (z7 : j ≠ (19 + 7)) (z8 : j ≠ (19 + 8)) (z9 : j ≠ 0) : (hq_35 S).2 j = S j := by
  unfold hq_35
  repeat' split
  all_goals simp [hp_wo, hp_wgo, hp_cpo, hf_180, z0, z1, z2, z3, z4, z5, z6, z7, z8, z9, hf_35_16, hf_35_11]
set_option maxRecDepth 10000 in
theorem ht_35_16 {X : hp_X} (S : hp_S) (n : Nat) : hp_T n 35 16 [some (.ref 0)] [] (hp_mem X S) (hp_is X) (hq_35_16 S) := by
  unfold hq_35_16
  refine hp_sN [17] (pc' := 17) (L' := [some (.ref 0)]) (st' := [.ref 0]) rfl rfl ?_
  refine hp_gf (pc' := 20) rfl (by decide) (hp_c0 X _) rfl rfl ?_
  refine hp_gf (pc' := 23) rfl (hp_bl (Or.inl rfl) 0 (by decide)) (hp_b0 (Or.inl rfl) X _) rfl rfl ?_
  exact hp_Ris rfl
set_option maxRecDepth 10000 in
theorem ht_35_11 {X : hp_X} (S : hp_S) (n : Nat) : hp_T n 35 11 [some (.ref 0)] [] (hp_mem X S) (hp_is X) (hq_35_11 S) := by
  unfold hq_35_11
  refine hp_sN [12, 13] (pc' := 13) (L' := [some (.ref 0)]) (st' := [.int (Int32.ofInt 1), .ref 0]) rfl rfl ?_
  refine hp_pf (pc' := 16) rfl (by decide) (hp_c0 X _) (hp_w0 X _ _) rfl ?_
  exact ht_35_16 (hp_w S 0 3 (Int32.ofInt 1))   n
set_option maxRecDepth 10000 in
theorem ht_35 {X : hp_X} (S : hp_S) (n : Nat) : hp_T n 35 0 [some (.ref 0)] [] (hp_mem X S) (hp_is X) (hq_35 S) := by
  unfold hq_35
  refine hp_sN [1] (pc' := 1) (L' := [some (.ref 0)]) (st' := [.ref 0]) rfl rfl ?_
  refine hp_gf (pc' := 4) rfl (by decide) (hp_c0 X _) rfl rfl ?_
  refine hp_sN [5] (pc' := 5) (L' := [some (.ref 0)]) (st' := [.ref 0, .ref 19]) rfl rfl ?_
  refine hp_gf (pc' := 8) rfl (by decide) (hp_c0 X _) rfl rfl ?_
  refine hp_iv (virt := true) (pc' := 11) (rv := none) (M1 := hp_mem X (hq_180 S 19 1)) rfl rfl (by decide) (hk_180 (Or.inr (Or.inr rfl)) (Or.inl rfl) S) rfl rfl ?_
  show hp_T _ 35 11 _ [] _ _ _
  exact ht_35_11 (hq_180 S 19 1)   n
theorem hk_35 {X : hp_X} (S : hp_S) : hp_K 35 [.ref 0] (hp_mem X S) (hp_is X) (hq_35 S) := by
  refine hp_mk (q := hzq_35) rfl (by decide) (L := [some (.ref 0)]) rfl (fun n => ?_)
  exact ht_35 S n
/-! 36: HatsOfTheWind.restore()I -/
def hq_36_21 (S : hp_S) : Int32 × hp_S := ((S 1 3), S)
def hq_36 (S : hp_S) : Int32 × hp_S := (if hz_cmp .ne (S 0 3) 0 = true then (hq_36_21 (hq_180 S 1 19) ) else ((Int32.ofInt (-3)), S))
theorem hf_36_21 (S : hp_S) (j : Nat) (z0 : j ≠ (1 + 1)) (z1 : j ≠ 1) (z2 : j ≠ (1 + 2)) (z3 : j ≠ (1 + 3)) (z4 : j ≠ (1 + 4)) (z5 : j ≠ (1 + 5)) (z6 : j ≠ (1 + 6)) (z7 : j ≠ (1 + 7)) (z8 : j ≠ (1 + 8)) : (hq_36_21 S).2 j = S j := by
  unfold hq_36_21
  repeat' split
  all_goals simp [hp_wo, hp_wgo, hp_cpo, hf_180, z0, z1, z2, z3, z4, z5, z6, z7, z8]
theorem hf_36 (S : hp_S) (j : Nat) (z0 : j ≠ (1 + 1)) (z1 : j ≠ 1) (z2 : j ≠ (1 + 2)) (z3 : j ≠ (1 + 3)) (z4 : j ≠ (1 + 4)) (z5 : j ≠ (1 + 5)) (z6 : j ≠ (1 + 6)) (z7 : j ≠ (1 + 7)) (z8 : j ≠ (1 + 8)) : (hq_36 S).2 j = S j := by
  unfold hq_36
  repeat' split
  all_goals simp [hp_wo, hp_wgo, hp_cpo, hf_180, z0, z1, z2, z3, z4, z5, z6, z7, z8, hf_36_21]
set_option maxRecDepth 10000 in
theorem ht_36_21 {X : hp_X} (S : hp_S) (n : Nat) : hp_T n 36 21 [some (.ref 0)] [] (hp_mem X S) (hp_is X) (hq_36_21 S) := by
  unfold hq_36_21
  refine hp_sN [22] (pc' := 22) (L' := [some (.ref 0)]) (st' := [.ref 0]) rfl rfl ?_
  refine hp_gf (pc' := 25) rfl (by decide) (hp_c0 X _) rfl rfl ?_
  refine hp_gf (pc' := 28) rfl (hp_bl (Or.inl rfl) 0 (by decide)) (hp_b0 (Or.inl rfl) X _) rfl rfl ?_
  exact hp_Ris rfl
set_option maxRecDepth 10000 in
theorem ht_36 {X : hp_X} (S : hp_S) (n : Nat) : hp_T n 36 0 [some (.ref 0)] [] (hp_mem X S) (hp_is X) (hq_36 S) := by
  unfold hq_36
  refine hp_sN [1] (pc' := 1) (L' := [some (.ref 0)]) (st' := [.ref 0]) rfl rfl ?_
  refine hp_gf (pc' := 4) rfl (by decide) (hp_c0 X _) rfl rfl ?_
  refine hp_if (pc' := 7) rfl rfl (fun h1 => ?_) (fun h1 => ?_)
  · refine hp_sN [11] (pc' := 11) (L' := [some (.ref 0)]) (st' := [.ref 0]) rfl rfl ?_
    refine hp_gf (pc' := 14) rfl (by decide) (hp_c0 X _) rfl rfl ?_
    refine hp_sN [15] (pc' := 15) (L' := [some (.ref 0)]) (st' := [.ref 0, .ref 1]) rfl rfl ?_
    refine hp_gf (pc' := 18) rfl (by decide) (hp_c0 X _) rfl rfl ?_
    refine hp_iv (virt := true) (pc' := 21) (rv := none) (M1 := hp_mem X (hq_180 S 1 19)) rfl rfl (by decide) (hk_180 (Or.inl rfl) (Or.inr (Or.inr rfl)) S) rfl rfl ?_
    show hp_T _ 36 21 _ [] _ _ _
    exact ht_36_21 (hq_180 S 1 19)   n
  · refine hp_sN [9] (pc' := 9) (L' := [some (.ref 0)]) (st' := [.int (Int32.ofInt (-3))]) rfl rfl ?_
    exact hp_Ris rfl
theorem hk_36 {X : hp_X} (S : hp_S) : hp_K 36 [.ref 0] (hp_mem X S) (hp_is X) (hq_36 S) := by
  refine hp_mk (q := hzq_36) rfl (by decide) (L := [some (.ref 0)]) rfl (fun n => ?_)
  exact ht_36 S n

/-! 37: HatsOfTheWind.count(I)I -/
def hq_37 (S : hp_S) (i1 : Int32) : Int32 := (if i1 = (Int32.ofInt 0) then (S 1 4) else (if i1 = (Int32.ofInt 1) then (S 1 8) else (if i1 = (Int32.ofInt 2) then (S 1 2) else (if i1 = (Int32.ofInt 3) then (S 1 3) else (if i1 = (Int32.ofInt 4) then (hq_189 S 1) else (if i1 = (Int32.ofInt 5) then (hq_190 S 1) else (if i1 = (Int32.ofInt 6) then (S 1 1) else (Int32.ofInt (-1)))))))))
set_option maxRecDepth 10000 in
theorem ht_37 {X : hp_X} (S : hp_S) (i1 : Int32) (n : Nat) : hp_T n 37 0 [some (.ref 0), some (.int i1)] [] (hp_mem X S) (hp_i X S) (hq_37 S i1) := by
  unfold hq_37
  refine hp_sN [1] (pc' := 1) (L' := [some (.ref 0), some (.int i1)]) (st' := [.int i1]) rfl rfl ?_
  refine hp_st (c := 0) (t := 44) rfl (by decide) (by decide) rfl (fun h1 => ?_) (fun h2 => ?_)
  · refine hp_sN [45] (pc' := 45) (L' := [some (.ref 0), some (.int i1)]) (st' := [.ref 0]) rfl rfl ?_
    refine hp_gf (pc' := 48) rfl (by decide) (hp_c0 X _) rfl rfl ?_
    refine hp_gf (pc' := 51) rfl (hp_bl (Or.inl rfl) 0 (by decide)) (hp_b0 (Or.inl rfl) X _) rfl rfl ?_
    exact hp_Ri rfl
  refine hp_st (c := 1) (t := 52) rfl (by decide) (by decide) rfl (fun h3 => ?_) (fun h4 => ?_)
  · refine hp_sN [53] (pc' := 53) (L' := [some (.ref 0), some (.int i1)]) (st' := [.ref 0]) rfl rfl ?_
    refine hp_gf (pc' := 56) rfl (by decide) (hp_c0 X _) rfl rfl ?_
    refine hp_gf (pc' := 59) rfl (hp_bl (Or.inl rfl) 0 (by decide)) (hp_b0 (Or.inl rfl) X _) rfl rfl ?_
    exact hp_Ri rfl
  refine hp_st (c := 2) (t := 60) rfl (by decide) (by decide) rfl (fun h5 => ?_) (fun h6 => ?_)
  · refine hp_sN [61] (pc' := 61) (L' := [some (.ref 0), some (.int i1)]) (st' := [.ref 0]) rfl rfl ?_
    refine hp_gf (pc' := 64) rfl (by decide) (hp_c0 X _) rfl rfl ?_
    refine hp_gf (pc' := 67) rfl (hp_bl (Or.inl rfl) 0 (by decide)) (hp_b0 (Or.inl rfl) X _) rfl rfl ?_
    exact hp_Ri rfl
  refine hp_st (c := 3) (t := 68) rfl (by decide) (by decide) rfl (fun h7 => ?_) (fun h8 => ?_)
  · refine hp_sN [69] (pc' := 69) (L' := [some (.ref 0), some (.int i1)]) (st' := [.ref 0]) rfl rfl ?_
    refine hp_gf (pc' := 72) rfl (by decide) (hp_c0 X _) rfl rfl ?_
    refine hp_gf (pc' := 75) rfl (hp_bl (Or.inl rfl) 0 (by decide)) (hp_b0 (Or.inl rfl) X _) rfl rfl ?_
    exact hp_Ri rfl
  refine hp_st (c := 4) (t := 76) rfl (by decide) (by decide) rfl (fun h9 => ?_) (fun h10 => ?_)
  · refine hp_sN [77] (pc' := 77) (L' := [some (.ref 0), some (.int i1)]) (st' := [.ref 0]) rfl rfl ?_
    refine hp_gf (pc' := 80) rfl (by decide) (hp_c0 X _) rfl rfl ?_
    refine hp_iv (virt := true) (pc' := 83) (rv := some (.int (hq_189 S 1))) (M1 := hp_mem X (S)) rfl rfl (by decide) (hk_189 (Or.inl rfl) S) rfl rfl ?_
    show hp_T _ 37 83 _ [.int (hq_189 S 1)] _ _ _
    exact hp_Ri rfl
  refine hp_st (c := 5) (t := 84) rfl (by decide) (by decide) rfl (fun h11 => ?_) (fun h12 => ?_)
  · refine hp_sN [85] (pc' := 85) (L' := [some (.ref 0), some (.int i1)]) (st' := [.ref 0]) rfl rfl ?_
    refine hp_gf (pc' := 88) rfl (by decide) (hp_c0 X _) rfl rfl ?_
    refine hp_iv (virt := true) (pc' := 91) (rv := some (.int (hq_190 S 1))) (M1 := hp_mem X (S)) rfl rfl (by decide) (hk_190 (Or.inl rfl) S) rfl rfl ?_
    show hp_T _ 37 91 _ [.int (hq_190 S 1)] _ _ _
    exact hp_Ri rfl
  refine hp_st (c := 6) (t := 92) rfl (by decide) (by decide) rfl (fun h13 => ?_) (fun h14 => ?_)
  · refine hp_sN [93] (pc' := 93) (L' := [some (.ref 0), some (.int i1)]) (st' := [.ref 0]) rfl rfl ?_
    refine hp_gf (pc' := 96) rfl (by decide) (hp_c0 X _) rfl rfl ?_
    refine hp_gf (pc' := 99) rfl (hp_bl (Or.inl rfl) 0 (by decide)) (hp_b0 (Or.inl rfl) X _) rfl rfl ?_
    exact hp_Ri rfl
  refine hp_td (t := 100) [0, 1, 2, 3, 4, 5, 6] rfl rfl rfl (by decide) (fun c q => ?_) ?_
  · simp only [List.mem_cons, List.not_mem_nil, or_false] at q
    omega
  refine hp_sN [101] (pc' := 101) (L' := [some (.ref 0), some (.int i1)]) (st' := [.int (Int32.ofInt (-1))]) rfl rfl ?_
  exact hp_Ri rfl
theorem hk_37 {X : hp_X} (S : hp_S) (i1 : Int32) : hp_K 37 [.ref 0, .int i1] (hp_mem X S) (hp_i X S) (hq_37 S i1) := by
  refine hp_mk (q := hzq_37) rfl (by decide) (L := [some (.ref 0), some (.int i1)]) rfl (fun n => ?_)
  exact ht_37 S i1 n
/-! 70: HatsOfTheWindModel.isIn(III)Z -/
def hq_70 (S : hp_S) (i1 : Int32) (i2 : Int32) (i3 : Int32) : Int32 := (if hz_cmp .lt i1 i2 = true then (Int32.ofInt 0) else (if hz_cmp .gt i1 i3 = true then (Int32.ofInt 0) else (Int32.ofInt 1)))
set_option maxRecDepth 10000 in
theorem ht_70 {X : hp_X} (S : hp_S) (i1 : Int32) (i2 : Int32) (i3 : Int32) (n : Nat) : hp_T n 70 0 [some (.int i1), some (.int i2), some (.int i3)] [] (hp_mem X S) (hp_i X S) (hq_70 S i1 i2 i3) := by
  unfold hq_70
  refine hp_sN [1, 2] (pc' := 2) (L' := [some (.int i1), some (.int i2), some (.int i3)]) (st' := [.int i2, .int i1]) rfl rfl ?_
  refine hp_ic (pc' := 5) rfl rfl (fun h1 => ?_) (fun h1 => ?_)
  · refine hp_sN [15] (pc' := 15) (L' := [some (.int i1), some (.int i2), some (.int i3)]) (st' := [.int (Int32.ofInt 0)]) rfl rfl ?_
    exact hp_Ri rfl
  · refine hp_sN [6, 7] (pc' := 7) (L' := [some (.int i1), some (.int i2), some (.int i3)]) (st' := [.int i3, .int i1]) rfl rfl ?_
    refine hp_ic (pc' := 10) rfl rfl (fun h2 => ?_) (fun h2 => ?_)
    · refine hp_sN [15] (pc' := 15) (L' := [some (.int i1), some (.int i2), some (.int i3)]) (st' := [.int (Int32.ofInt 0)]) rfl rfl ?_
      exact hp_Ri rfl
    · refine hp_sN [11, 15] (pc' := 15) (L' := [some (.int i1), some (.int i2), some (.int i3)]) (st' := [.int (Int32.ofInt 1)]) rfl rfl ?_
      exact hp_Ri rfl
theorem hk_70 {X : hp_X} (S : hp_S) (i1 : Int32) (i2 : Int32) (i3 : Int32) : hp_K 70 [.int i1, .int i2, .int i3] (hp_mem X S) (hp_i X S) (hq_70 S i1 i2 i3) := by
  refine hp_mk (q := hzq_70) rfl (by decide) (L := [some (.int i1), some (.int i2), some (.int i3)]) rfl (fun n => ?_)
  exact ht_70 S i1 i2 i3 n
/-! 71: HatsOfTheWindModel.least(II)I -/
def hq_71 (S : hp_S) (i1 : Int32) (i2 : Int32) : Int32 := (if hz_cmp .ge i1 i2 = true then i2 else i1)
set_option maxRecDepth 10000 in
theorem ht_71 {X : hp_X} (S : hp_S) (i1 : Int32) (i2 : Int32) (n : Nat) : hp_T n 71 0 [some (.int i1), some (.int i2)] [] (hp_mem X S) (hp_i X S) (hq_71 S i1 i2) := by
  unfold hq_71
  refine hp_sN [1, 2] (pc' := 2) (L' := [some (.int i1), some (.int i2)]) (st' := [.int i2, .int i1]) rfl rfl ?_
  refine hp_ic (pc' := 5) rfl rfl (fun h1 => ?_) (fun h1 => ?_)
  · refine hp_sN [10] (pc' := 10) (L' := [some (.int i1), some (.int i2)]) (st' := [.int i2]) rfl rfl ?_
    exact hp_Ri rfl
  · refine hp_sN [6, 10] (pc' := 10) (L' := [some (.int i1), some (.int i2)]) (st' := [.int i1]) rfl rfl ?_
    exact hp_Ri rfl
theorem hk_71 {X : hp_X} (S : hp_S) (i1 : Int32) (i2 : Int32) : hp_K 71 [.int i1, .int i2] (hp_mem X S) (hp_i X S) (hq_71 S i1 i2) := by
  refine hp_mk (q := hzq_71) rfl (by decide) (L := [some (.int i1), some (.int i2)]) rfl (fun n => ?_)
  exact ht_71 S i1 i2 n
/-! 72: HatsOfTheWindModel.apart(II)I -/
def hq_72 (S : hp_S) (i1 : Int32) (i2 : Int32) : Int32 := (if hz_cmp .ge i1 i2 = true then (i1 - i2) else (i2 - i1))
set_option maxRecDepth 10000 in
theorem ht_72 {X : hp_X} (S : hp_S) (i1 : Int32) (i2 : Int32) (n : Nat) : hp_T n 72 0 [some (.int i1), some (.int i2)] [] (hp_mem X S) (hp_i X S) (hq_72 S i1 i2) := by
  unfold hq_72
  refine hp_sN [1, 2] (pc' := 2) (L' := [some (.int i1), some (.int i2)]) (st' := [.int i2, .int i1]) rfl rfl ?_
  refine hp_ic (pc' := 5) rfl rfl (fun h1 => ?_) (fun h1 => ?_)
  · refine hp_sN [12, 13, 14] (pc' := 14) (L' := [some (.int i1), some (.int i2)]) (st' := [.int (i1 - i2)]) rfl rfl ?_
    exact hp_Ri rfl
  · refine hp_sN [6, 7, 8, 14] (pc' := 14) (L' := [some (.int i1), some (.int i2)]) (st' := [.int (i2 - i1)]) rfl rfl ?_
    exact hp_Ri rfl
theorem hk_72 {X : hp_X} (S : hp_S) (i1 : Int32) (i2 : Int32) : hp_K 72 [.int i1, .int i2] (hp_mem X S) (hp_i X S) (hq_72 S i1 i2) := by
  refine hp_mk (q := hzq_72) rfl (by decide) (L := [some (.int i1), some (.int i2)]) rfl (fun n => ?_)
  exact ht_72 S i1 i2 n
/-! 73: HatsOfTheWindModel.copies([I[I)V -/
def hq_73_2 (c : Nat) (c2 : Nat) : Nat → hp_S → Int32 → hp_S
  | 0, S, _ => S
  | m + 1, S, v2 => (if hz_cmp .ge v2 (Int32.ofInt 80) = true then S else hq_73_2 c c2 m (hp_wg 80 S c2 v2 (S c v2.toNatClampNeg)) (v2 + (Int32.ofInt 1)))
def hq_73 (S : hp_S) (c : Nat) (c2 : Nat) : hp_S := (hq_73_2 c c2 (((Int32.ofInt 80).toInt - (Int32.ofInt 0).toInt).toNat + 1) S ((Int32.ofInt 0)))
theorem hf_73_2 {c : Nat} {c2 : Nat} (j : Nat) (z0 : j ≠ c2) : ∀ (m : Nat) (S : hp_S) (v2 : Int32), (hq_73_2 c c2 m S v2) j = S j := by
  intro m
  induction m with
  | zero => intros; rfl
  | succ m ih =>
    intro S v2
    rw [hq_73_2]
    repeat' split
    all_goals simp [ih, hp_wo, hp_wgo, hp_cpo, z0]
theorem hf_73 {c : Nat} {c2 : Nat} (S : hp_S) (j : Nat) (z0 : j ≠ c2) : (hq_73 S c c2) j = S j := by
  unfold hq_73
  repeat' split
  all_goals simp [hp_wo, hp_wgo, hp_cpo, z0, hf_73_2]
set_option maxRecDepth 10000 in
theorem ht_73_2 {α : Type} {φ : α → Option Value × hzMem} {R : α} {X : hp_X} (N : Nat) {c : Nat} {c2 : Nat} (hc : hp_c c) (hc2 : hp_c c2) : ∀ (n : Nat), n ≤ N → ∀ (m : Nat) (S : hp_S) (v2 : Int32) (Z : hp_S), ((Int32.ofInt 80).toInt - v2.toInt).toNat < m → hq_73_2 c c2 m S v2 = Z → (∀ (x2 : Option Value), hp_T N 73 20 [some (.ref c), some (.ref c2), x2] [] (hp_mem X Z) φ R) → hp_T n 73 2 [some (.ref c), some (.ref c2), some (.int v2)] [] (hp_mem X S) φ R := by
  intro n
  induction n with
  | zero => intros; exact hp_0
  | succ n ih =>
    intro hN m S v2 Z hm hZ kk
    cases m with
    | zero => exact absurd hm (Nat.not_lt_zero _)
    | succ m =>
      rw [hq_73_2] at hZ
      refine hp_sN [3, 5] (pc' := 5) (L' := [some (.ref c), some (.ref c2), some (.int v2)]) (st' := [.int (Int32.ofInt 80), .int v2]) rfl rfl ?_
      refine hp_ic2 (pc' := 8) rfl rfl (fun h1 => ?_) (fun h1 => ?_)
      · rw [if_pos h1] at hZ
        subst hZ
        exact hp_le hN (kk (some (.int v2)))
      · rw [if_neg (hp_nt h1)] at hZ
        refine hp_sN [9, 10, 11, 12] (pc' := 12) (L' := [some (.ref c), some (.ref c2), some (.int v2)]) (st' := [.int v2, .ref c, .int v2, .ref c2]) rfl rfl ?_
        refine hp_al (pc' := 13) rfl (hp_cl hc) (hp_cc hc X _) rfl ?_
        refine hp_asg (pc' := 14) rfl (hp_cl hc2) (fun _ => (hp_cc hc2 X _)) rfl ?_
        refine hp_sB 17 [2] (pc' := 2) (L' := [some (.ref c), some (.ref c2), some (.int (v2 + (Int32.ofInt 1)))]) (st' := []) rfl rfl ?_
        exact ih (Nat.le_trans (Nat.le_succ n) hN) m (hp_wg 80 S c2 v2 (S c v2.toNatClampNeg)) ((v2 + (Int32.ofInt 1))) Z (hp_up h1 hm) hZ kk
set_option maxRecDepth 10000 in
theorem ht_73 {X : hp_X} {c : Nat} {c2 : Nat} (hc : hp_c c) (hc2 : hp_c c2) (S : hp_S) (n : Nat) : hp_T n 73 0 [some (.ref c), some (.ref c2), none] [] (hp_mem X S) (hp_v X) (hq_73 S c c2) := by
  unfold hq_73
  refine hp_sN [1, 2] (pc' := 2) (L' := [some (.ref c), some (.ref c2), some (.int (Int32.ofInt 0))]) (st' := []) rfl rfl ?_
  refine ht_73_2 n hc hc2  n (Nat.le_refl _) (((Int32.ofInt 80).toInt - (Int32.ofInt 0).toInt).toNat + 1) S ((Int32.ofInt 0))  _ (Nat.lt_succ_self _) rfl (fun x2_2 => ?_)
  show hp_T _ 73 20 [some (.ref c), some (.ref c2), x2_2] _ (hp_mem X ((hq_73_2 c c2 (((Int32.ofInt 80).toInt - (Int32.ofInt 0).toInt).toNat + 1) S ((Int32.ofInt 0))))) _ _
  exact hp_Rv rfl
theorem hk_73 {X : hp_X} {c : Nat} {c2 : Nat} (hc : hp_c c) (hc2 : hp_c c2) (S : hp_S) : hp_K 73 [.ref c, .ref c2] (hp_mem X S) (hp_v X) (hq_73 S c c2) := by
  refine hp_mk (q := hzq_73) rfl (by decide) (L := [some (.ref c), some (.ref c2), none]) rfl (fun n => ?_)
  exact ht_73 hc hc2 S n
/-! 74: HatsOfTheWindModel.ofP(II)I -/
def hq_74 (S : hp_S) (i1 : Int32) (i2 : Int32) : Int32 := (((Int32.ofInt 30) + ((Int32.ofInt 3) * i1)) + i2)
set_option maxRecDepth 10000 in
theorem ht_74 {X : hp_X} (S : hp_S) (i1 : Int32) (i2 : Int32) (n : Nat) : hp_T n 74 0 [some (.int i1), some (.int i2)] [] (hp_mem X S) (hp_i X S) (hq_74 S i1 i2) := by
  unfold hq_74
  refine hp_sN [2, 3, 4, 5, 6, 7, 8] (pc' := 8) (L' := [some (.int i1), some (.int i2)]) (st' := [.int (((Int32.ofInt 30) + ((Int32.ofInt 3) * i1)) + i2)]) rfl rfl ?_
  exact hp_Ri rfl
theorem hk_74 {X : hp_X} (S : hp_S) (i1 : Int32) (i2 : Int32) : hp_K 74 [.int i1, .int i2] (hp_mem X S) (hp_i X S) (hq_74 S i1 i2) := by
  refine hp_mk (q := hzq_74) rfl (by decide) (L := [some (.int i1), some (.int i2)]) rfl (fun n => ?_)
  exact ht_74 S i1 i2 n
/-! 75: HatsOfTheWindModel.ofH(II)I -/
def hq_75 (S : hp_S) (i1 : Int32) (i2 : Int32) : Int32 := (((Int32.ofInt 48) + ((Int32.ofInt 4) * i1)) + i2)
set_option maxRecDepth 10000 in
theorem ht_75 {X : hp_X} (S : hp_S) (i1 : Int32) (i2 : Int32) (n : Nat) : hp_T n 75 0 [some (.int i1), some (.int i2)] [] (hp_mem X S) (hp_i X S) (hq_75 S i1 i2) := by
  unfold hq_75
  refine hp_sN [2, 3, 4, 5, 6, 7, 8] (pc' := 8) (L' := [some (.int i1), some (.int i2)]) (st' := [.int (((Int32.ofInt 48) + ((Int32.ofInt 4) * i1)) + i2)]) rfl rfl ?_
  exact hp_Ri rfl
theorem hk_75 {X : hp_X} (S : hp_S) (i1 : Int32) (i2 : Int32) : hp_K 75 [.int i1, .int i2] (hp_mem X S) (hp_i X S) (hq_75 S i1 i2) := by
  refine hp_mk (q := hzq_75) rfl (by decide) (L := [some (.int i1), some (.int i2)]) rfl (fun n => ?_)
  exact ht_75 S i1 i2 n
/-! 76: HatsOfTheWindModel.isPerson(I)Z -/
def hq_76 (S : hp_S) (i1 : Int32) : Int32 := (hq_70 S i1 (Int32.ofInt 0) ((S 48 (Int32.ofInt 0).toNatClampNeg) - (Int32.ofInt 1)))
set_option maxRecDepth 10000 in
theorem ht_76 {X : hp_X} (S : hp_S) (i1 : Int32) (n : Nat) : hp_T n 76 0 [some (.ref 47), some (.int i1)] [] (hp_mem X S) (hp_i X S) (hq_76 S i1) := by
  unfold hq_76
  refine hp_sN [1, 2, 3] (pc' := 3) (L' := [some (.ref 47), some (.int i1)]) (st' := [.ref 47, .int (Int32.ofInt 0), .int i1]) rfl rfl ?_
  refine hp_gf (pc' := 6) rfl (by decide) (hp_c47 X _) rfl rfl ?_
  refine hp_sN [7] (pc' := 7) (L' := [some (.ref 47), some (.int i1)]) (st' := [.int (Int32.ofInt 0), .ref 48, .int (Int32.ofInt 0), .int i1]) rfl rfl ?_
  refine hp_al (pc' := 8) rfl (hp_cl (Or.inl rfl)) (hp_cc (Or.inl rfl) X _) rfl ?_
  refine hp_sN [9, 10] (pc' := 10) (L' := [some (.ref 47), some (.int i1)]) (st' := [.int ((S 48 (Int32.ofInt 0).toNatClampNeg) - (Int32.ofInt 1)), .int (Int32.ofInt 0), .int i1]) rfl rfl ?_
  refine hp_iv (virt := false) (pc' := 13) (rv := some (.int (hq_70 S i1 (Int32.ofInt 0) ((S 48 (Int32.ofInt 0).toNatClampNeg) - (Int32.ofInt 1))))) (M1 := hp_mem X (S)) rfl rfl (by decide) (hk_70 S (i1) ((Int32.ofInt 0)) (((S 48 (Int32.ofInt 0).toNatClampNeg) - (Int32.ofInt 1)))) rfl rfl ?_
  show hp_T _ 76 13 _ [.int (hq_70 S i1 (Int32.ofInt 0) ((S 48 (Int32.ofInt 0).toNatClampNeg) - (Int32.ofInt 1)))] _ _ _
  exact hp_Ri rfl
theorem hk_76 {X : hp_X} (S : hp_S) (i1 : Int32) : hp_K 76 [.ref 47, .int i1] (hp_mem X S) (hp_i X S) (hq_76 S i1) := by
  refine hp_mk (q := hzq_76) rfl (by decide) (L := [some (.ref 47), some (.int i1)]) rfl (fun n => ?_)
  exact ht_76 S i1 n
/-! 77: HatsOfTheWindModel.isHat(I)Z -/
def hq_77 (S : hp_S) (i1 : Int32) : Int32 := (hq_70 S i1 (Int32.ofInt 0) ((S 48 (Int32.ofInt 1).toNatClampNeg) - (Int32.ofInt 1)))
set_option maxRecDepth 10000 in
theorem ht_77 {X : hp_X} (S : hp_S) (i1 : Int32) (n : Nat) : hp_T n 77 0 [some (.ref 47), some (.int i1)] [] (hp_mem X S) (hp_i X S) (hq_77 S i1) := by
  unfold hq_77
  refine hp_sN [1, 2, 3] (pc' := 3) (L' := [some (.ref 47), some (.int i1)]) (st' := [.ref 47, .int (Int32.ofInt 0), .int i1]) rfl rfl ?_
  refine hp_gf (pc' := 6) rfl (by decide) (hp_c47 X _) rfl rfl ?_
  refine hp_sN [7] (pc' := 7) (L' := [some (.ref 47), some (.int i1)]) (st' := [.int (Int32.ofInt 1), .ref 48, .int (Int32.ofInt 0), .int i1]) rfl rfl ?_
  refine hp_al (pc' := 8) rfl (hp_cl (Or.inl rfl)) (hp_cc (Or.inl rfl) X _) rfl ?_
  refine hp_sN [9, 10] (pc' := 10) (L' := [some (.ref 47), some (.int i1)]) (st' := [.int ((S 48 (Int32.ofInt 1).toNatClampNeg) - (Int32.ofInt 1)), .int (Int32.ofInt 0), .int i1]) rfl rfl ?_
  refine hp_iv (virt := false) (pc' := 13) (rv := some (.int (hq_70 S i1 (Int32.ofInt 0) ((S 48 (Int32.ofInt 1).toNatClampNeg) - (Int32.ofInt 1))))) (M1 := hp_mem X (S)) rfl rfl (by decide) (hk_70 S (i1) ((Int32.ofInt 0)) (((S 48 (Int32.ofInt 1).toNatClampNeg) - (Int32.ofInt 1)))) rfl rfl ?_
  show hp_T _ 77 13 _ [.int (hq_70 S i1 (Int32.ofInt 0) ((S 48 (Int32.ofInt 1).toNatClampNeg) - (Int32.ofInt 1)))] _ _ _
  exact hp_Ri rfl
theorem hk_77 {X : hp_X} (S : hp_S) (i1 : Int32) : hp_K 77 [.ref 47, .int i1] (hp_mem X S) (hp_i X S) (hq_77 S i1) := by
  refine hp_mk (q := hzq_77) rfl (by decide) (L := [some (.ref 47), some (.int i1)]) rfl (fun n => ?_)
  exact ht_77 S i1 n
/-! 78: HatsOfTheWindModel.isPlace(I)Z -/
def hq_78 (S : hp_S) (i1 : Int32) : Int32 := (hq_70 S i1 (Int32.ofInt 0) (Int32.ofInt 20))
set_option maxRecDepth 10000 in
theorem ht_78 {X : hp_X} (S : hp_S) (i1 : Int32) (n : Nat) : hp_T n 78 0 [some (.int i1)] [] (hp_mem X S) (hp_i X S) (hq_78 S i1) := by
  unfold hq_78
  refine hp_sN [1, 2, 4] (pc' := 4) (L' := [some (.int i1)]) (st' := [.int (Int32.ofInt 20), .int (Int32.ofInt 0), .int i1]) rfl rfl ?_
  refine hp_iv (virt := false) (pc' := 7) (rv := some (.int (hq_70 S i1 (Int32.ofInt 0) (Int32.ofInt 20)))) (M1 := hp_mem X (S)) rfl rfl (by decide) (hk_70 S (i1) ((Int32.ofInt 0)) ((Int32.ofInt 20))) rfl rfl ?_
  show hp_T _ 78 7 _ [.int (hq_70 S i1 (Int32.ofInt 0) (Int32.ofInt 20))] _ _ _
  exact hp_Ri rfl
theorem hk_78 {X : hp_X} (S : hp_S) (i1 : Int32) : hp_K 78 [.int i1] (hp_mem X S) (hp_i X S) (hq_78 S i1) := by
  refine hp_mk (q := hzq_78) rfl (by decide) (L := [some (.int i1)]) rfl (fun n => ?_)
  exact ht_78 S i1 n
/-! 79: HatsOfTheWindModel.has(II)Z -/
def hq_79 (S : hp_S) (i1 : Int32) (i2 : Int32) : Int32 := (if hz_cmp .ne ((i1 >>> (i2 &&& 31)) &&& (Int32.ofInt 1)) (Int32.ofInt 1) = true then (Int32.ofInt 0) else (Int32.ofInt 1))
set_option maxRecDepth 10000 in
theorem ht_79 {X : hp_X} (S : hp_S) (i1 : Int32) (i2 : Int32) (n : Nat) : hp_T n 79 0 [some (.int i1), some (.int i2)] [] (hp_mem X S) (hp_i X S) (hq_79 S i1 i2) := by
  unfold hq_79
  refine hp_sN [1, 2, 3, 4, 5, 6] (pc' := 6) (L' := [some (.int i1), some (.int i2)]) (st' := [.int (Int32.ofInt 1), .int ((i1 >>> (i2 &&& 31)) &&& (Int32.ofInt 1))]) rfl rfl ?_
  refine hp_ic (pc' := 9) rfl rfl (fun h1 => ?_) (fun h1 => ?_)
  · refine hp_sN [14] (pc' := 14) (L' := [some (.int i1), some (.int i2)]) (st' := [.int (Int32.ofInt 0)]) rfl rfl ?_
    exact hp_Ri rfl
  · refine hp_sN [10, 14] (pc' := 14) (L' := [some (.int i1), some (.int i2)]) (st' := [.int (Int32.ofInt 1)]) rfl rfl ?_
    exact hp_Ri rfl
theorem hk_79 {X : hp_X} (S : hp_S) (i1 : Int32) (i2 : Int32) : hp_K 79 [.int i1, .int i2] (hp_mem X S) (hp_i X S) (hq_79 S i1 i2) := by
  refine hp_mk (q := hzq_79) rfl (by decide) (L := [some (.int i1), some (.int i2)]) rfl (fun n => ?_)
  exact ht_79 S i1 i2 n
/-! 80: HatsOfTheWindModel.bits(I)I -/
def hq_80_4 (i1 : Int32) : Nat → hp_S → Int32 → Int32 → Int32
  | 0, S, _, _ => 0
  | m + 1, S, v1, v2 => (if hz_cmp .ge v2 (Int32.ofInt 21) = true then v1 else hq_80_4 i1 m S (v1 + ((i1 >>> (v2 &&& 31)) &&& (Int32.ofInt 1))) (v2 + (Int32.ofInt 1)))
def hq_80 (S : hp_S) (i1 : Int32) : Int32 := (hq_80_4 i1 (((Int32.ofInt 21).toInt - (Int32.ofInt 0).toInt).toNat + 1) S ((Int32.ofInt 0)) ((Int32.ofInt 0)))
set_option maxRecDepth 10000 in
theorem ht_80_4 {α : Type} {φ : α → Option Value × hzMem} {R : α} {X : hp_X} (N : Nat) (i1 : Int32) (S : hp_S) : ∀ (n : Nat), n ≤ N → ∀ (m : Nat) (v1 : Int32) (v2 : Int32) (Z : Int32), ((Int32.ofInt 21).toInt - v2.toInt).toNat < m → hq_80_4 i1 m S v1 v2 = Z → (∀ (x2 : Option Value), hp_T N 80 24 [some (.int i1), some (.int Z), x2] [] (hp_mem X S) φ R) → hp_T n 80 4 [some (.int i1), some (.int v1), some (.int v2)] [] (hp_mem X S) φ R := by
  intro n
  induction n with
  | zero => intros; exact hp_0
  | succ n ih =>
    intro hN m v1 v2 Z hm hZ kk
    cases m with
    | zero => exact absurd hm (Nat.not_lt_zero _)
    | succ m =>
      rw [hq_80_4] at hZ
      refine hp_sN [5, 7] (pc' := 7) (L' := [some (.int i1), some (.int v1), some (.int v2)]) (st' := [.int (Int32.ofInt 21), .int v2]) rfl rfl ?_
      refine hp_ic2 (pc' := 10) rfl rfl (fun h1 => ?_) (fun h1 => ?_)
      · rw [if_pos h1] at hZ
        subst hZ
        exact hp_le hN (kk (some (.int v2)))
      · rw [if_neg (hp_nt h1)] at hZ
        refine hp_sB 11 [12, 13, 14, 15, 16, 17, 18, 21, 4] (pc' := 4) (L' := [some (.int i1), some (.int (v1 + ((i1 >>> (v2 &&& 31)) &&& (Int32.ofInt 1)))), some (.int (v2 + (Int32.ofInt 1)))]) (st' := []) rfl rfl ?_
        exact ih (Nat.le_trans (Nat.le_succ n) hN) m ((v1 + ((i1 >>> (v2 &&& 31)) &&& (Int32.ofInt 1)))) ((v2 + (Int32.ofInt 1))) Z (hp_up h1 hm) hZ kk
set_option maxRecDepth 10000 in
theorem ht_80 {X : hp_X} (S : hp_S) (i1 : Int32) (n : Nat) : hp_T n 80 0 [some (.int i1), none, none] [] (hp_mem X S) (hp_i X S) (hq_80 S i1) := by
  unfold hq_80
  refine hp_sN [1, 2, 3, 4] (pc' := 4) (L' := [some (.int i1), some (.int (Int32.ofInt 0)), some (.int (Int32.ofInt 0))]) (st' := []) rfl rfl ?_
  refine ht_80_4 n i1 S n (Nat.le_refl _) (((Int32.ofInt 21).toInt - (Int32.ofInt 0).toInt).toNat + 1)  ((Int32.ofInt 0)) ((Int32.ofInt 0))  _ (Nat.lt_succ_self _) rfl (fun x2_4 => ?_)
  show hp_T _ 80 24 [some (.int i1), some (.int (hq_80_4 i1 (((Int32.ofInt 21).toInt - (Int32.ofInt 0).toInt).toNat + 1) S ((Int32.ofInt 0)) ((Int32.ofInt 0)))), x2_4] _ (hp_mem X S) _ _
  refine hp_sN [25] (pc' := 25) (L' := [some (.int i1), some (.int (hq_80_4 i1 (((Int32.ofInt 21).toInt - (Int32.ofInt 0).toInt).toNat + 1) S ((Int32.ofInt 0)) ((Int32.ofInt 0)))), x2_4]) (st' := [.int (hq_80_4 i1 (((Int32.ofInt 21).toInt - (Int32.ofInt 0).toInt).toNat + 1) S ((Int32.ofInt 0)) ((Int32.ofInt 0)))]) rfl rfl ?_
  exact hp_Ri rfl
theorem hk_80 {X : hp_X} (S : hp_S) (i1 : Int32) : hp_K 80 [.int i1] (hp_mem X S) (hp_i X S) (hq_80 S i1) := by
  refine hp_mk (q := hzq_80) rfl (by decide) (L := [some (.int i1), none, none]) rfl (fun n => ?_)
  exact ht_80 S i1 n
/-! 81: HatsOfTheWindModel.holds(II)I -/
def hq_81 (S : hp_S) (i1 : Int32) (i2 : Int32) : Int32 := (if i1 = (Int32.ofInt 1) then ((Int32.ofInt 3) + i2) else (if i1 = (Int32.ofInt 2) then ((Int32.ofInt 3) + (i2 / (Int32.ofInt 2))) else (if i1 = (Int32.ofInt 3) then (Int32.ofInt 2) else (if i1 = (Int32.ofInt 4) then ((Int32.ofInt 5) + i2) else (if i1 = (Int32.ofInt 5) then ((Int32.ofInt 1) + (i2 / (Int32.ofInt 2))) else (if i1 = (Int32.ofInt 6) then (Int32.ofInt 0) else (if i1 = (Int32.ofInt 7) then i2 else (Int32.ofInt 3))))))))
set_option maxRecDepth 10000 in
theorem ht_81 {X : hp_X} (S : hp_S) (i1 : Int32) (i2 : Int32) (n : Nat) : hp_T n 81 0 [some (.int i1), some (.int i2)] [] (hp_mem X S) (hp_i X S) (hq_81 S i1 i2) := by
  unfold hq_81
  refine hp_sN [1] (pc' := 1) (L' := [some (.int i1), some (.int i2)]) (st' := [.int i1]) rfl rfl ?_
  refine hp_st (c := 1) (t := 44) rfl (by decide) (by decide) rfl (fun h1 => ?_) (fun h2 => ?_)
  · refine hp_sN [45, 46, 47] (pc' := 47) (L' := [some (.int i1), some (.int i2)]) (st' := [.int ((Int32.ofInt 3) + i2)]) rfl rfl ?_
    exact hp_Ri rfl
  refine hp_st (c := 2) (t := 48) rfl (by decide) (by decide) rfl (fun h3 => ?_) (fun h4 => ?_)
  · refine hp_sN [49, 50, 51] (pc' := 51) (L' := [some (.int i1), some (.int i2)]) (st' := [.int (Int32.ofInt 2), .int i2, .int (Int32.ofInt 3)]) rfl rfl ?_
    refine hp_di (pc' := 52) rfl rfl ?_
    refine hp_sN [53] (pc' := 53) (L' := [some (.int i1), some (.int i2)]) (st' := [.int ((Int32.ofInt 3) + (i2 / (Int32.ofInt 2)))]) rfl rfl ?_
    exact hp_Ri rfl
  refine hp_st (c := 3) (t := 54) rfl (by decide) (by decide) rfl (fun h5 => ?_) (fun h6 => ?_)
  · refine hp_sN [55] (pc' := 55) (L' := [some (.int i1), some (.int i2)]) (st' := [.int (Int32.ofInt 2)]) rfl rfl ?_
    exact hp_Ri rfl
  refine hp_st (c := 4) (t := 56) rfl (by decide) (by decide) rfl (fun h7 => ?_) (fun h8 => ?_)
  · refine hp_sN [57, 58, 59] (pc' := 59) (L' := [some (.int i1), some (.int i2)]) (st' := [.int ((Int32.ofInt 5) + i2)]) rfl rfl ?_
    exact hp_Ri rfl
  refine hp_st (c := 5) (t := 60) rfl (by decide) (by decide) rfl (fun h9 => ?_) (fun h10 => ?_)
  · refine hp_sN [61, 62, 63] (pc' := 63) (L' := [some (.int i1), some (.int i2)]) (st' := [.int (Int32.ofInt 2), .int i2, .int (Int32.ofInt 1)]) rfl rfl ?_
    refine hp_di (pc' := 64) rfl rfl ?_
    refine hp_sN [65] (pc' := 65) (L' := [some (.int i1), some (.int i2)]) (st' := [.int ((Int32.ofInt 1) + (i2 / (Int32.ofInt 2)))]) rfl rfl ?_
    exact hp_Ri rfl
  refine hp_st (c := 6) (t := 66) rfl (by decide) (by decide) rfl (fun h11 => ?_) (fun h12 => ?_)
  · refine hp_sN [67] (pc' := 67) (L' := [some (.int i1), some (.int i2)]) (st' := [.int (Int32.ofInt 0)]) rfl rfl ?_
    exact hp_Ri rfl
  refine hp_st (c := 7) (t := 68) rfl (by decide) (by decide) rfl (fun h13 => ?_) (fun h14 => ?_)
  · refine hp_sN [69] (pc' := 69) (L' := [some (.int i1), some (.int i2)]) (st' := [.int i2]) rfl rfl ?_
    exact hp_Ri rfl
  refine hp_td (t := 70) [1, 2, 3, 4, 5, 6, 7] rfl rfl rfl (by decide) (fun c q => ?_) ?_
  · simp only [List.mem_cons, List.not_mem_nil, or_false] at q
    omega
  refine hp_sN [71] (pc' := 71) (L' := [some (.int i1), some (.int i2)]) (st' := [.int (Int32.ofInt 3)]) rfl rfl ?_
  exact hp_Ri rfl
theorem hk_81 {X : hp_X} (S : hp_S) (i1 : Int32) (i2 : Int32) : hp_K 81 [.int i1, .int i2] (hp_mem X S) (hp_i X S) (hq_81 S i1 i2) := by
  refine hp_mk (q := hzq_81) rfl (by decide) (L := [some (.int i1), some (.int i2)]) rfl (fun n => ?_)
  exact ht_81 S i1 i2 n
/-! 82: HatsOfTheWindModel.flies(III)I -/
def hq_82 (S : hp_S) (i1 : Int32) (i2 : Int32) (i3 : Int32) : Int32 := (if i1 = (Int32.ofInt 2) then (if hz_cmp .le i3 0 = true then (Int32.ofInt 0) else (i3 + (Int32.ofInt 1))) else (if i1 = (Int32.ofInt 3) then ((Int32.ofInt 2) * i3) else (if i1 = (Int32.ofInt 4) then (i3 / (Int32.ofInt 2)) else (if i1 = (Int32.ofInt 5) then (if hz_cmp .le i3 0 = true then (Int32.ofInt 0) else ((i3 + (Int32.ofInt 1)) + (i2 / (Int32.ofInt 3)))) else (if i1 = (Int32.ofInt 6) then (if hz_cmp .le i3 0 = true then (Int32.ofInt 0) else (((Int32.ofInt 2) * i3) - (Int32.ofInt 1))) else (if i1 = (Int32.ofInt 7) then (i3 / (Int32.ofInt 3)) else i3))))))
set_option maxRecDepth 10000 in
theorem ht_82 {X : hp_X} (S : hp_S) (i1 : Int32) (i2 : Int32) (i3 : Int32) (n : Nat) : hp_T n 82 0 [some (.int i1), some (.int i2), some (.int i3)] [] (hp_mem X S) (hp_i X S) (hq_82 S i1 i2 i3) := by
  unfold hq_82
  refine hp_sN [1] (pc' := 1) (L' := [some (.int i1), some (.int i2), some (.int i3)]) (st' := [.int i1]) rfl rfl ?_
  refine hp_st (c := 2) (t := 40) rfl (by decide) (by decide) rfl (fun h1 => ?_) (fun h2 => ?_)
  · refine hp_sN [41] (pc' := 41) (L' := [some (.int i1), some (.int i2), some (.int i3)]) (st' := [.int i3]) rfl rfl ?_
    refine hp_if (pc' := 44) rfl rfl (fun h3 => ?_) (fun h3 => ?_)
    · refine hp_sN [51] (pc' := 51) (L' := [some (.int i1), some (.int i2), some (.int i3)]) (st' := [.int (Int32.ofInt 0)]) rfl rfl ?_
      exact hp_Ri rfl
    · refine hp_sN [45, 46, 47, 51] (pc' := 51) (L' := [some (.int i1), some (.int i2), some (.int i3)]) (st' := [.int (i3 + (Int32.ofInt 1))]) rfl rfl ?_
      exact hp_Ri rfl
  refine hp_st (c := 3) (t := 52) rfl (by decide) (by decide) rfl (fun h4 => ?_) (fun h5 => ?_)
  · refine hp_sN [53, 54, 55] (pc' := 55) (L' := [some (.int i1), some (.int i2), some (.int i3)]) (st' := [.int ((Int32.ofInt 2) * i3)]) rfl rfl ?_
    exact hp_Ri rfl
  refine hp_st (c := 4) (t := 56) rfl (by decide) (by decide) rfl (fun h6 => ?_) (fun h7 => ?_)
  · refine hp_sN [57, 58] (pc' := 58) (L' := [some (.int i1), some (.int i2), some (.int i3)]) (st' := [.int (Int32.ofInt 2), .int i3]) rfl rfl ?_
    refine hp_di (pc' := 59) rfl rfl ?_
    exact hp_Ri rfl
  refine hp_st (c := 5) (t := 60) rfl (by decide) (by decide) rfl (fun h8 => ?_) (fun h9 => ?_)
  · refine hp_sN [61] (pc' := 61) (L' := [some (.int i1), some (.int i2), some (.int i3)]) (st' := [.int i3]) rfl rfl ?_
    refine hp_if (pc' := 64) rfl rfl (fun h10 => ?_) (fun h10 => ?_)
    · refine hp_sN [75] (pc' := 75) (L' := [some (.int i1), some (.int i2), some (.int i3)]) (st' := [.int (Int32.ofInt 0)]) rfl rfl ?_
      exact hp_Ri rfl
    · refine hp_sN [65, 66, 67, 68, 69] (pc' := 69) (L' := [some (.int i1), some (.int i2), some (.int i3)]) (st' := [.int (Int32.ofInt 3), .int i2, .int (i3 + (Int32.ofInt 1))]) rfl rfl ?_
      refine hp_di (pc' := 70) rfl rfl ?_
      refine hp_sN [71, 75] (pc' := 75) (L' := [some (.int i1), some (.int i2), some (.int i3)]) (st' := [.int ((i3 + (Int32.ofInt 1)) + (i2 / (Int32.ofInt 3)))]) rfl rfl ?_
      exact hp_Ri rfl
  refine hp_st (c := 6) (t := 76) rfl (by decide) (by decide) rfl (fun h11 => ?_) (fun h12 => ?_)
  · refine hp_sN [77] (pc' := 77) (L' := [some (.int i1), some (.int i2), some (.int i3)]) (st' := [.int i3]) rfl rfl ?_
    refine hp_if (pc' := 80) rfl rfl (fun h13 => ?_) (fun h13 => ?_)
    · refine hp_sN [89] (pc' := 89) (L' := [some (.int i1), some (.int i2), some (.int i3)]) (st' := [.int (Int32.ofInt 0)]) rfl rfl ?_
      exact hp_Ri rfl
    · refine hp_sN [81, 82, 83, 84, 85, 89] (pc' := 89) (L' := [some (.int i1), some (.int i2), some (.int i3)]) (st' := [.int (((Int32.ofInt 2) * i3) - (Int32.ofInt 1))]) rfl rfl ?_
      exact hp_Ri rfl
  refine hp_st (c := 7) (t := 90) rfl (by decide) (by decide) rfl (fun h14 => ?_) (fun h15 => ?_)
  · refine hp_sN [91, 92] (pc' := 92) (L' := [some (.int i1), some (.int i2), some (.int i3)]) (st' := [.int (Int32.ofInt 3), .int i3]) rfl rfl ?_
    refine hp_di (pc' := 93) rfl rfl ?_
    exact hp_Ri rfl
  refine hp_td (t := 94) [2, 3, 4, 5, 6, 7] rfl rfl rfl (by decide) (fun c q => ?_) ?_
  · simp only [List.mem_cons, List.not_mem_nil, or_false] at q
    omega
  refine hp_sN [95] (pc' := 95) (L' := [some (.int i1), some (.int i2), some (.int i3)]) (st' := [.int i3]) rfl rfl ?_
  exact hp_Ri rfl
theorem hk_82 {X : hp_X} (S : hp_S) (i1 : Int32) (i2 : Int32) (i3 : Int32) : hp_K 82 [.int i1, .int i2, .int i3] (hp_mem X S) (hp_i X S) (hq_82 S i1 i2 i3) := by
  refine hp_mk (q := hzq_82) rfl (by decide) (L := [some (.int i1), some (.int i2), some (.int i3)]) rfl (fun n => ?_)
  exact ht_82 S i1 i2 i3 n
/-! 83: HatsOfTheWindModel.worth(II)I -/
def hq_83 (S : hp_S) (i1 : Int32) (i2 : Int32) : Int32 := (if i1 = (Int32.ofInt 1) then (Int32.ofInt 3) else (if i1 = (Int32.ofInt 2) then ((Int32.ofInt 5) + i2) else (if i1 = (Int32.ofInt 3) then (Int32.ofInt 1) else (if i1 = (Int32.ofInt 4) then (Int32.ofInt 6) else (if i1 = (Int32.ofInt 5) then ((Int32.ofInt 14) + i2) else (if i1 = (Int32.ofInt 6) then i2 else (Int32.ofInt 2)))))))
set_option maxRecDepth 10000 in
theorem ht_83 {X : hp_X} (S : hp_S) (i1 : Int32) (i2 : Int32) (n : Nat) : hp_T n 83 0 [some (.int i1), some (.int i2)] [] (hp_mem X S) (hp_i X S) (hq_83 S i1 i2) := by
  unfold hq_83
  refine hp_sN [1] (pc' := 1) (L' := [some (.int i1), some (.int i2)]) (st' := [.int i1]) rfl rfl ?_
  refine hp_st (c := 1) (t := 40) rfl (by decide) (by decide) rfl (fun h1 => ?_) (fun h2 => ?_)
  · refine hp_sN [41] (pc' := 41) (L' := [some (.int i1), some (.int i2)]) (st' := [.int (Int32.ofInt 3)]) rfl rfl ?_
    exact hp_Ri rfl
  refine hp_st (c := 2) (t := 42) rfl (by decide) (by decide) rfl (fun h3 => ?_) (fun h4 => ?_)
  · refine hp_sN [43, 44, 45] (pc' := 45) (L' := [some (.int i1), some (.int i2)]) (st' := [.int ((Int32.ofInt 5) + i2)]) rfl rfl ?_
    exact hp_Ri rfl
  refine hp_st (c := 3) (t := 46) rfl (by decide) (by decide) rfl (fun h5 => ?_) (fun h6 => ?_)
  · refine hp_sN [47] (pc' := 47) (L' := [some (.int i1), some (.int i2)]) (st' := [.int (Int32.ofInt 1)]) rfl rfl ?_
    exact hp_Ri rfl
  refine hp_st (c := 4) (t := 48) rfl (by decide) (by decide) rfl (fun h7 => ?_) (fun h8 => ?_)
  · refine hp_sN [50] (pc' := 50) (L' := [some (.int i1), some (.int i2)]) (st' := [.int (Int32.ofInt 6)]) rfl rfl ?_
    exact hp_Ri rfl
  refine hp_st (c := 5) (t := 51) rfl (by decide) (by decide) rfl (fun h9 => ?_) (fun h10 => ?_)
  · refine hp_sN [53, 54, 55] (pc' := 55) (L' := [some (.int i1), some (.int i2)]) (st' := [.int ((Int32.ofInt 14) + i2)]) rfl rfl ?_
    exact hp_Ri rfl
  refine hp_st (c := 6) (t := 56) rfl (by decide) (by decide) rfl (fun h11 => ?_) (fun h12 => ?_)
  · refine hp_sN [57] (pc' := 57) (L' := [some (.int i1), some (.int i2)]) (st' := [.int i2]) rfl rfl ?_
    exact hp_Ri rfl
  refine hp_td (t := 58) [1, 2, 3, 4, 5, 6] rfl rfl rfl (by decide) (fun c q => ?_) ?_
  · simp only [List.mem_cons, List.not_mem_nil, or_false] at q
    omega
  refine hp_sN [59] (pc' := 59) (L' := [some (.int i1), some (.int i2)]) (st' := [.int (Int32.ofInt 2)]) rfl rfl ?_
  exact hp_Ri rfl
theorem hk_83 {X : hp_X} (S : hp_S) (i1 : Int32) (i2 : Int32) : hp_K 83 [.int i1, .int i2] (hp_mem X S) (hp_i X S) (hq_83 S i1 i2) := by
  refine hp_mk (q := hzq_83) rfl (by decide) (L := [some (.int i1), some (.int i2)]) rfl (fun n => ?_)
  exact ht_83 S i1 i2 n
/-! 84: HatsOfTheWindModel.windAt([IIII)I -/
def hq_84 (S : hp_S) (c : Nat) (i2 : Int32) (i3 : Int32) (i4 : Int32) : Int32 := (if hz_cmp .eq (hq_79 S (S c (Int32.ofInt 4).toNatClampNeg) i2) 0 = true then (hq_71 S (Int32.ofInt 9) ((S c ((Int32.ofInt 6) + i3).toNatClampNeg) + i4)) else (Int32.ofInt 0))
set_option maxRecDepth 10000 in
theorem ht_84 {X : hp_X} {c : Nat} (hc : hp_c c) (S : hp_S) (i2 : Int32) (i3 : Int32) (i4 : Int32) (n : Nat) : hp_T n 84 0 [some (.ref c), some (.int i2), some (.int i3), some (.int i4)] [] (hp_mem X S) (hp_i X S) (hq_84 S c i2 i3 i4) := by
  unfold hq_84
  refine hp_sN [1, 2] (pc' := 2) (L' := [some (.ref c), some (.int i2), some (.int i3), some (.int i4)]) (st' := [.int (Int32.ofInt 4), .ref c]) rfl rfl ?_
  refine hp_al (pc' := 3) rfl (hp_cl hc) (hp_cc hc X _) rfl ?_
  refine hp_sN [4] (pc' := 4) (L' := [some (.ref c), some (.int i2), some (.int i3), some (.int i4)]) (st' := [.int i2, .int (S c (Int32.ofInt 4).toNatClampNeg)]) rfl rfl ?_
  refine hp_iv (virt := false) (pc' := 7) (rv := some (.int (hq_79 S (S c (Int32.ofInt 4).toNatClampNeg) i2))) (M1 := hp_mem X (S)) rfl rfl (by decide) (hk_79 S ((S c (Int32.ofInt 4).toNatClampNeg)) (i2)) rfl rfl ?_
  show hp_T _ 84 7 _ [.int (hq_79 S (S c (Int32.ofInt 4).toNatClampNeg) i2)] _ _ _
  refine hp_if (pc' := 10) rfl rfl (fun h1 => ?_) (fun h1 => ?_)
  · refine hp_sN [16, 17, 19, 20, 21] (pc' := 21) (L' := [some (.ref c), some (.int i2), some (.int i3), some (.int i4)]) (st' := [.int ((Int32.ofInt 6) + i3), .ref c, .int (Int32.ofInt 9)]) rfl rfl ?_
    refine hp_al (pc' := 22) rfl (hp_cl hc) (hp_cc hc X _) rfl ?_
    refine hp_sN [23, 24] (pc' := 24) (L' := [some (.ref c), some (.int i2), some (.int i3), some (.int i4)]) (st' := [.int ((S c ((Int32.ofInt 6) + i3).toNatClampNeg) + i4), .int (Int32.ofInt 9)]) rfl rfl ?_
    refine hp_iv (virt := false) (pc' := 27) (rv := some (.int (hq_71 S (Int32.ofInt 9) ((S c ((Int32.ofInt 6) + i3).toNatClampNeg) + i4)))) (M1 := hp_mem X (S)) rfl rfl (by decide) (hk_71 S ((Int32.ofInt 9)) (((S c ((Int32.ofInt 6) + i3).toNatClampNeg) + i4))) rfl rfl ?_
    show hp_T _ 84 27 _ [.int (hq_71 S (Int32.ofInt 9) ((S c ((Int32.ofInt 6) + i3).toNatClampNeg) + i4))] _ _ _
    exact hp_Ri rfl
  · refine hp_sN [11, 27] (pc' := 27) (L' := [some (.ref c), some (.int i2), some (.int i3), some (.int i4)]) (st' := [.int (Int32.ofInt 0)]) rfl rfl ?_
    exact hp_Ri rfl
theorem hk_84 {X : hp_X} {c : Nat} (hc : hp_c c) (S : hp_S) (i2 : Int32) (i3 : Int32) (i4 : Int32) : hp_K 84 [.ref c, .int i2, .int i3, .int i4] (hp_mem X S) (hp_i X S) (hq_84 S c i2 i3 i4) := by
  refine hp_mk (q := hzq_84) rfl (by decide) (L := [some (.ref c), some (.int i2), some (.int i3), some (.int i4)]) rfl (fun n => ?_)
  exact ht_84 hc S i2 i3 i4 n
/-! 85: HatsOfTheWindModel.isWorn([II)Z -/
def hq_85 (S : hp_S) (c : Nat) (i2 : Int32) : Int32 := (if hz_cmp .eq (S c (hq_75 S i2 (Int32.ofInt 2)).toNatClampNeg) (Int32.ofInt 9) = true then (Int32.ofInt 0) else (Int32.ofInt 1))
set_option maxRecDepth 10000 in
theorem ht_85 {X : hp_X} {c : Nat} (hc : hp_c c) (S : hp_S) (i2 : Int32) (n : Nat) : hp_T n 85 0 [some (.ref c), some (.int i2)] [] (hp_mem X S) (hp_i X S) (hq_85 S c i2) := by
  unfold hq_85
  refine hp_sN [1, 2, 3] (pc' := 3) (L' := [some (.ref c), some (.int i2)]) (st' := [.int (Int32.ofInt 2), .int i2, .ref c]) rfl rfl ?_
  refine hp_iv (virt := false) (pc' := 6) (rv := some (.int (hq_75 S i2 (Int32.ofInt 2)))) (M1 := hp_mem X (S)) rfl rfl (by decide) (hk_75 S (i2) ((Int32.ofInt 2))) rfl rfl ?_
  show hp_T _ 85 6 _ [.int (hq_75 S i2 (Int32.ofInt 2)), .ref c] _ _ _
  refine hp_al (pc' := 7) rfl (hp_cl hc) (hp_cc hc X _) rfl ?_
  refine hp_sN [9] (pc' := 9) (L' := [some (.ref c), some (.int i2)]) (st' := [.int (Int32.ofInt 9), .int (S c (hq_75 S i2 (Int32.ofInt 2)).toNatClampNeg)]) rfl rfl ?_
  refine hp_ic (pc' := 12) rfl rfl (fun h1 => ?_) (fun h1 => ?_)
  · refine hp_sN [17] (pc' := 17) (L' := [some (.ref c), some (.int i2)]) (st' := [.int (Int32.ofInt 0)]) rfl rfl ?_
    exact hp_Ri rfl
  · refine hp_sN [13, 17] (pc' := 17) (L' := [some (.ref c), some (.int i2)]) (st' := [.int (Int32.ofInt 1)]) rfl rfl ?_
    exact hp_Ri rfl
theorem hk_85 {X : hp_X} {c : Nat} (hc : hp_c c) (S : hp_S) (i2 : Int32) : hp_K 85 [.ref c, .int i2] (hp_mem X S) (hp_i X S) (hq_85 S c i2) := by
  refine hp_mk (q := hzq_85) rfl (by decide) (L := [some (.ref c), some (.int i2)]) rfl (fun n => ?_)
  exact ht_85 hc S i2 n
/-! 86: HatsOfTheWindModel.isLoose([II)Z -/
def hq_86 (S : hp_S) (c : Nat) (i2 : Int32) : Int32 := (if hz_cmp .ne (hq_85 S c i2) 0 = true then (Int32.ofInt 0) else (if hz_cmp .eq (S c (hq_75 S i2 (Int32.ofInt 3)).toNatClampNeg) (Int32.ofInt 21) = true then (Int32.ofInt 0) else (Int32.ofInt 1)))
set_option maxRecDepth 10000 in
theorem ht_86 {X : hp_X} {c : Nat} (hc : hp_c c) (S : hp_S) (i2 : Int32) (n : Nat) : hp_T n 86 0 [some (.ref c), some (.int i2)] [] (hp_mem X S) (hp_i X S) (hq_86 S c i2) := by
  unfold hq_86
  refine hp_sN [1, 2] (pc' := 2) (L' := [some (.ref c), some (.int i2)]) (st' := [.int i2, .ref c]) rfl rfl ?_
  refine hp_iv (virt := false) (pc' := 5) (rv := some (.int (hq_85 S c i2))) (M1 := hp_mem X (S)) rfl rfl (by decide) (hk_85 hc S (i2)) rfl rfl ?_
  show hp_T _ 86 5 _ [.int (hq_85 S c i2)] _ _ _
  refine hp_if (pc' := 8) rfl rfl (fun h1 => ?_) (fun h1 => ?_)
  · refine hp_sN [25] (pc' := 25) (L' := [some (.ref c), some (.int i2)]) (st' := [.int (Int32.ofInt 0)]) rfl rfl ?_
    exact hp_Ri rfl
  · refine hp_sN [9, 10, 11] (pc' := 11) (L' := [some (.ref c), some (.int i2)]) (st' := [.int (Int32.ofInt 3), .int i2, .ref c]) rfl rfl ?_
    refine hp_iv (virt := false) (pc' := 14) (rv := some (.int (hq_75 S i2 (Int32.ofInt 3)))) (M1 := hp_mem X (S)) rfl rfl (by decide) (hk_75 S (i2) ((Int32.ofInt 3))) rfl rfl ?_
    show hp_T _ 86 14 _ [.int (hq_75 S i2 (Int32.ofInt 3)), .ref c] _ _ _
    refine hp_al (pc' := 15) rfl (hp_cl hc) (hp_cc hc X _) rfl ?_
    refine hp_sN [17] (pc' := 17) (L' := [some (.ref c), some (.int i2)]) (st' := [.int (Int32.ofInt 21), .int (S c (hq_75 S i2 (Int32.ofInt 3)).toNatClampNeg)]) rfl rfl ?_
    refine hp_ic (pc' := 20) rfl rfl (fun h2 => ?_) (fun h2 => ?_)
    · refine hp_sN [25] (pc' := 25) (L' := [some (.ref c), some (.int i2)]) (st' := [.int (Int32.ofInt 0)]) rfl rfl ?_
      exact hp_Ri rfl
    · refine hp_sN [21, 25] (pc' := 25) (L' := [some (.ref c), some (.int i2)]) (st' := [.int (Int32.ofInt 1)]) rfl rfl ?_
      exact hp_Ri rfl
theorem hk_86 {X : hp_X} {c : Nat} (hc : hp_c c) (S : hp_S) (i2 : Int32) : hp_K 86 [.ref c, .int i2] (hp_mem X S) (hp_i X S) (hq_86 S c i2) := by
  refine hp_mk (q := hzq_86) rfl (by decide) (L := [some (.ref c), some (.int i2)]) rfl (fun n => ?_)
  exact ht_86 hc S i2 n
/-! 87: HatsOfTheWindModel.placeOf([II)I -/
def hq_87 (S : hp_S) (c : Nat) (i2 : Int32) : Int32 := (if hz_cmp .eq (hq_85 S c i2) 0 = true then (S c (hq_75 S i2 (Int32.ofInt 3)).toNatClampNeg) else (S c (hq_74 S (S c (hq_75 S i2 (Int32.ofInt 2)).toNatClampNeg) (Int32.ofInt 0)).toNatClampNeg))
set_option maxRecDepth 10000 in
theorem ht_87 {X : hp_X} {c : Nat} (hc : hp_c c) (S : hp_S) (i2 : Int32) (n : Nat) : hp_T n 87 0 [some (.ref c), some (.int i2)] [] (hp_mem X S) (hp_i X S) (hq_87 S c i2) := by
  unfold hq_87
  refine hp_sN [1, 2] (pc' := 2) (L' := [some (.ref c), some (.int i2)]) (st' := [.int i2, .ref c]) rfl rfl ?_
  refine hp_iv (virt := false) (pc' := 5) (rv := some (.int (hq_85 S c i2))) (M1 := hp_mem X (S)) rfl rfl (by decide) (hk_85 hc S (i2)) rfl rfl ?_
  show hp_T _ 87 5 _ [.int (hq_85 S c i2)] _ _ _
  refine hp_if (pc' := 8) rfl rfl (fun h1 => ?_) (fun h1 => ?_)
  · refine hp_sN [25, 26, 27] (pc' := 27) (L' := [some (.ref c), some (.int i2)]) (st' := [.int (Int32.ofInt 3), .int i2, .ref c]) rfl rfl ?_
    refine hp_iv (virt := false) (pc' := 30) (rv := some (.int (hq_75 S i2 (Int32.ofInt 3)))) (M1 := hp_mem X (S)) rfl rfl (by decide) (hk_75 S (i2) ((Int32.ofInt 3))) rfl rfl ?_
    show hp_T _ 87 30 _ [.int (hq_75 S i2 (Int32.ofInt 3)), .ref c] _ _ _
    refine hp_al (pc' := 31) rfl (hp_cl hc) (hp_cc hc X _) rfl ?_
    exact hp_Ri rfl
  · refine hp_sN [9, 10, 11, 12] (pc' := 12) (L' := [some (.ref c), some (.int i2)]) (st' := [.int (Int32.ofInt 2), .int i2, .ref c, .ref c]) rfl rfl ?_
    refine hp_iv (virt := false) (pc' := 15) (rv := some (.int (hq_75 S i2 (Int32.ofInt 2)))) (M1 := hp_mem X (S)) rfl rfl (by decide) (hk_75 S (i2) ((Int32.ofInt 2))) rfl rfl ?_
    show hp_T _ 87 15 _ [.int (hq_75 S i2 (Int32.ofInt 2)), .ref c, .ref c] _ _ _
    refine hp_al (pc' := 16) rfl (hp_cl hc) (hp_cc hc X _) rfl ?_
    refine hp_sN [17] (pc' := 17) (L' := [some (.ref c), some (.int i2)]) (st' := [.int (Int32.ofInt 0), .int (S c (hq_75 S i2 (Int32.ofInt 2)).toNatClampNeg), .ref c]) rfl rfl ?_
    refine hp_iv (virt := false) (pc' := 20) (rv := some (.int (hq_74 S (S c (hq_75 S i2 (Int32.ofInt 2)).toNatClampNeg) (Int32.ofInt 0)))) (M1 := hp_mem X (S)) rfl rfl (by decide) (hk_74 S ((S c (hq_75 S i2 (Int32.ofInt 2)).toNatClampNeg)) ((Int32.ofInt 0))) rfl rfl ?_
    show hp_T _ 87 20 _ [.int (hq_74 S (S c (hq_75 S i2 (Int32.ofInt 2)).toNatClampNeg) (Int32.ofInt 0)), .ref c] _ _ _
    refine hp_al (pc' := 21) rfl (hp_cl hc) (hp_cc hc X _) rfl ?_
    refine hp_sN [31] (pc' := 31) (L' := [some (.ref c), some (.int i2)]) (st' := [.int (S c (hq_74 S (S c (hq_75 S i2 (Int32.ofInt 2)).toNatClampNeg) (Int32.ofInt 0)).toNatClampNeg)]) rfl rfl ?_
    exact hp_Ri rfl
theorem hk_87 {X : hp_X} {c : Nat} (hc : hp_c c) (S : hp_S) (i2 : Int32) : hp_K 87 [.ref c, .int i2] (hp_mem X S) (hp_i X S) (hq_87 S c i2) := by
  refine hp_mk (q := hzq_87) rfl (by decide) (L := [some (.ref c), some (.int i2)]) rfl (fun n => ?_)
  exact ht_87 hc S i2 n
/-! 88: HatsOfTheWindModel.hatOf([II)I -/
def hq_88_2 (c : Nat) (i2 : Int32) : Nat → hp_S → Int32 → Int32
  | 0, S, _ => 0
  | m + 1, S, v2 => (if hz_cmp .ge v2 (S c (Int32.ofInt 1).toNatClampNeg) = true then (Int32.ofInt 9) else (if hz_cmp .ne (S c (hq_75 S v2 (Int32.ofInt 2)).toNatClampNeg) i2 = true then hq_88_2 c i2 m S (v2 + (Int32.ofInt 1)) else v2))
def hq_88 (S : hp_S) (c : Nat) (i2 : Int32) : Int32 := (hq_88_2 c i2 (((S c (Int32.ofInt 1).toNatClampNeg).toInt - (Int32.ofInt 0).toInt).toNat + 1) S ((Int32.ofInt 0)))
set_option maxRecDepth 10000 in
theorem ht_88_2 {X : hp_X} {c : Nat} (hc : hp_c c) (i2 : Int32) (S : hp_S) : ∀ (n m : Nat) (v2 : Int32), ((S c (Int32.ofInt 1).toNatClampNeg).toInt - v2.toInt).toNat < m → hp_T n 88 2 [some (.ref c), some (.int i2), some (.int v2)] [] (hp_mem X S) (hp_i X S) (hq_88_2 c i2 m S v2) := by
  intro n
  induction n with
  | zero => intros; exact hp_0
  | succ n ih =>
    intro m v2 hm
    cases m with
    | zero => exact absurd hm (Nat.not_lt_zero _)
    | succ m =>
      rw [hq_88_2]
      refine hp_sN [3, 4, 5] (pc' := 5) (L' := [some (.ref c), some (.int i2), some (.int v2)]) (st' := [.int (Int32.ofInt 1), .ref c, .int v2]) rfl rfl ?_
      refine hp_al (pc' := 6) rfl (hp_cl hc) (hp_cc hc X _) rfl ?_
      refine hp_ic (pc' := 9) rfl rfl (fun h1 => ?_) (fun h1 => ?_)
      · refine hp_sN [30] (pc' := 30) (L' := [some (.ref c), some (.int i2), some (.int v2)]) (st' := [.int (Int32.ofInt 9)]) rfl rfl ?_
        exact hp_Ri rfl
      · refine hp_sN [10, 11, 12] (pc' := 12) (L' := [some (.ref c), some (.int i2), some (.int v2)]) (st' := [.int (Int32.ofInt 2), .int v2, .ref c]) rfl rfl ?_
        refine hp_iv (virt := false) (pc' := 15) (rv := some (.int (hq_75 S v2 (Int32.ofInt 2)))) (M1 := hp_mem X (S)) rfl rfl (by decide) (hk_75 S (v2) ((Int32.ofInt 2))) rfl rfl ?_
        show hp_T _ 88 15 _ [.int (hq_75 S v2 (Int32.ofInt 2)), .ref c] _ _ _
        refine hp_al (pc' := 16) rfl (hp_cl hc) (hp_cc hc X _) rfl ?_
        refine hp_sN [17] (pc' := 17) (L' := [some (.ref c), some (.int i2), some (.int v2)]) (st' := [.int i2, .int (S c (hq_75 S v2 (Int32.ofInt 2)).toNatClampNeg)]) rfl rfl ?_
        refine hp_ic (pc' := 20) rfl rfl (fun h2 => ?_) (fun h2 => ?_)
        · refine hp_sB 25 [2] (pc' := 2) (L' := [some (.ref c), some (.int i2), some (.int (v2 + (Int32.ofInt 1)))]) (st' := []) rfl rfl ?_
          exact ih m ((v2 + (Int32.ofInt 1))) (hp_up h1 hm)
        · refine hp_sN [21] (pc' := 21) (L' := [some (.ref c), some (.int i2), some (.int v2)]) (st' := [.int v2]) rfl rfl ?_
          exact hp_Ri rfl
set_option maxRecDepth 10000 in
theorem ht_88 {X : hp_X} {c : Nat} (hc : hp_c c) (S : hp_S) (i2 : Int32) (n : Nat) : hp_T n 88 0 [some (.ref c), some (.int i2), none] [] (hp_mem X S) (hp_i X S) (hq_88 S c i2) := by
  unfold hq_88
  refine hp_sN [1, 2] (pc' := 2) (L' := [some (.ref c), some (.int i2), some (.int (Int32.ofInt 0))]) (st' := []) rfl rfl ?_
  exact ht_88_2 hc i2 S n (((S c (Int32.ofInt 1).toNatClampNeg).toInt - (Int32.ofInt 0).toInt).toNat + 1)  ((Int32.ofInt 0))  (Nat.lt_succ_self _)
theorem hk_88 {X : hp_X} {c : Nat} (hc : hp_c c) (S : hp_S) (i2 : Int32) : hp_K 88 [.ref c, .int i2] (hp_mem X S) (hp_i X S) (hq_88 S c i2) := by
  refine hp_mk (q := hzq_88) rfl (by decide) (L := [some (.ref c), some (.int i2), none]) rfl (fun n => ?_)
  exact ht_88 hc S i2 n
/-! 89: HatsOfTheWindModel.isTaken([II)V -/
def hq_89 (S : hp_S) (c : Nat) (i2 : Int32) : hp_S := hp_wg 80 (hp_wg 80 S c (hq_75 S i2 (Int32.ofInt 3)) (hq_87 S c i2)) c (hq_75 (hp_wg 80 S c (hq_75 S i2 (Int32.ofInt 3)) (hq_87 S c i2)) i2 (Int32.ofInt 2)) (Int32.ofInt 9)
theorem hf_89 {c : Nat} (S : hp_S) (i2 : Int32) (j : Nat) (z0 : j ≠ c) : (hq_89 S c i2) j = S j := by
  unfold hq_89
  repeat' split
  all_goals simp [hp_wo, hp_wgo, hp_cpo, z0]
set_option maxRecDepth 10000 in
theorem ht_89 {X : hp_X} {c : Nat} (hc : hp_c c) (S : hp_S) (i2 : Int32) (n : Nat) : hp_T n 89 0 [some (.ref c), some (.int i2)] [] (hp_mem X S) (hp_v X) (hq_89 S c i2) := by
  unfold hq_89
  refine hp_sN [1, 2, 3] (pc' := 3) (L' := [some (.ref c), some (.int i2)]) (st' := [.int (Int32.ofInt 3), .int i2, .ref c]) rfl rfl ?_
  refine hp_iv (virt := false) (pc' := 6) (rv := some (.int (hq_75 S i2 (Int32.ofInt 3)))) (M1 := hp_mem X (S)) rfl rfl (by decide) (hk_75 S (i2) ((Int32.ofInt 3))) rfl rfl ?_
  show hp_T _ 89 6 _ [.int (hq_75 S i2 (Int32.ofInt 3)), .ref c] _ _ _
  refine hp_sN [7, 8] (pc' := 8) (L' := [some (.ref c), some (.int i2)]) (st' := [.int i2, .ref c, .int (hq_75 S i2 (Int32.ofInt 3)), .ref c]) rfl rfl ?_
  refine hp_iv (virt := false) (pc' := 11) (rv := some (.int (hq_87 S c i2))) (M1 := hp_mem X (S)) rfl rfl (by decide) (hk_87 hc S (i2)) rfl rfl ?_
  show hp_T _ 89 11 _ [.int (hq_87 S c i2), .int (hq_75 S i2 (Int32.ofInt 3)), .ref c] _ _ _
  refine hp_asg (pc' := 12) rfl (hp_cl hc) (fun _ => (hp_cc hc X _)) rfl ?_
  refine hp_sN [13, 14, 15] (pc' := 15) (L' := [some (.ref c), some (.int i2)]) (st' := [.int (Int32.ofInt 2), .int i2, .ref c]) rfl rfl ?_
  refine hp_iv (virt := false) (pc' := 18) (rv := some (.int (hq_75 (hp_wg 80 S c (hq_75 S i2 (Int32.ofInt 3)) (hq_87 S c i2)) i2 (Int32.ofInt 2)))) (M1 := hp_mem X (hp_wg 80 S c (hq_75 S i2 (Int32.ofInt 3)) (hq_87 S c i2))) rfl rfl (by decide) (hk_75 (hp_wg 80 S c (hq_75 S i2 (Int32.ofInt 3)) (hq_87 S c i2)) (i2) ((Int32.ofInt 2))) rfl rfl ?_
  show hp_T _ 89 18 _ [.int (hq_75 (hp_wg 80 S c (hq_75 S i2 (Int32.ofInt 3)) (hq_87 S c i2)) i2 (Int32.ofInt 2)), .ref c] _ _ _
  refine hp_sN [20] (pc' := 20) (L' := [some (.ref c), some (.int i2)]) (st' := [.int (Int32.ofInt 9), .int (hq_75 (hp_wg 80 S c (hq_75 S i2 (Int32.ofInt 3)) (hq_87 S c i2)) i2 (Int32.ofInt 2)), .ref c]) rfl rfl ?_
  refine hp_asg (pc' := 21) rfl (hp_cl hc) (fun _ => (hp_cc hc X _)) rfl ?_
  exact hp_Rv rfl
theorem hk_89 {X : hp_X} {c : Nat} (hc : hp_c c) (S : hp_S) (i2 : Int32) : hp_K 89 [.ref c, .int i2] (hp_mem X S) (hp_v X) (hq_89 S c i2) := by
  refine hp_mk (q := hzq_89) rfl (by decide) (L := [some (.ref c), some (.int i2)]) rfl (fun n => ?_)
  exact ht_89 hc S i2 n
/-! 90: HatsOfTheWindModel.flownTo([IIII)I -/
def hq_90 (S : hp_S) (c : Nat) (i2 : Int32) (i3 : Int32) (i4 : Int32) : Int32 := (if hz_cmp .ne i3 (Int32.ofInt 21) = true then (hq_71 S (Int32.ofInt 21) (i3 + (hq_82 S (S c (hq_75 S i2 (Int32.ofInt 0)).toNatClampNeg) (S c (hq_75 S i2 (Int32.ofInt 1)).toNatClampNeg) i4))) else (Int32.ofInt 21))
set_option maxRecDepth 10000 in
theorem ht_90 {X : hp_X} {c : Nat} (hc : hp_c c) (S : hp_S) (i2 : Int32) (i3 : Int32) (i4 : Int32) (n : Nat) : hp_T n 90 0 [some (.ref c), some (.int i2), some (.int i3), some (.int i4)] [] (hp_mem X S) (hp_i X S) (hq_90 S c i2 i3 i4) := by
  unfold hq_90
  refine hp_sN [1, 3] (pc' := 3) (L' := [some (.ref c), some (.int i2), some (.int i3), some (.int i4)]) (st' := [.int (Int32.ofInt 21), .int i3]) rfl rfl ?_
  refine hp_ic (pc' := 6) rfl rfl (fun h1 => ?_) (fun h1 => ?_)
  · refine hp_sN [13, 14, 15, 16, 17] (pc' := 17) (L' := [some (.ref c), some (.int i2), some (.int i3), some (.int i4)]) (st' := [.int (Int32.ofInt 0), .int i2, .ref c, .int i3, .int (Int32.ofInt 21)]) rfl rfl ?_
    refine hp_iv (virt := false) (pc' := 20) (rv := some (.int (hq_75 S i2 (Int32.ofInt 0)))) (M1 := hp_mem X (S)) rfl rfl (by decide) (hk_75 S (i2) ((Int32.ofInt 0))) rfl rfl ?_
    show hp_T _ 90 20 _ [.int (hq_75 S i2 (Int32.ofInt 0)), .ref c, .int i3, .int (Int32.ofInt 21)] _ _ _
    refine hp_al (pc' := 21) rfl (hp_cl hc) (hp_cc hc X _) rfl ?_
    refine hp_sN [22, 23, 24] (pc' := 24) (L' := [some (.ref c), some (.int i2), some (.int i3), some (.int i4)]) (st' := [.int (Int32.ofInt 1), .int i2, .ref c, .int (S c (hq_75 S i2 (Int32.ofInt 0)).toNatClampNeg), .int i3, .int (Int32.ofInt 21)]) rfl rfl ?_
    refine hp_iv (virt := false) (pc' := 27) (rv := some (.int (hq_75 S i2 (Int32.ofInt 1)))) (M1 := hp_mem X (S)) rfl rfl (by decide) (hk_75 S (i2) ((Int32.ofInt 1))) rfl rfl ?_
    show hp_T _ 90 27 _ [.int (hq_75 S i2 (Int32.ofInt 1)), .ref c, .int (S c (hq_75 S i2 (Int32.ofInt 0)).toNatClampNeg), .int i3, .int (Int32.ofInt 21)] _ _ _
    refine hp_al (pc' := 28) rfl (hp_cl hc) (hp_cc hc X _) rfl ?_
    refine hp_sN [29] (pc' := 29) (L' := [some (.ref c), some (.int i2), some (.int i3), some (.int i4)]) (st' := [.int i4, .int (S c (hq_75 S i2 (Int32.ofInt 1)).toNatClampNeg), .int (S c (hq_75 S i2 (Int32.ofInt 0)).toNatClampNeg), .int i3, .int (Int32.ofInt 21)]) rfl rfl ?_
    refine hp_iv (virt := false) (pc' := 32) (rv := some (.int (hq_82 S (S c (hq_75 S i2 (Int32.ofInt 0)).toNatClampNeg) (S c (hq_75 S i2 (Int32.ofInt 1)).toNatClampNeg) i4))) (M1 := hp_mem X (S)) rfl rfl (by decide) (hk_82 S ((S c (hq_75 S i2 (Int32.ofInt 0)).toNatClampNeg)) ((S c (hq_75 S i2 (Int32.ofInt 1)).toNatClampNeg)) (i4)) rfl rfl ?_
    show hp_T _ 90 32 _ [.int (hq_82 S (S c (hq_75 S i2 (Int32.ofInt 0)).toNatClampNeg) (S c (hq_75 S i2 (Int32.ofInt 1)).toNatClampNeg) i4), .int i3, .int (Int32.ofInt 21)] _ _ _
    refine hp_sN [33] (pc' := 33) (L' := [some (.ref c), some (.int i2), some (.int i3), some (.int i4)]) (st' := [.int (i3 + (hq_82 S (S c (hq_75 S i2 (Int32.ofInt 0)).toNatClampNeg) (S c (hq_75 S i2 (Int32.ofInt 1)).toNatClampNeg) i4)), .int (Int32.ofInt 21)]) rfl rfl ?_
    refine hp_iv (virt := false) (pc' := 36) (rv := some (.int (hq_71 S (Int32.ofInt 21) (i3 + (hq_82 S (S c (hq_75 S i2 (Int32.ofInt 0)).toNatClampNeg) (S c (hq_75 S i2 (Int32.ofInt 1)).toNatClampNeg) i4))))) (M1 := hp_mem X (S)) rfl rfl (by decide) (hk_71 S ((Int32.ofInt 21)) ((i3 + (hq_82 S (S c (hq_75 S i2 (Int32.ofInt 0)).toNatClampNeg) (S c (hq_75 S i2 (Int32.ofInt 1)).toNatClampNeg) i4)))) rfl rfl ?_
    show hp_T _ 90 36 _ [.int (hq_71 S (Int32.ofInt 21) (i3 + (hq_82 S (S c (hq_75 S i2 (Int32.ofInt 0)).toNatClampNeg) (S c (hq_75 S i2 (Int32.ofInt 1)).toNatClampNeg) i4)))] _ _ _
    exact hp_Ri rfl
  · refine hp_sN [8, 36] (pc' := 36) (L' := [some (.ref c), some (.int i2), some (.int i3), some (.int i4)]) (st' := [.int (Int32.ofInt 21)]) rfl rfl ?_
    exact hp_Ri rfl
theorem hk_90 {X : hp_X} {c : Nat} (hc : hp_c c) (S : hp_S) (i2 : Int32) (i3 : Int32) (i4 : Int32) : hp_K 90 [.ref c, .int i2, .int i3, .int i4] (hp_mem X S) (hp_i X S) (hq_90 S c i2 i3 i4) := by
  refine hp_mk (q := hzq_90) rfl (by decide) (L := [some (.ref c), some (.int i2), some (.int i3), some (.int i4)]) rfl (fun n => ?_)
  exact ht_90 hc S i2 i3 i4 n
/-! 91: HatsOfTheWindModel.nearestLoose([II)I -/
def hq_91_5 (c : Nat) (i2 : Int32) : Nat → hp_S → Int32 → Int32 → Int32
  | 0, S, _, _ => 0
  | m + 1, S, v2, v3 => (if hz_cmp .ge v3 (S c (Int32.ofInt 1).toNatClampNeg) = true then v2 else (if hz_cmp .eq (hq_86 S c v3) 0 = true then hq_91_5 c i2 m S v2 (v3 + (Int32.ofInt 1)) else (if hz_cmp .lt v2 0 = true then hq_91_5 c i2 m S v3 (v3 + (Int32.ofInt 1)) else (if hz_cmp .ge (hq_72 S (S c (hq_75 S v3 (Int32.ofInt 3)).toNatClampNeg) i2) (hq_72 S (S c (hq_75 S v2 (Int32.ofInt 3)).toNatClampNeg) i2) = true then hq_91_5 c i2 m S v2 (v3 + (Int32.ofInt 1)) else hq_91_5 c i2 m S v3 (v3 + (Int32.ofInt 1))))))
def hq_91 (S : hp_S) (c : Nat) (i2 : Int32) : Int32 := (hq_91_5 c i2 (((S c (Int32.ofInt 1).toNatClampNeg).toInt - (Int32.ofInt 0).toInt).toNat + 1) S ((Int32.ofInt (-4))) ((Int32.ofInt 0)))
set_option maxRecDepth 10000 in
theorem ht_91_5 {α : Type} {φ : α → Option Value × hzMem} {R : α} {X : hp_X} (N : Nat) {c : Nat} (hc : hp_c c) (i2 : Int32) (S : hp_S) : ∀ (n : Nat), n ≤ N → ∀ (m : Nat) (v2 : Int32) (v3 : Int32) (Z : Int32), ((S c (Int32.ofInt 1).toNatClampNeg).toInt - v3.toInt).toNat < m → hq_91_5 c i2 m S v2 v3 = Z → (∀ (x3 : Option Value), hp_T N 91 57 [some (.ref c), some (.int i2), some (.int Z), x3] [] (hp_mem X S) φ R) → hp_T n 91 5 [some (.ref c), some (.int i2), some (.int v2), some (.int v3)] [] (hp_mem X S) φ R := by
  intro n
  induction n with
  | zero => intros; exact hp_0
  | succ n ih =>
    intro hN m v2 v3 Z hm hZ kk
    cases m with
    | zero => exact absurd hm (Nat.not_lt_zero _)
    | succ m =>
      rw [hq_91_5] at hZ
      refine hp_sN [6, 7, 8] (pc' := 8) (L' := [some (.ref c), some (.int i2), some (.int v2), some (.int v3)]) (st' := [.int (Int32.ofInt 1), .ref c, .int v3]) rfl rfl ?_
      refine hp_al (pc' := 9) rfl (hp_cl hc) (hp_cc hc X _) rfl ?_
      refine hp_ic2 (pc' := 12) rfl rfl (fun h1 => ?_) (fun h1 => ?_)
      · rw [if_pos h1] at hZ
        subst hZ
        exact hp_le hN (kk (some (.int v3)))
      · rw [if_neg (hp_nt h1)] at hZ
        refine hp_sN [13, 14] (pc' := 14) (L' := [some (.ref c), some (.int i2), some (.int v2), some (.int v3)]) (st' := [.int v3, .ref c]) rfl rfl ?_
        refine hp_iv (virt := false) (pc' := 17) (rv := some (.int (hq_86 S c v3))) (M1 := hp_mem X (S)) rfl rfl (by decide) (hk_86 hc S (v3)) rfl rfl ?_
        show hp_T _ 91 17 _ [.int (hq_86 S c v3)] _ _ _
        refine hp_if2 (pc' := 20) rfl rfl (fun h2 => ?_) (fun h2 => ?_)
        · rw [if_pos h2] at hZ
          refine hp_sB 54 [5] (pc' := 5) (L' := [some (.ref c), some (.int i2), some (.int v2), some (.int (v3 + (Int32.ofInt 1)))]) (st' := []) rfl rfl ?_
          exact ih (Nat.le_trans (Nat.le_succ n) hN) m (v2) ((v3 + (Int32.ofInt 1))) Z (hp_up h1 hm) hZ kk
        · rw [if_neg (hp_nt h2)] at hZ
          refine hp_sN [21] (pc' := 21) (L' := [some (.ref c), some (.int i2), some (.int v2), some (.int v3)]) (st' := [.int v2]) rfl rfl ?_
          refine hp_if2 (pc' := 24) rfl rfl (fun h3 => ?_) (fun h3 => ?_)
          · rw [if_pos h3] at hZ
            refine hp_sB 50 [51, 54, 5] (pc' := 5) (L' := [some (.ref c), some (.int i2), some (.int v3), some (.int (v3 + (Int32.ofInt 1)))]) (st' := []) rfl rfl ?_
            exact ih (Nat.le_trans (Nat.le_succ n) hN) m (v3) ((v3 + (Int32.ofInt 1))) Z (hp_up h1 hm) hZ kk
          · rw [if_neg (hp_nt h3)] at hZ
            refine hp_sN [25, 26, 27] (pc' := 27) (L' := [some (.ref c), some (.int i2), some (.int v2), some (.int v3)]) (st' := [.int (Int32.ofInt 3), .int v3, .ref c]) rfl rfl ?_
            refine hp_iv (virt := false) (pc' := 30) (rv := some (.int (hq_75 S v3 (Int32.ofInt 3)))) (M1 := hp_mem X (S)) rfl rfl (by decide) (hk_75 S (v3) ((Int32.ofInt 3))) rfl rfl ?_
            show hp_T _ 91 30 _ [.int (hq_75 S v3 (Int32.ofInt 3)), .ref c] _ _ _
            refine hp_al (pc' := 31) rfl (hp_cl hc) (hp_cc hc X _) rfl ?_
            refine hp_sN [32] (pc' := 32) (L' := [some (.ref c), some (.int i2), some (.int v2), some (.int v3)]) (st' := [.int i2, .int (S c (hq_75 S v3 (Int32.ofInt 3)).toNatClampNeg)]) rfl rfl ?_
            refine hp_iv (virt := false) (pc' := 35) (rv := some (.int (hq_72 S (S c (hq_75 S v3 (Int32.ofInt 3)).toNatClampNeg) i2))) (M1 := hp_mem X (S)) rfl rfl (by decide) (hk_72 S ((S c (hq_75 S v3 (Int32.ofInt 3)).toNatClampNeg)) (i2)) rfl rfl ?_
            show hp_T _ 91 35 _ [.int (hq_72 S (S c (hq_75 S v3 (Int32.ofInt 3)).toNatClampNeg) i2)] _ _ _
            refine hp_sN [36, 37, 38] (pc' := 38) (L' := [some (.ref c), some (.int i2), some (.int v2), some (.int v3)]) (st' := [.int (Int32.ofInt 3), .int v2, .ref c, .int (hq_72 S (S c (hq_75 S v3 (Int32.ofInt 3)).toNatClampNeg) i2)]) rfl rfl ?_
            refine hp_iv (virt := false) (pc' := 41) (rv := some (.int (hq_75 S v2 (Int32.ofInt 3)))) (M1 := hp_mem X (S)) rfl rfl (by decide) (hk_75 S (v2) ((Int32.ofInt 3))) rfl rfl ?_
            show hp_T _ 91 41 _ [.int (hq_75 S v2 (Int32.ofInt 3)), .ref c, .int (hq_72 S (S c (hq_75 S v3 (Int32.ofInt 3)).toNatClampNeg) i2)] _ _ _
            refine hp_al (pc' := 42) rfl (hp_cl hc) (hp_cc hc X _) rfl ?_
            refine hp_sN [43] (pc' := 43) (L' := [some (.ref c), some (.int i2), some (.int v2), some (.int v3)]) (st' := [.int i2, .int (S c (hq_75 S v2 (Int32.ofInt 3)).toNatClampNeg), .int (hq_72 S (S c (hq_75 S v3 (Int32.ofInt 3)).toNatClampNeg) i2)]) rfl rfl ?_
            refine hp_iv (virt := false) (pc' := 46) (rv := some (.int (hq_72 S (S c (hq_75 S v2 (Int32.ofInt 3)).toNatClampNeg) i2))) (M1 := hp_mem X (S)) rfl rfl (by decide) (hk_72 S ((S c (hq_75 S v2 (Int32.ofInt 3)).toNatClampNeg)) (i2)) rfl rfl ?_
            show hp_T _ 91 46 _ [.int (hq_72 S (S c (hq_75 S v2 (Int32.ofInt 3)).toNatClampNeg) i2), .int (hq_72 S (S c (hq_75 S v3 (Int32.ofInt 3)).toNatClampNeg) i2)] _ _ _
            refine hp_ic2 (pc' := 49) rfl rfl (fun h4 => ?_) (fun h4 => ?_)
            · rw [if_pos h4] at hZ
              refine hp_sB 54 [5] (pc' := 5) (L' := [some (.ref c), some (.int i2), some (.int v2), some (.int (v3 + (Int32.ofInt 1)))]) (st' := []) rfl rfl ?_
              exact ih (Nat.le_trans (Nat.le_succ n) hN) m (v2) ((v3 + (Int32.ofInt 1))) Z (hp_up h1 hm) hZ kk
            · rw [if_neg (hp_nt h4)] at hZ
              refine hp_sB 50 [51, 54, 5] (pc' := 5) (L' := [some (.ref c), some (.int i2), some (.int v3), some (.int (v3 + (Int32.ofInt 1)))]) (st' := []) rfl rfl ?_
              exact ih (Nat.le_trans (Nat.le_succ n) hN) m (v3) ((v3 + (Int32.ofInt 1))) Z (hp_up h1 hm) hZ kk
set_option maxRecDepth 10000 in
theorem ht_91 {X : hp_X} {c : Nat} (hc : hp_c c) (S : hp_S) (i2 : Int32) (n : Nat) : hp_T n 91 0 [some (.ref c), some (.int i2), none, none] [] (hp_mem X S) (hp_i X S) (hq_91 S c i2) := by
  unfold hq_91
  refine hp_sN [2, 3, 4, 5] (pc' := 5) (L' := [some (.ref c), some (.int i2), some (.int (Int32.ofInt (-4))), some (.int (Int32.ofInt 0))]) (st' := []) rfl rfl ?_
  refine ht_91_5 n hc i2 S n (Nat.le_refl _) (((S c (Int32.ofInt 1).toNatClampNeg).toInt - (Int32.ofInt 0).toInt).toNat + 1)  ((Int32.ofInt (-4))) ((Int32.ofInt 0))  _ (Nat.lt_succ_self _) rfl (fun x3_5 => ?_)
  show hp_T _ 91 57 [some (.ref c), some (.int i2), some (.int (hq_91_5 c i2 (((S c (Int32.ofInt 1).toNatClampNeg).toInt - (Int32.ofInt 0).toInt).toNat + 1) S ((Int32.ofInt (-4))) ((Int32.ofInt 0)))), x3_5] _ (hp_mem X S) _ _
  refine hp_sN [58] (pc' := 58) (L' := [some (.ref c), some (.int i2), some (.int (hq_91_5 c i2 (((S c (Int32.ofInt 1).toNatClampNeg).toInt - (Int32.ofInt 0).toInt).toNat + 1) S ((Int32.ofInt (-4))) ((Int32.ofInt 0)))), x3_5]) (st' := [.int (hq_91_5 c i2 (((S c (Int32.ofInt 1).toNatClampNeg).toInt - (Int32.ofInt 0).toInt).toNat + 1) S ((Int32.ofInt (-4))) ((Int32.ofInt 0)))]) rfl rfl ?_
  exact hp_Ri rfl
theorem hk_91 {X : hp_X} {c : Nat} (hc : hp_c c) (S : hp_S) (i2 : Int32) : hp_K 91 [.ref c, .int i2] (hp_mem X S) (hp_i X S) (hq_91 S c i2) := by
  refine hp_mk (q := hzq_91) rfl (by decide) (L := [some (.ref c), some (.int i2), none, none]) rfl (fun n => ?_)
  exact ht_91 hc S i2 n

/-! 92: HatsOfTheWindModel.runs([II)V -/
def hq_92_82 (c : Nat) (i2 : Int32) : Nat → hp_S → Int32 → Int32 → Int32 → hp_S
  | 0, S, _, _, _ => S
  | m + 1, S, v2, v3, v4 => (if hz_cmp .ge v4 (S c (Int32.ofInt 1).toNatClampNeg) = true then S else (if hz_cmp .eq (hq_86 S c v4) 0 = true then hq_92_82 c i2 m S v2 v3 (v4 + (Int32.ofInt 1)) else (if hz_cmp .eq (S c (hq_75 S v4 (Int32.ofInt 3)).toNatClampNeg) (S c (hq_74 S i2 (Int32.ofInt 0)).toNatClampNeg) = true then hp_wg 80 S c (hq_75 S v4 (Int32.ofInt 2)) i2 else hq_92_82 c i2 m S v2 v3 (v4 + (Int32.ofInt 1)))))
def hq_92 (S : hp_S) (c : Nat) (i2 : Int32) : hp_S := (if hz_cmp .lt (hq_91 S c (S c (hq_74 S i2 (Int32.ofInt 0)).toNatClampNeg)) 0 = true then (hq_92_82 c i2 (((S c (Int32.ofInt 1).toNatClampNeg).toInt - (Int32.ofInt 0).toInt).toNat + 1) S ((S c (hq_74 S i2 (Int32.ofInt 0)).toNatClampNeg)) ((hq_91 S c (S c (hq_74 S i2 (Int32.ofInt 0)).toNatClampNeg))) ((Int32.ofInt 0))) else (if hz_cmp .ne (hq_79 S (S c (Int32.ofInt 5).toNatClampNeg) i2) 0 = true then (hq_92_82 c i2 (((S c (Int32.ofInt 1).toNatClampNeg).toInt - (Int32.ofInt 0).toInt).toNat + 1) S ((S c (hq_74 S i2 (Int32.ofInt 0)).toNatClampNeg)) ((hq_91 S c (S c (hq_74 S i2 (Int32.ofInt 0)).toNatClampNeg))) ((Int32.ofInt 0))) else (if hz_cmp .le (S c (hq_75 S (hq_91 S c (S c (hq_74 S i2 (Int32.ofInt 0)).toNatClampNeg)) (Int32.ofInt 3)).toNatClampNeg) (S c (hq_74 S i2 (Int32.ofInt 0)).toNatClampNeg) = true then (hq_92_82 c i2 (((hp_wg 80 S c (hq_74 S i2 (Int32.ofInt 0)) ((S c (hq_74 S i2 (Int32.ofInt 0)).toNatClampNeg) - (hq_71 S (hq_72 S (S c (hq_74 S i2 (Int32.ofInt 0)).toNatClampNeg) (S c (hq_75 S (hq_91 S c (S c (hq_74 S i2 (Int32.ofInt 0)).toNatClampNeg)) (Int32.ofInt 3)).toNatClampNeg)) (S c (hq_74 S i2 (Int32.ofInt 1)).toNatClampNeg))) c (Int32.ofInt 1).toNatClampNeg).toInt - (Int32.ofInt 0).toInt).toNat + 1) (hp_wg 80 S c (hq_74 S i2 (Int32.ofInt 0)) ((S c (hq_74 S i2 (Int32.ofInt 0)).toNatClampNeg) - (hq_71 S (hq_72 S (S c (hq_74 S i2 (Int32.ofInt 0)).toNatClampNeg) (S c (hq_75 S (hq_91 S c (S c (hq_74 S i2 (Int32.ofInt 0)).toNatClampNeg)) (Int32.ofInt 3)).toNatClampNeg)) (S c (hq_74 S i2 (Int32.ofInt 1)).toNatClampNeg)))) ((S c (hq_74 S i2 (Int32.ofInt 0)).toNatClampNeg)) ((hq_91 S c (S c (hq_74 S i2 (Int32.ofInt 0)).toNatClampNeg))) ((Int32.ofInt 0))) else (hq_92_82 c i2 (((hp_wg 80 S c (hq_74 S i2 (Int32.ofInt 0)) ((S c (hq_74 S i2 (Int32.ofInt 0)).toNatClampNeg) + (hq_71 S (hq_72 S (S c (hq_74 S i2 (Int32.ofInt 0)).toNatClampNeg) (S c (hq_75 S (hq_91 S c (S c (hq_74 S i2 (Int32.ofInt 0)).toNatClampNeg)) (Int32.ofInt 3)).toNatClampNeg)) (S c (hq_74 S i2 (Int32.ofInt 1)).toNatClampNeg))) c (Int32.ofInt 1).toNatClampNeg).toInt - (Int32.ofInt 0).toInt).toNat + 1) (hp_wg 80 S c (hq_74 S i2 (Int32.ofInt 0)) ((S c (hq_74 S i2 (Int32.ofInt 0)).toNatClampNeg) + (hq_71 S (hq_72 S (S c (hq_74 S i2 (Int32.ofInt 0)).toNatClampNeg) (S c (hq_75 S (hq_91 S c (S c (hq_74 S i2 (Int32.ofInt 0)).toNatClampNeg)) (Int32.ofInt 3)).toNatClampNeg)) (S c (hq_74 S i2 (Int32.ofInt 1)).toNatClampNeg)))) ((S c (hq_74 S i2 (Int32.ofInt 0)).toNatClampNeg)) ((hq_91 S c (S c (hq_74 S i2 (Int32.ofInt 0)).toNatClampNeg))) ((Int32.ofInt 0))))))
theorem hf_92_82 {c : Nat} {i2 : Int32} (j : Nat) (z0 : j ≠ c) : ∀ (m : Nat) (S : hp_S) (v2 : Int32) (v3 : Int32) (v4 : Int32), (hq_92_82 c i2 m S v2 v3 v4) j = S j := by
  intro m
  induction m with
  | zero => intros; rfl
  | succ m ih =>
    intro S v2 v3 v4
    rw [hq_92_82]
    repeat' split
    all_goals simp [ih, hp_wo, hp_wgo, hp_cpo, z0]
theorem hf_92 {c : Nat} (S : hp_S) (i2 : Int32) (j : Nat) (z0 : j ≠ c) : (hq_92 S c i2) j = S j := by
  unfold hq_92
  repeat' split
  all_goals simp [hp_wo, hp_wgo, hp_cpo, z0, hf_92_82]
set_option maxRecDepth 10000 in
theorem ht_92_82 {X : hp_X} {c : Nat} (hc : hp_c c) (i2 : Int32) : ∀ (n m : Nat) (S : hp_S) (v2 : Int32) (v3 : Int32) (v4 : Int32) (x5 : Option Value), ((S c (Int32.ofInt 1).toNatClampNeg).toInt - v4.toInt).toNat < m → hp_T n 92 82 [some (.ref c), some (.int i2), some (.int v2), some (.int v3), some (.int v4), x5] [] (hp_mem X S) (hp_v X) (hq_92_82 c i2 m S v2 v3 v4) := by
  intro n
  induction n with
  | zero => intros; exact hp_0
  | succ n ih =>
    intro m S v2 v3 v4 x5 hm
    cases m with
    | zero => exact absurd hm (Nat.not_lt_zero _)
    | succ m =>
      rw [hq_92_82]
      refine hp_sN [84, 85, 86] (pc' := 86) (L' := [some (.ref c), some (.int i2), some (.int v2), some (.int v3), some (.int v4), x5]) (st' := [.int (Int32.ofInt 1), .ref c, .int v4]) rfl rfl ?_
      refine hp_al (pc' := 87) rfl (hp_cl hc) (hp_cc hc X _) rfl ?_
      refine hp_ic (pc' := 90) rfl rfl (fun h1 => ?_) (fun h1 => ?_)
      · exact hp_Rv rfl
      · refine hp_sN [91, 93] (pc' := 93) (L' := [some (.ref c), some (.int i2), some (.int v2), some (.int v3), some (.int v4), x5]) (st' := [.int v4, .ref c]) rfl rfl ?_
        refine hp_iv (virt := false) (pc' := 96) (rv := some (.int (hq_86 S c v4))) (M1 := hp_mem X (S)) rfl rfl (by decide) (hk_86 hc S (v4)) rfl rfl ?_
        show hp_T _ 92 96 _ [.int (hq_86 S c v4)] _ _ _
        refine hp_if (pc' := 99) rfl rfl (fun h2 => ?_) (fun h2 => ?_)
        · refine hp_sB 133 [82] (pc' := 82) (L' := [some (.ref c), some (.int i2), some (.int v2), some (.int v3), some (.int (v4 + (Int32.ofInt 1))), x5]) (st' := []) rfl rfl ?_
          exact ih m S (v2) (v3) ((v4 + (Int32.ofInt 1))) (x5) (hp_up h1 hm)
        · refine hp_sN [100, 102, 103] (pc' := 103) (L' := [some (.ref c), some (.int i2), some (.int v2), some (.int v3), some (.int v4), x5]) (st' := [.int (Int32.ofInt 3), .int v4, .ref c]) rfl rfl ?_
          refine hp_iv (virt := false) (pc' := 106) (rv := some (.int (hq_75 S v4 (Int32.ofInt 3)))) (M1 := hp_mem X (S)) rfl rfl (by decide) (hk_75 S (v4) ((Int32.ofInt 3))) rfl rfl ?_
          show hp_T _ 92 106 _ [.int (hq_75 S v4 (Int32.ofInt 3)), .ref c] _ _ _
          refine hp_al (pc' := 107) rfl (hp_cl hc) (hp_cc hc X _) rfl ?_
          refine hp_sN [108, 109, 110] (pc' := 110) (L' := [some (.ref c), some (.int i2), some (.int v2), some (.int v3), some (.int v4), x5]) (st' := [.int (Int32.ofInt 0), .int i2, .ref c, .int (S c (hq_75 S v4 (Int32.ofInt 3)).toNatClampNeg)]) rfl rfl ?_
          refine hp_iv (virt := false) (pc' := 113) (rv := some (.int (hq_74 S i2 (Int32.ofInt 0)))) (M1 := hp_mem X (S)) rfl rfl (by decide) (hk_74 S (i2) ((Int32.ofInt 0))) rfl rfl ?_
          show hp_T _ 92 113 _ [.int (hq_74 S i2 (Int32.ofInt 0)), .ref c, .int (S c (hq_75 S v4 (Int32.ofInt 3)).toNatClampNeg)] _ _ _
          refine hp_al (pc' := 114) rfl (hp_cl hc) (hp_cc hc X _) rfl ?_
          refine hp_ic (pc' := 117) rfl rfl (fun h3 => ?_) (fun h3 => ?_)
          · refine hp_sN [121, 123, 124] (pc' := 124) (L' := [some (.ref c), some (.int i2), some (.int v2), some (.int v3), some (.int v4), x5]) (st' := [.int (Int32.ofInt 2), .int v4, .ref c]) rfl rfl ?_
            refine hp_iv (virt := false) (pc' := 127) (rv := some (.int (hq_75 S v4 (Int32.ofInt 2)))) (M1 := hp_mem X (S)) rfl rfl (by decide) (hk_75 S (v4) ((Int32.ofInt 2))) rfl rfl ?_
            show hp_T _ 92 127 _ [.int (hq_75 S v4 (Int32.ofInt 2)), .ref c] _ _ _
            refine hp_sN [128] (pc' := 128) (L' := [some (.ref c), some (.int i2), some (.int v2), some (.int v3), some (.int v4), x5]) (st' := [.int i2, .int (hq_75 S v4 (Int32.ofInt 2)), .ref c]) rfl rfl ?_
            refine hp_asg (pc' := 129) rfl (hp_cl hc) (fun _ => (hp_cc hc X _)) rfl ?_
            exact hp_Rv rfl
          · refine hp_sB 130 [133, 82] (pc' := 82) (L' := [some (.ref c), some (.int i2), some (.int v2), some (.int v3), some (.int (v4 + (Int32.ofInt 1))), x5]) (st' := []) rfl rfl ?_
            exact ih m S (v2) (v3) ((v4 + (Int32.ofInt 1))) (x5) (hp_up h1 hm)
set_option maxRecDepth 10000 in
theorem ht_92 {X : hp_X} {c : Nat} (hc : hp_c c) (S : hp_S) (i2 : Int32) (n : Nat) : hp_T n 92 0 [some (.ref c), some (.int i2), none, none, none, none] [] (hp_mem X S) (hp_v X) (hq_92 S c i2) := by
  unfold hq_92
  refine hp_sN [1, 2, 3] (pc' := 3) (L' := [some (.ref c), some (.int i2), none, none, none, none]) (st' := [.int (Int32.ofInt 0), .int i2, .ref c]) rfl rfl ?_
  refine hp_iv (virt := false) (pc' := 6) (rv := some (.int (hq_74 S i2 (Int32.ofInt 0)))) (M1 := hp_mem X (S)) rfl rfl (by decide) (hk_74 S (i2) ((Int32.ofInt 0))) rfl rfl ?_
  show hp_T _ 92 6 _ [.int (hq_74 S i2 (Int32.ofInt 0)), .ref c] _ _ _
  refine hp_al (pc' := 7) rfl (hp_cl hc) (hp_cc hc X _) rfl ?_
  refine hp_sN [8, 9, 10] (pc' := 10) (L' := [some (.ref c), some (.int i2), some (.int (S c (hq_74 S i2 (Int32.ofInt 0)).toNatClampNeg)), none, none, none]) (st' := [.int (S c (hq_74 S i2 (Int32.ofInt 0)).toNatClampNeg), .ref c]) rfl rfl ?_
  refine hp_iv (virt := false) (pc' := 13) (rv := some (.int (hq_91 S c (S c (hq_74 S i2 (Int32.ofInt 0)).toNatClampNeg)))) (M1 := hp_mem X (S)) rfl rfl (by decide) (hk_91 hc S ((S c (hq_74 S i2 (Int32.ofInt 0)).toNatClampNeg))) rfl rfl ?_
  show hp_T _ 92 13 _ [.int (hq_91 S c (S c (hq_74 S i2 (Int32.ofInt 0)).toNatClampNeg))] _ _ _
  refine hp_sN [14, 15] (pc' := 15) (L' := [some (.ref c), some (.int i2), some (.int (S c (hq_74 S i2 (Int32.ofInt 0)).toNatClampNeg)), some (.int (hq_91 S c (S c (hq_74 S i2 (Int32.ofInt 0)).toNatClampNeg))), none, none]) (st' := [.int (hq_91 S c (S c (hq_74 S i2 (Int32.ofInt 0)).toNatClampNeg))]) rfl rfl ?_
  refine hp_if (pc' := 18) rfl rfl (fun h1 => ?_) (fun h1 => ?_)
  · refine hp_sN [80, 82] (pc' := 82) (L' := [some (.ref c), some (.int i2), some (.int (S c (hq_74 S i2 (Int32.ofInt 0)).toNatClampNeg)), some (.int (hq_91 S c (S c (hq_74 S i2 (Int32.ofInt 0)).toNatClampNeg))), some (.int (Int32.ofInt 0)), none]) (st' := []) rfl rfl ?_
    exact ht_92_82 hc i2  n (((S c (Int32.ofInt 1).toNatClampNeg).toInt - (Int32.ofInt 0).toInt).toNat + 1) S ((S c (hq_74 S i2 (Int32.ofInt 0)).toNatClampNeg)) ((hq_91 S c (S c (hq_74 S i2 (Int32.ofInt 0)).toNatClampNeg))) ((Int32.ofInt 0)) (none) (Nat.lt_succ_self _)
  · refine hp_sN [19, 20] (pc' := 20) (L' := [some (.ref c), some (.int i2), some (.int (S c (hq_74 S i2 (Int32.ofInt 0)).toNatClampNeg)), some (.int (hq_91 S c (S c (hq_74 S i2 (Int32.ofInt 0)).toNatClampNeg))), none, none]) (st' := [.int (Int32.ofInt 5), .ref c]) rfl rfl ?_
    refine hp_al (pc' := 21) rfl (hp_cl hc) (hp_cc hc X _) rfl ?_
    refine hp_sN [22] (pc' := 22) (L' := [some (.ref c), some (.int i2), some (.int (S c (hq_74 S i2 (Int32.ofInt 0)).toNatClampNeg)), some (.int (hq_91 S c (S c (hq_74 S i2 (Int32.ofInt 0)).toNatClampNeg))), none, none]) (st' := [.int i2, .int (S c (Int32.ofInt 5).toNatClampNeg)]) rfl rfl ?_
    refine hp_iv (virt := false) (pc' := 25) (rv := some (.int (hq_79 S (S c (Int32.ofInt 5).toNatClampNeg) i2))) (M1 := hp_mem X (S)) rfl rfl (by decide) (hk_79 S ((S c (Int32.ofInt 5).toNatClampNeg)) (i2)) rfl rfl ?_
    show hp_T _ 92 25 _ [.int (hq_79 S (S c (Int32.ofInt 5).toNatClampNeg) i2)] _ _ _
    refine hp_if (pc' := 28) rfl rfl (fun h2 => ?_) (fun h2 => ?_)
    · refine hp_sN [80, 82] (pc' := 82) (L' := [some (.ref c), some (.int i2), some (.int (S c (hq_74 S i2 (Int32.ofInt 0)).toNatClampNeg)), some (.int (hq_91 S c (S c (hq_74 S i2 (Int32.ofInt 0)).toNatClampNeg))), some (.int (Int32.ofInt 0)), none]) (st' := []) rfl rfl ?_
      exact ht_92_82 hc i2  n (((S c (Int32.ofInt 1).toNatClampNeg).toInt - (Int32.ofInt 0).toInt).toNat + 1) S ((S c (hq_74 S i2 (Int32.ofInt 0)).toNatClampNeg)) ((hq_91 S c (S c (hq_74 S i2 (Int32.ofInt 0)).toNatClampNeg))) ((Int32.ofInt 0)) (none) (Nat.lt_succ_self _)
    · refine hp_sN [29, 30, 31] (pc' := 31) (L' := [some (.ref c), some (.int i2), some (.int (S c (hq_74 S i2 (Int32.ofInt 0)).toNatClampNeg)), some (.int (hq_91 S c (S c (hq_74 S i2 (Int32.ofInt 0)).toNatClampNeg))), none, none]) (st' := [.int (Int32.ofInt 3), .int (hq_91 S c (S c (hq_74 S i2 (Int32.ofInt 0)).toNatClampNeg)), .ref c]) rfl rfl ?_
      refine hp_iv (virt := false) (pc' := 34) (rv := some (.int (hq_75 S (hq_91 S c (S c (hq_74 S i2 (Int32.ofInt 0)).toNatClampNeg)) (Int32.ofInt 3)))) (M1 := hp_mem X (S)) rfl rfl (by decide) (hk_75 S ((hq_91 S c (S c (hq_74 S i2 (Int32.ofInt 0)).toNatClampNeg))) ((Int32.ofInt 3))) rfl rfl ?_
      show hp_T _ 92 34 _ [.int (hq_75 S (hq_91 S c (S c (hq_74 S i2 (Int32.ofInt 0)).toNatClampNeg)) (Int32.ofInt 3)), .ref c] _ _ _
      refine hp_al (pc' := 35) rfl (hp_cl hc) (hp_cc hc X _) rfl ?_
      refine hp_sN [37, 38, 40] (pc' := 40) (L' := [some (.ref c), some (.int i2), some (.int (S c (hq_74 S i2 (Int32.ofInt 0)).toNatClampNeg)), some (.int (hq_91 S c (S c (hq_74 S i2 (Int32.ofInt 0)).toNatClampNeg))), some (.int (S c (hq_75 S (hq_91 S c (S c (hq_74 S i2 (Int32.ofInt 0)).toNatClampNeg)) (Int32.ofInt 3)).toNatClampNeg)), none]) (st' := [.int (S c (hq_75 S (hq_91 S c (S c (hq_74 S i2 (Int32.ofInt 0)).toNatClampNeg)) (Int32.ofInt 3)).toNatClampNeg), .int (S c (hq_74 S i2 (Int32.ofInt 0)).toNatClampNeg)]) rfl rfl ?_
      refine hp_iv (virt := false) (pc' := 43) (rv := some (.int (hq_72 S (S c (hq_74 S i2 (Int32.ofInt 0)).toNatClampNeg) (S c (hq_75 S (hq_91 S c (S c (hq_74 S i2 (Int32.ofInt 0)).toNatClampNeg)) (Int32.ofInt 3)).toNatClampNeg)))) (M1 := hp_mem X (S)) rfl rfl (by decide) (hk_72 S ((S c (hq_74 S i2 (Int32.ofInt 0)).toNatClampNeg)) ((S c (hq_75 S (hq_91 S c (S c (hq_74 S i2 (Int32.ofInt 0)).toNatClampNeg)) (Int32.ofInt 3)).toNatClampNeg))) rfl rfl ?_
      show hp_T _ 92 43 _ [.int (hq_72 S (S c (hq_74 S i2 (Int32.ofInt 0)).toNatClampNeg) (S c (hq_75 S (hq_91 S c (S c (hq_74 S i2 (Int32.ofInt 0)).toNatClampNeg)) (Int32.ofInt 3)).toNatClampNeg))] _ _ _
      refine hp_sN [44, 45, 46] (pc' := 46) (L' := [some (.ref c), some (.int i2), some (.int (S c (hq_74 S i2 (Int32.ofInt 0)).toNatClampNeg)), some (.int (hq_91 S c (S c (hq_74 S i2 (Int32.ofInt 0)).toNatClampNeg))), some (.int (S c (hq_75 S (hq_91 S c (S c (hq_74 S i2 (Int32.ofInt 0)).toNatClampNeg)) (Int32.ofInt 3)).toNatClampNeg)), none]) (st' := [.int (Int32.ofInt 1), .int i2, .ref c, .int (hq_72 S (S c (hq_74 S i2 (Int32.ofInt 0)).toNatClampNeg) (S c (hq_75 S (hq_91 S c (S c (hq_74 S i2 (Int32.ofInt 0)).toNatClampNeg)) (Int32.ofInt 3)).toNatClampNeg))]) rfl rfl ?_
      refine hp_iv (virt := false) (pc' := 49) (rv := some (.int (hq_74 S i2 (Int32.ofInt 1)))) (M1 := hp_mem X (S)) rfl rfl (by decide) (hk_74 S (i2) ((Int32.ofInt 1))) rfl rfl ?_
      show hp_T _ 92 49 _ [.int (hq_74 S i2 (Int32.ofInt 1)), .ref c, .int (hq_72 S (S c (hq_74 S i2 (Int32.ofInt 0)).toNatClampNeg) (S c (hq_75 S (hq_91 S c (S c (hq_74 S i2 (Int32.ofInt 0)).toNatClampNeg)) (Int32.ofInt 3)).toNatClampNeg))] _ _ _
      refine hp_al (pc' := 50) rfl (hp_cl hc) (hp_cc hc X _) rfl ?_
      refine hp_iv (virt := false) (pc' := 53) (rv := some (.int (hq_71 S (hq_72 S (S c (hq_74 S i2 (Int32.ofInt 0)).toNatClampNeg) (S c (hq_75 S (hq_91 S c (S c (hq_74 S i2 (Int32.ofInt 0)).toNatClampNeg)) (Int32.ofInt 3)).toNatClampNeg)) (S c (hq_74 S i2 (Int32.ofInt 1)).toNatClampNeg)))) (M1 := hp_mem X (S)) rfl rfl (by decide) (hk_71 S ((hq_72 S (S c (hq_74 S i2 (Int32.ofInt 0)).toNatClampNeg) (S c (hq_75 S (hq_91 S c (S c (hq_74 S i2 (Int32.ofInt 0)).toNatClampNeg)) (Int32.ofInt 3)).toNatClampNeg))) ((S c (hq_74 S i2 (Int32.ofInt 1)).toNatClampNeg))) rfl rfl ?_
      show hp_T _ 92 53 _ [.int (hq_71 S (hq_72 S (S c (hq_74 S i2 (Int32.ofInt 0)).toNatClampNeg) (S c (hq_75 S (hq_91 S c (S c (hq_74 S i2 (Int32.ofInt 0)).toNatClampNeg)) (Int32.ofInt 3)).toNatClampNeg)) (S c (hq_74 S i2 (Int32.ofInt 1)).toNatClampNeg))] _ _ _
      refine hp_sN [55, 56, 57, 58] (pc' := 58) (L' := [some (.ref c), some (.int i2), some (.int (S c (hq_74 S i2 (Int32.ofInt 0)).toNatClampNeg)), some (.int (hq_91 S c (S c (hq_74 S i2 (Int32.ofInt 0)).toNatClampNeg))), some (.int (S c (hq_75 S (hq_91 S c (S c (hq_74 S i2 (Int32.ofInt 0)).toNatClampNeg)) (Int32.ofInt 3)).toNatClampNeg)), some (.int (hq_71 S (hq_72 S (S c (hq_74 S i2 (Int32.ofInt 0)).toNatClampNeg) (S c (hq_75 S (hq_91 S c (S c (hq_74 S i2 (Int32.ofInt 0)).toNatClampNeg)) (Int32.ofInt 3)).toNatClampNeg)) (S c (hq_74 S i2 (Int32.ofInt 1)).toNatClampNeg)))]) (st' := [.int (Int32.ofInt 0), .int i2, .ref c]) rfl rfl ?_
      refine hp_iv (virt := false) (pc' := 61) (rv := some (.int (hq_74 S i2 (Int32.ofInt 0)))) (M1 := hp_mem X (S)) rfl rfl (by decide) (hk_74 S (i2) ((Int32.ofInt 0))) rfl rfl ?_
      show hp_T _ 92 61 _ [.int (hq_74 S i2 (Int32.ofInt 0)), .ref c] _ _ _
      refine hp_sN [63, 64] (pc' := 64) (L' := [some (.ref c), some (.int i2), some (.int (S c (hq_74 S i2 (Int32.ofInt 0)).toNatClampNeg)), some (.int (hq_91 S c (S c (hq_74 S i2 (Int32.ofInt 0)).toNatClampNeg))), some (.int (S c (hq_75 S (hq_91 S c (S c (hq_74 S i2 (Int32.ofInt 0)).toNatClampNeg)) (Int32.ofInt 3)).toNatClampNeg)), some (.int (hq_71 S (hq_72 S (S c (hq_74 S i2 (Int32.ofInt 0)).toNatClampNeg) (S c (hq_75 S (hq_91 S c (S c (hq_74 S i2 (Int32.ofInt 0)).toNatClampNeg)) (Int32.ofInt 3)).toNatClampNeg)) (S c (hq_74 S i2 (Int32.ofInt 1)).toNatClampNeg)))]) (st' := [.int (S c (hq_74 S i2 (Int32.ofInt 0)).toNatClampNeg), .int (S c (hq_75 S (hq_91 S c (S c (hq_74 S i2 (Int32.ofInt 0)).toNatClampNeg)) (Int32.ofInt 3)).toNatClampNeg), .int (hq_74 S i2 (Int32.ofInt 0)), .ref c]) rfl rfl ?_
      refine hp_ic (pc' := 67) rfl rfl (fun h3 => ?_) (fun h3 => ?_)
      · refine hp_sN [75, 77, 78] (pc' := 78) (L' := [some (.ref c), some (.int i2), some (.int (S c (hq_74 S i2 (Int32.ofInt 0)).toNatClampNeg)), some (.int (hq_91 S c (S c (hq_74 S i2 (Int32.ofInt 0)).toNatClampNeg))), some (.int (S c (hq_75 S (hq_91 S c (S c (hq_74 S i2 (Int32.ofInt 0)).toNatClampNeg)) (Int32.ofInt 3)).toNatClampNeg)), some (.int (hq_71 S (hq_72 S (S c (hq_74 S i2 (Int32.ofInt 0)).toNatClampNeg) (S c (hq_75 S (hq_91 S c (S c (hq_74 S i2 (Int32.ofInt 0)).toNatClampNeg)) (Int32.ofInt 3)).toNatClampNeg)) (S c (hq_74 S i2 (Int32.ofInt 1)).toNatClampNeg)))]) (st' := [.int ((S c (hq_74 S i2 (Int32.ofInt 0)).toNatClampNeg) - (hq_71 S (hq_72 S (S c (hq_74 S i2 (Int32.ofInt 0)).toNatClampNeg) (S c (hq_75 S (hq_91 S c (S c (hq_74 S i2 (Int32.ofInt 0)).toNatClampNeg)) (Int32.ofInt 3)).toNatClampNeg)) (S c (hq_74 S i2 (Int32.ofInt 1)).toNatClampNeg))), .int (hq_74 S i2 (Int32.ofInt 0)), .ref c]) rfl rfl ?_
        refine hp_asg (pc' := 79) rfl (hp_cl hc) (fun _ => (hp_cc hc X _)) rfl ?_
        refine hp_sN [80, 82] (pc' := 82) (L' := [some (.ref c), some (.int i2), some (.int (S c (hq_74 S i2 (Int32.ofInt 0)).toNatClampNeg)), some (.int (hq_91 S c (S c (hq_74 S i2 (Int32.ofInt 0)).toNatClampNeg))), some (.int (Int32.ofInt 0)), some (.int (hq_71 S (hq_72 S (S c (hq_74 S i2 (Int32.ofInt 0)).toNatClampNeg) (S c (hq_75 S (hq_91 S c (S c (hq_74 S i2 (Int32.ofInt 0)).toNatClampNeg)) (Int32.ofInt 3)).toNatClampNeg)) (S c (hq_74 S i2 (Int32.ofInt 1)).toNatClampNeg)))]) (st' := []) rfl rfl ?_
        exact ht_92_82 hc i2  n (((hp_wg 80 S c (hq_74 S i2 (Int32.ofInt 0)) ((S c (hq_74 S i2 (Int32.ofInt 0)).toNatClampNeg) - (hq_71 S (hq_72 S (S c (hq_74 S i2 (Int32.ofInt 0)).toNatClampNeg) (S c (hq_75 S (hq_91 S c (S c (hq_74 S i2 (Int32.ofInt 0)).toNatClampNeg)) (Int32.ofInt 3)).toNatClampNeg)) (S c (hq_74 S i2 (Int32.ofInt 1)).toNatClampNeg))) c (Int32.ofInt 1).toNatClampNeg).toInt - (Int32.ofInt 0).toInt).toNat + 1) (hp_wg 80 S c (hq_74 S i2 (Int32.ofInt 0)) ((S c (hq_74 S i2 (Int32.ofInt 0)).toNatClampNeg) - (hq_71 S (hq_72 S (S c (hq_74 S i2 (Int32.ofInt 0)).toNatClampNeg) (S c (hq_75 S (hq_91 S c (S c (hq_74 S i2 (Int32.ofInt 0)).toNatClampNeg)) (Int32.ofInt 3)).toNatClampNeg)) (S c (hq_74 S i2 (Int32.ofInt 1)).toNatClampNeg)))) ((S c (hq_74 S i2 (Int32.ofInt 0)).toNatClampNeg)) ((hq_91 S c (S c (hq_74 S i2 (Int32.ofInt 0)).toNatClampNeg))) ((Int32.ofInt 0)) (some (.int (hq_71 S (hq_72 S (S c (hq_74 S i2 (Int32.ofInt 0)).toNatClampNeg) (S c (hq_75 S (hq_91 S c (S c (hq_74 S i2 (Int32.ofInt 0)).toNatClampNeg)) (Int32.ofInt 3)).toNatClampNeg)) (S c (hq_74 S i2 (Int32.ofInt 1)).toNatClampNeg)))) (Nat.lt_succ_self _)
      · refine hp_sN [68, 70, 71, 78] (pc' := 78) (L' := [some (.ref c), some (.int i2), some (.int (S c (hq_74 S i2 (Int32.ofInt 0)).toNatClampNeg)), some (.int (hq_91 S c (S c (hq_74 S i2 (Int32.ofInt 0)).toNatClampNeg))), some (.int (S c (hq_75 S (hq_91 S c (S c (hq_74 S i2 (Int32.ofInt 0)).toNatClampNeg)) (Int32.ofInt 3)).toNatClampNeg)), some (.int (hq_71 S (hq_72 S (S c (hq_74 S i2 (Int32.ofInt 0)).toNatClampNeg) (S c (hq_75 S (hq_91 S c (S c (hq_74 S i2 (Int32.ofInt 0)).toNatClampNeg)) (Int32.ofInt 3)).toNatClampNeg)) (S c (hq_74 S i2 (Int32.ofInt 1)).toNatClampNeg)))]) (st' := [.int ((S c (hq_74 S i2 (Int32.ofInt 0)).toNatClampNeg) + (hq_71 S (hq_72 S (S c (hq_74 S i2 (Int32.ofInt 0)).toNatClampNeg) (S c (hq_75 S (hq_91 S c (S c (hq_74 S i2 (Int32.ofInt 0)).toNatClampNeg)) (Int32.ofInt 3)).toNatClampNeg)) (S c (hq_74 S i2 (Int32.ofInt 1)).toNatClampNeg))), .int (hq_74 S i2 (Int32.ofInt 0)), .ref c]) rfl rfl ?_
        refine hp_asg (pc' := 79) rfl (hp_cl hc) (fun _ => (hp_cc hc X _)) rfl ?_
        refine hp_sN [80, 82] (pc' := 82) (L' := [some (.ref c), some (.int i2), some (.int (S c (hq_74 S i2 (Int32.ofInt 0)).toNatClampNeg)), some (.int (hq_91 S c (S c (hq_74 S i2 (Int32.ofInt 0)).toNatClampNeg))), some (.int (Int32.ofInt 0)), some (.int (hq_71 S (hq_72 S (S c (hq_74 S i2 (Int32.ofInt 0)).toNatClampNeg) (S c (hq_75 S (hq_91 S c (S c (hq_74 S i2 (Int32.ofInt 0)).toNatClampNeg)) (Int32.ofInt 3)).toNatClampNeg)) (S c (hq_74 S i2 (Int32.ofInt 1)).toNatClampNeg)))]) (st' := []) rfl rfl ?_
        exact ht_92_82 hc i2  n (((hp_wg 80 S c (hq_74 S i2 (Int32.ofInt 0)) ((S c (hq_74 S i2 (Int32.ofInt 0)).toNatClampNeg) + (hq_71 S (hq_72 S (S c (hq_74 S i2 (Int32.ofInt 0)).toNatClampNeg) (S c (hq_75 S (hq_91 S c (S c (hq_74 S i2 (Int32.ofInt 0)).toNatClampNeg)) (Int32.ofInt 3)).toNatClampNeg)) (S c (hq_74 S i2 (Int32.ofInt 1)).toNatClampNeg))) c (Int32.ofInt 1).toNatClampNeg).toInt - (Int32.ofInt 0).toInt).toNat + 1) (hp_wg 80 S c (hq_74 S i2 (Int32.ofInt 0)) ((S c (hq_74 S i2 (Int32.ofInt 0)).toNatClampNeg) + (hq_71 S (hq_72 S (S c (hq_74 S i2 (Int32.ofInt 0)).toNatClampNeg) (S c (hq_75 S (hq_91 S c (S c (hq_74 S i2 (Int32.ofInt 0)).toNatClampNeg)) (Int32.ofInt 3)).toNatClampNeg)) (S c (hq_74 S i2 (Int32.ofInt 1)).toNatClampNeg)))) ((S c (hq_74 S i2 (Int32.ofInt 0)).toNatClampNeg)) ((hq_91 S c (S c (hq_74 S i2 (Int32.ofInt 0)).toNatClampNeg))) ((Int32.ofInt 0)) (some (.int (hq_71 S (hq_72 S (S c (hq_74 S i2 (Int32.ofInt 0)).toNatClampNeg) (S c (hq_75 S (hq_91 S c (S c (hq_74 S i2 (Int32.ofInt 0)).toNatClampNeg)) (Int32.ofInt 3)).toNatClampNeg)) (S c (hq_74 S i2 (Int32.ofInt 1)).toNatClampNeg)))) (Nat.lt_succ_self _)
theorem hk_92 {X : hp_X} {c : Nat} (hc : hp_c c) (S : hp_S) (i2 : Int32) : hp_K 92 [.ref c, .int i2] (hp_mem X S) (hp_v X) (hq_92 S c i2) := by
  refine hp_mk (q := hzq_92) rfl (by decide) (L := [some (.ref c), some (.int i2), none, none, none, none]) rfl (fun n => ?_)
  exact ht_92 hc S i2 n
/-! 93: HatsOfTheWindModel.hour([II)V -/
def hq_93_2 (c : Nat) (i2 : Int32) : Nat → hp_S → Int32 → hp_S
  | 0, S, _ => S
  | m + 1, S, v2 => (if hz_cmp .ge v2 (S c (Int32.ofInt 1).toNatClampNeg) = true then S else (if hz_cmp .ne (S c (hq_75 S v2 (Int32.ofInt 2)).toNatClampNeg) (Int32.ofInt 9) = true then (if hz_cmp .le (hq_84 S c (S c (hq_74 S (S c (hq_75 S v2 (Int32.ofInt 2)).toNatClampNeg) (Int32.ofInt 0)).toNatClampNeg) (S c (Int32.ofInt 2).toNatClampNeg) i2) ((hq_81 S (S c (hq_75 S v2 (Int32.ofInt 0)).toNatClampNeg) (S c (hq_75 S v2 (Int32.ofInt 1)).toNatClampNeg)) + (S c (hq_74 S (S c (hq_75 S v2 (Int32.ofInt 2)).toNatClampNeg) (Int32.ofInt 2)).toNatClampNeg)) = true then hq_93_2 c i2 m S (v2 + (Int32.ofInt 1)) else hq_93_2 c i2 m (hq_89 S c v2) (v2 + (Int32.ofInt 1))) else hq_93_2 c i2 m S (v2 + (Int32.ofInt 1))))
def hq_93_82 (c : Nat) (i2 : Int32) : Nat → hp_S → Int32 → hp_S
  | 0, S, _ => S
  | m + 1, S, v2 => (if hz_cmp .ge v2 (S c (Int32.ofInt 1).toNatClampNeg) = true then S else (if hz_cmp .ne (hq_86 S c v2) 0 = true then hq_93_82 c i2 m (hp_wg 80 S c (hq_75 S v2 (Int32.ofInt 3)) (hq_90 S c v2 (S c (hq_75 S v2 (Int32.ofInt 3)).toNatClampNeg) (hq_84 S c (S c (hq_75 S v2 (Int32.ofInt 3)).toNatClampNeg) (S c (Int32.ofInt 2).toNatClampNeg) i2))) (v2 + (Int32.ofInt 1)) else hq_93_82 c i2 m S (v2 + (Int32.ofInt 1))))
def hq_93_142 (c : Nat) (i2 : Int32) : Nat → hp_S → Int32 → hp_S
  | 0, S, _ => S
  | m + 1, S, v2 => (if hz_cmp .ge v2 (S c (Int32.ofInt 0).toNatClampNeg) = true then S else (if hz_cmp .ne (hq_88 S c v2) (Int32.ofInt 9) = true then hq_93_142 c i2 m S (v2 + (Int32.ofInt 1)) else hq_93_142 c i2 m (hq_92 S c v2) (v2 + (Int32.ofInt 1))))
def hq_93_170 (c : Nat) (i2 : Int32) (S : hp_S) : hp_S := (if hz_cmp .ne (hp_wg 80 S c (Int32.ofInt 2) (((S c (Int32.ofInt 2).toNatClampNeg) + (Int32.ofInt 1)) - ((S c (Int32.ofInt 2).toNatClampNeg) + (Int32.ofInt 1)) / (Int32.ofInt 24) * (Int32.ofInt 24)) c (Int32.ofInt 2).toNatClampNeg) 0 = true then hp_wg 80 (hp_wg 80 S c (Int32.ofInt 2) (((S c (Int32.ofInt 2).toNatClampNeg) + (Int32.ofInt 1)) - ((S c (Int32.ofInt 2).toNatClampNeg) + (Int32.ofInt 1)) / (Int32.ofInt 24) * (Int32.ofInt 24))) c (Int32.ofInt 3) ((hp_wg 80 S c (Int32.ofInt 2) (((S c (Int32.ofInt 2).toNatClampNeg) + (Int32.ofInt 1)) - ((S c (Int32.ofInt 2).toNatClampNeg) + (Int32.ofInt 1)) / (Int32.ofInt 24) * (Int32.ofInt 24)) c (Int32.ofInt 3).toNatClampNeg) + (Int32.ofInt 0)) else hp_wg 80 (hp_wg 80 S c (Int32.ofInt 2) (((S c (Int32.ofInt 2).toNatClampNeg) + (Int32.ofInt 1)) - ((S c (Int32.ofInt 2).toNatClampNeg) + (Int32.ofInt 1)) / (Int32.ofInt 24) * (Int32.ofInt 24))) c (Int32.ofInt 3) ((hp_wg 80 S c (Int32.ofInt 2) (((S c (Int32.ofInt 2).toNatClampNeg) + (Int32.ofInt 1)) - ((S c (Int32.ofInt 2).toNatClampNeg) + (Int32.ofInt 1)) / (Int32.ofInt 24) * (Int32.ofInt 24)) c (Int32.ofInt 3).toNatClampNeg) + (Int32.ofInt 1)))
def hq_93_140 (c : Nat) (i2 : Int32) (S : hp_S) : hp_S := (hq_93_170 c i2 ((hq_93_142 c i2 (((S c (Int32.ofInt 0).toNatClampNeg).toInt - (Int32.ofInt 0).toInt).toNat + 1) S ((Int32.ofInt 0)))) )
def hq_93_80 (c : Nat) (i2 : Int32) (S : hp_S) : hp_S := (hq_93_140 c i2 ((hq_93_82 c i2 (((S c (Int32.ofInt 1).toNatClampNeg).toInt - (Int32.ofInt 0).toInt).toNat + 1) S ((Int32.ofInt 0)))) )
def hq_93 (S : hp_S) (c : Nat) (i2 : Int32) : hp_S := (hq_93_80 c i2 ((hq_93_2 c i2 (((S c (Int32.ofInt 1).toNatClampNeg).toInt - (Int32.ofInt 0).toInt).toNat + 1) S ((Int32.ofInt 0)))) )
theorem hf_93_2 {c : Nat} {i2 : Int32} (j : Nat) (z0 : j ≠ c) : ∀ (m : Nat) (S : hp_S) (v2 : Int32), (hq_93_2 c i2 m S v2) j = S j := by
  intro m
  induction m with
  | zero => intros; rfl
  | succ m ih =>
    intro S v2
    rw [hq_93_2]
    repeat' split
    all_goals simp [ih, hp_wo, hp_wgo, hp_cpo, hf_89, hf_92, z0]
theorem hf_93_82 {c : Nat} {i2 : Int32} (j : Nat) (z0 : j ≠ c) : ∀ (m : Nat) (S : hp_S) (v2 : Int32), (hq_93_82 c i2 m S v2) j = S j := by
  intro m
  induction m with
  | zero => intros; rfl
  | succ m ih =>
    intro S v2
    rw [hq_93_82]
    repeat' split
    all_goals simp [ih, hp_wo, hp_wgo, hp_cpo, hf_89, hf_92, z0, hf_93_2]
theorem hf_93_142 {c : Nat} {i2 : Int32} (j : Nat) (z0 : j ≠ c) : ∀ (m : Nat) (S : hp_S) (v2 : Int32), (hq_93_142 c i2 m S v2) j = S j := by
  intro m
  induction m with
  | zero => intros; rfl
  | succ m ih =>
    intro S v2
    rw [hq_93_142]
    repeat' split
    all_goals simp [ih, hp_wo, hp_wgo, hp_cpo, hf_89, hf_92, z0, hf_93_2, hf_93_82]
theorem hf_93_170 {c : Nat} {i2 : Int32} (S : hp_S) (j : Nat) (z0 : j ≠ c) : (hq_93_170 c i2 S) j = S j := by
  unfold hq_93_170
  repeat' split
  all_goals simp [hp_wo, hp_wgo, hp_cpo, hf_89, hf_92, z0, hf_93_2, hf_93_82, hf_93_142]
theorem hf_93_140 {c : Nat} {i2 : Int32} (S : hp_S) (j : Nat) (z0 : j ≠ c) : (hq_93_140 c i2 S) j = S j := by
  unfold hq_93_140
  repeat' split
  all_goals simp [hp_wo, hp_wgo, hp_cpo, hf_89, hf_92, z0, hf_93_2, hf_93_82, hf_93_142, hf_93_170]
theorem hf_93_80 {c : Nat} {i2 : Int32} (S : hp_S) (j : Nat) (z0 : j ≠ c) : (hq_93_80 c i2 S) j = S j := by
  unfold hq_93_80
  repeat' split
  all_goals simp [hp_wo, hp_wgo, hp_cpo, hf_89, hf_92, z0, hf_93_2, hf_93_82, hf_93_142, hf_93_170, hf_93_140]
theorem hf_93 {c : Nat} (S : hp_S) (i2 : Int32) (j : Nat) (z0 : j ≠ c) : (hq_93 S c i2) j = S j := by
  unfold hq_93
  repeat' split
  all_goals simp [hp_wo, hp_wgo, hp_cpo, hf_89, hf_92, z0, hf_93_2, hf_93_82, hf_93_142, hf_93_170, hf_93_140, hf_93_80]
theorem hg_w3 (S : hp_S) (c : Nat) (v2 v : Int32) (S1 : hp_S) : (hp_wg 80 S c (hq_75 S1 v2 (Int32.ofInt 3)) v) c (Int32.ofInt 1).toNatClampNeg = S c (Int32.ofInt 1).toNatClampNeg :=
  hp_wgs 80 S c _ v _ (fun _ _ => by
    have := hp_iH v2 (Int32.ofInt 3) 3 (by decide) (by omega)
    show (Int32.ofInt 48 + Int32.ofInt 4 * v2 + Int32.ofInt 3).toInt ≠ 1
    omega)
theorem hg_w2 (S : hp_S) (c : Nat) (v2 v : Int32) (S1 : hp_S) (i : Nat) (hi : i = 0 ∨ i = 1) : (hp_wg 80 S c (hq_75 S1 v2 (Int32.ofInt 2)) v) c i = S c i :=
  hp_wgs 80 S c _ v _ (fun _ _ => by
    have := hp_iH v2 (Int32.ofInt 2) 2 (by decide) (by omega)
    show (Int32.ofInt 48 + Int32.ofInt 4 * v2 + Int32.ofInt 2).toInt ≠ i
    omega)
theorem hg_89 (S : hp_S) (c : Nat) (v2 : Int32) : (hq_89 S c v2) c (Int32.ofInt 1).toNatClampNeg = S c (Int32.ofInt 1).toNatClampNeg := by
  unfold hq_89
  rw [hg_w2 _ _ _ _ _ _ (Or.inr (by decide)), hg_w3]
theorem hg_92_82 (c : Nat) (p : Int32) : ∀ (m : Nat) (S : hp_S) (a b d : Int32), (hq_92_82 c p m S a b d) c 0 = S c 0 := by
  intro m
  induction m with
  | zero => intros; rfl
  | succ m ih =>
    intro S a b d
    rw [hq_92_82]
    split
    · rfl
    · split
      · exact ih _ _ _ _
      · split
        · exact hg_w2 _ _ _ _ _ _ (Or.inl rfl)
        · exact ih _ _ _ _
theorem hg_92 (S : hp_S) (c : Nat) (p : Int32) (hp : 0 ≤ p.toInt) : (hq_92 S c p) c (Int32.ofInt 0).toNatClampNeg = S c (Int32.ofInt 0).toNatClampNeg := by
  have e0 : (Int32.ofInt 0).toNatClampNeg = 0 := by decide
  have k : ∀ (S1 S2 : hp_S) (v : Int32), (hp_wg 80 S1 c (hq_74 S2 p (Int32.ofInt 0)) v) c 0 = S1 c 0 := fun S1 S2 v => hp_wgs 80 S1 c _ v _ (fun _ _ => hp_iP p (Int32.ofInt 0) (by decide) hp)
  rw [e0]
  unfold hq_92
  repeat' split
  all_goals rw [hg_92_82]
  all_goals exact k _ _ _
set_option maxRecDepth 10000 in
theorem ht_93_2 {α : Type} {φ : α → Option Value × hzMem} {R : α} {X : hp_X} (N : Nat) {c : Nat} (hc : hp_c c) (i2 : Int32) : ∀ (n : Nat), n ≤ N → ∀ (m : Nat) (S : hp_S) (v2 : Int32) (x3 : Option Value) (Z : hp_S), ((S c (Int32.ofInt 1).toNatClampNeg).toInt - v2.toInt).toNat < m → hq_93_2 c i2 m S v2 = Z → (∀ (x3 : Option Value) (x2 : Option Value), hp_T N 93 80 [some (.ref c), some (.int i2), x2, x3] [] (hp_mem X Z) φ R) → hp_T n 93 2 [some (.ref c), some (.int i2), some (.int v2), x3] [] (hp_mem X S) φ R := by
  intro n
  induction n with
  | zero => intros; exact hp_0
  | succ n ih =>
    intro hN m S v2 x3 Z hm hZ kk
    cases m with
    | zero => exact absurd hm (Nat.not_lt_zero _)
    | succ m =>
      rw [hq_93_2] at hZ
      refine hp_sN [3, 4, 5] (pc' := 5) (L' := [some (.ref c), some (.int i2), some (.int v2), x3]) (st' := [.int (Int32.ofInt 1), .ref c, .int v2]) rfl rfl ?_
      refine hp_al (pc' := 6) rfl (hp_cl hc) (hp_cc hc X _) rfl ?_
      refine hp_ic2 (pc' := 9) rfl rfl (fun h1 => ?_) (fun h1 => ?_)
      · rw [if_pos h1] at hZ
        subst hZ
        exact hp_le hN (kk (x3) (some (.int v2)))
      · rw [if_neg (hp_nt h1)] at hZ
        refine hp_sN [10, 11, 12] (pc' := 12) (L' := [some (.ref c), some (.int i2), some (.int v2), x3]) (st' := [.int (Int32.ofInt 2), .int v2, .ref c]) rfl rfl ?_
        refine hp_iv (virt := false) (pc' := 15) (rv := some (.int (hq_75 S v2 (Int32.ofInt 2)))) (M1 := hp_mem X (S)) rfl rfl (by decide) (hk_75 S (v2) ((Int32.ofInt 2))) rfl rfl ?_
        show hp_T _ 93 15 _ [.int (hq_75 S v2 (Int32.ofInt 2)), .ref c] _ _ _
        refine hp_al (pc' := 16) rfl (hp_cl hc) (hp_cc hc X _) rfl ?_
        refine hp_sN [17, 18, 20] (pc' := 20) (L' := [some (.ref c), some (.int i2), some (.int v2), some (.int (S c (hq_75 S v2 (Int32.ofInt 2)).toNatClampNeg))]) (st' := [.int (Int32.ofInt 9), .int (S c (hq_75 S v2 (Int32.ofInt 2)).toNatClampNeg)]) rfl rfl ?_
        refine hp_ic2 (pc' := 23) rfl rfl (fun h2 => ?_) (fun h2 => ?_)
        · rw [if_pos h2] at hZ
          refine hp_sN [27, 28, 29, 30] (pc' := 30) (L' := [some (.ref c), some (.int i2), some (.int v2), some (.int (S c (hq_75 S v2 (Int32.ofInt 2)).toNatClampNeg))]) (st' := [.int (Int32.ofInt 0), .int (S c (hq_75 S v2 (Int32.ofInt 2)).toNatClampNeg), .ref c, .ref c]) rfl rfl ?_
          refine hp_iv (virt := false) (pc' := 33) (rv := some (.int (hq_74 S (S c (hq_75 S v2 (Int32.ofInt 2)).toNatClampNeg) (Int32.ofInt 0)))) (M1 := hp_mem X (S)) rfl rfl (by decide) (hk_74 S ((S c (hq_75 S v2 (Int32.ofInt 2)).toNatClampNeg)) ((Int32.ofInt 0))) rfl rfl ?_
          show hp_T _ 93 33 _ [.int (hq_74 S (S c (hq_75 S v2 (Int32.ofInt 2)).toNatClampNeg) (Int32.ofInt 0)), .ref c, .ref c] _ _ _
          refine hp_al (pc' := 34) rfl (hp_cl hc) (hp_cc hc X _) rfl ?_
          refine hp_sN [35, 36] (pc' := 36) (L' := [some (.ref c), some (.int i2), some (.int v2), some (.int (S c (hq_75 S v2 (Int32.ofInt 2)).toNatClampNeg))]) (st' := [.int (Int32.ofInt 2), .ref c, .int (S c (hq_74 S (S c (hq_75 S v2 (Int32.ofInt 2)).toNatClampNeg) (Int32.ofInt 0)).toNatClampNeg), .ref c]) rfl rfl ?_
          refine hp_al (pc' := 37) rfl (hp_cl hc) (hp_cc hc X _) rfl ?_
          refine hp_sN [38] (pc' := 38) (L' := [some (.ref c), some (.int i2), some (.int v2), some (.int (S c (hq_75 S v2 (Int32.ofInt 2)).toNatClampNeg))]) (st' := [.int i2, .int (S c (Int32.ofInt 2).toNatClampNeg), .int (S c (hq_74 S (S c (hq_75 S v2 (Int32.ofInt 2)).toNatClampNeg) (Int32.ofInt 0)).toNatClampNeg), .ref c]) rfl rfl ?_
          refine hp_iv (virt := false) (pc' := 41) (rv := some (.int (hq_84 S c (S c (hq_74 S (S c (hq_75 S v2 (Int32.ofInt 2)).toNatClampNeg) (Int32.ofInt 0)).toNatClampNeg) (S c (Int32.ofInt 2).toNatClampNeg) i2))) (M1 := hp_mem X (S)) rfl rfl (by decide) (hk_84 hc S ((S c (hq_74 S (S c (hq_75 S v2 (Int32.ofInt 2)).toNatClampNeg) (Int32.ofInt 0)).toNatClampNeg)) ((S c (Int32.ofInt 2).toNatClampNeg)) (i2)) rfl rfl ?_
          show hp_T _ 93 41 _ [.int (hq_84 S c (S c (hq_74 S (S c (hq_75 S v2 (Int32.ofInt 2)).toNatClampNeg) (Int32.ofInt 0)).toNatClampNeg) (S c (Int32.ofInt 2).toNatClampNeg) i2)] _ _ _
          refine hp_sN [42, 43, 44] (pc' := 44) (L' := [some (.ref c), some (.int i2), some (.int v2), some (.int (S c (hq_75 S v2 (Int32.ofInt 2)).toNatClampNeg))]) (st' := [.int (Int32.ofInt 0), .int v2, .ref c, .int (hq_84 S c (S c (hq_74 S (S c (hq_75 S v2 (Int32.ofInt 2)).toNatClampNeg) (Int32.ofInt 0)).toNatClampNeg) (S c (Int32.ofInt 2).toNatClampNeg) i2)]) rfl rfl ?_
          refine hp_iv (virt := false) (pc' := 47) (rv := some (.int (hq_75 S v2 (Int32.ofInt 0)))) (M1 := hp_mem X (S)) rfl rfl (by decide) (hk_75 S (v2) ((Int32.ofInt 0))) rfl rfl ?_
          show hp_T _ 93 47 _ [.int (hq_75 S v2 (Int32.ofInt 0)), .ref c, .int (hq_84 S c (S c (hq_74 S (S c (hq_75 S v2 (Int32.ofInt 2)).toNatClampNeg) (Int32.ofInt 0)).toNatClampNeg) (S c (Int32.ofInt 2).toNatClampNeg) i2)] _ _ _
          refine hp_al (pc' := 48) rfl (hp_cl hc) (hp_cc hc X _) rfl ?_
          refine hp_sN [49, 50, 51] (pc' := 51) (L' := [some (.ref c), some (.int i2), some (.int v2), some (.int (S c (hq_75 S v2 (Int32.ofInt 2)).toNatClampNeg))]) (st' := [.int (Int32.ofInt 1), .int v2, .ref c, .int (S c (hq_75 S v2 (Int32.ofInt 0)).toNatClampNeg), .int (hq_84 S c (S c (hq_74 S (S c (hq_75 S v2 (Int32.ofInt 2)).toNatClampNeg) (Int32.ofInt 0)).toNatClampNeg) (S c (Int32.ofInt 2).toNatClampNeg) i2)]) rfl rfl ?_
          refine hp_iv (virt := false) (pc' := 54) (rv := some (.int (hq_75 S v2 (Int32.ofInt 1)))) (M1 := hp_mem X (S)) rfl rfl (by decide) (hk_75 S (v2) ((Int32.ofInt 1))) rfl rfl ?_
          show hp_T _ 93 54 _ [.int (hq_75 S v2 (Int32.ofInt 1)), .ref c, .int (S c (hq_75 S v2 (Int32.ofInt 0)).toNatClampNeg), .int (hq_84 S c (S c (hq_74 S (S c (hq_75 S v2 (Int32.ofInt 2)).toNatClampNeg) (Int32.ofInt 0)).toNatClampNeg) (S c (Int32.ofInt 2).toNatClampNeg) i2)] _ _ _
          refine hp_al (pc' := 55) rfl (hp_cl hc) (hp_cc hc X _) rfl ?_
          refine hp_iv (virt := false) (pc' := 58) (rv := some (.int (hq_81 S (S c (hq_75 S v2 (Int32.ofInt 0)).toNatClampNeg) (S c (hq_75 S v2 (Int32.ofInt 1)).toNatClampNeg)))) (M1 := hp_mem X (S)) rfl rfl (by decide) (hk_81 S ((S c (hq_75 S v2 (Int32.ofInt 0)).toNatClampNeg)) ((S c (hq_75 S v2 (Int32.ofInt 1)).toNatClampNeg))) rfl rfl ?_
          show hp_T _ 93 58 _ [.int (hq_81 S (S c (hq_75 S v2 (Int32.ofInt 0)).toNatClampNeg) (S c (hq_75 S v2 (Int32.ofInt 1)).toNatClampNeg)), .int (hq_84 S c (S c (hq_74 S (S c (hq_75 S v2 (Int32.ofInt 2)).toNatClampNeg) (Int32.ofInt 0)).toNatClampNeg) (S c (Int32.ofInt 2).toNatClampNeg) i2)] _ _ _
          refine hp_sN [59, 60, 61] (pc' := 61) (L' := [some (.ref c), some (.int i2), some (.int v2), some (.int (S c (hq_75 S v2 (Int32.ofInt 2)).toNatClampNeg))]) (st' := [.int (Int32.ofInt 2), .int (S c (hq_75 S v2 (Int32.ofInt 2)).toNatClampNeg), .ref c, .int (hq_81 S (S c (hq_75 S v2 (Int32.ofInt 0)).toNatClampNeg) (S c (hq_75 S v2 (Int32.ofInt 1)).toNatClampNeg)), .int (hq_84 S c (S c (hq_74 S (S c (hq_75 S v2 (Int32.ofInt 2)).toNatClampNeg) (Int32.ofInt 0)).toNatClampNeg) (S c (Int32.ofInt 2).toNatClampNeg) i2)]) rfl rfl ?_
          refine hp_iv (virt := false) (pc' := 64) (rv := some (.int (hq_74 S (S c (hq_75 S v2 (Int32.ofInt 2)).toNatClampNeg) (Int32.ofInt 2)))) (M1 := hp_mem X (S)) rfl rfl (by decide) (hk_74 S ((S c (hq_75 S v2 (Int32.ofInt 2)).toNatClampNeg)) ((Int32.ofInt 2))) rfl rfl ?_
          show hp_T _ 93 64 _ [.int (hq_74 S (S c (hq_75 S v2 (Int32.ofInt 2)).toNatClampNeg) (Int32.ofInt 2)), .ref c, .int (hq_81 S (S c (hq_75 S v2 (Int32.ofInt 0)).toNatClampNeg) (S c (hq_75 S v2 (Int32.ofInt 1)).toNatClampNeg)), .int (hq_84 S c (S c (hq_74 S (S c (hq_75 S v2 (Int32.ofInt 2)).toNatClampNeg) (Int32.ofInt 0)).toNatClampNeg) (S c (Int32.ofInt 2).toNatClampNeg) i2)] _ _ _
          refine hp_al (pc' := 65) rfl (hp_cl hc) (hp_cc hc X _) rfl ?_
          refine hp_sN [66] (pc' := 66) (L' := [some (.ref c), some (.int i2), some (.int v2), some (.int (S c (hq_75 S v2 (Int32.ofInt 2)).toNatClampNeg))]) (st' := [.int ((hq_81 S (S c (hq_75 S v2 (Int32.ofInt 0)).toNatClampNeg) (S c (hq_75 S v2 (Int32.ofInt 1)).toNatClampNeg)) + (S c (hq_74 S (S c (hq_75 S v2 (Int32.ofInt 2)).toNatClampNeg) (Int32.ofInt 2)).toNatClampNeg)), .int (hq_84 S c (S c (hq_74 S (S c (hq_75 S v2 (Int32.ofInt 2)).toNatClampNeg) (Int32.ofInt 0)).toNatClampNeg) (S c (Int32.ofInt 2).toNatClampNeg) i2)]) rfl rfl ?_
          refine hp_ic2 (pc' := 69) rfl rfl (fun h3 => ?_) (fun h3 => ?_)
          · rw [if_pos h3] at hZ
            refine hp_sB 77 [2] (pc' := 2) (L' := [some (.ref c), some (.int i2), some (.int (v2 + (Int32.ofInt 1))), some (.int (S c (hq_75 S v2 (Int32.ofInt 2)).toNatClampNeg))]) (st' := []) rfl rfl ?_
            exact ih (Nat.le_trans (Nat.le_succ n) hN) m S ((v2 + (Int32.ofInt 1))) (some (.int (S c (hq_75 S v2 (Int32.ofInt 2)).toNatClampNeg))) Z (hp_up h1 hm) hZ kk
          · rw [if_neg (hp_nt h3)] at hZ
            refine hp_sN [70, 71] (pc' := 71) (L' := [some (.ref c), some (.int i2), some (.int v2), some (.int (S c (hq_75 S v2 (Int32.ofInt 2)).toNatClampNeg))]) (st' := [.int v2, .ref c]) rfl rfl ?_
            refine hp_iv (virt := false) (pc' := 74) (rv := none) (M1 := hp_mem X (hq_89 S c v2)) rfl rfl (by decide) (hk_89 hc S (v2)) rfl rfl ?_
            show hp_T _ 93 74 _ [] _ _ _
            refine hp_sB 77 [2] (pc' := 2) (L' := [some (.ref c), some (.int i2), some (.int (v2 + (Int32.ofInt 1))), some (.int (S c (hq_75 S v2 (Int32.ofInt 2)).toNatClampNeg))]) (st' := []) rfl rfl ?_
            exact ih (Nat.le_trans (Nat.le_succ n) hN) m (hq_89 S c v2) ((v2 + (Int32.ofInt 1))) (some (.int (S c (hq_75 S v2 (Int32.ofInt 2)).toNatClampNeg))) Z (by rw [hg_89]; exact (hp_up h1 hm)) hZ kk
        · rw [if_neg (hp_nt h2)] at hZ
          refine hp_sB 74 [77, 2] (pc' := 2) (L' := [some (.ref c), some (.int i2), some (.int (v2 + (Int32.ofInt 1))), some (.int (S c (hq_75 S v2 (Int32.ofInt 2)).toNatClampNeg))]) (st' := []) rfl rfl ?_
          exact ih (Nat.le_trans (Nat.le_succ n) hN) m S ((v2 + (Int32.ofInt 1))) (some (.int (S c (hq_75 S v2 (Int32.ofInt 2)).toNatClampNeg))) Z (hp_up h1 hm) hZ kk
set_option maxRecDepth 10000 in
theorem ht_93_82 {α : Type} {φ : α → Option Value × hzMem} {R : α} {X : hp_X} (N : Nat) {c : Nat} (hc : hp_c c) (i2 : Int32) : ∀ (n : Nat), n ≤ N → ∀ (m : Nat) (S : hp_S) (v2 : Int32) (x3 : Option Value) (Z : hp_S), ((S c (Int32.ofInt 1).toNatClampNeg).toInt - v2.toInt).toNat < m → hq_93_82 c i2 m S v2 = Z → (∀ (x3 : Option Value) (x2 : Option Value), hp_T N 93 140 [some (.ref c), some (.int i2), x2, x3] [] (hp_mem X Z) φ R) → hp_T n 93 82 [some (.ref c), some (.int i2), some (.int v2), x3] [] (hp_mem X S) φ R := by
  intro n
  induction n with
  | zero => intros; exact hp_0
  | succ n ih =>
    intro hN m S v2 x3 Z hm hZ kk
    cases m with
    | zero => exact absurd hm (Nat.not_lt_zero _)
    | succ m =>
      rw [hq_93_82] at hZ
      refine hp_sN [83, 84, 85] (pc' := 85) (L' := [some (.ref c), some (.int i2), some (.int v2), x3]) (st' := [.int (Int32.ofInt 1), .ref c, .int v2]) rfl rfl ?_
      refine hp_al (pc' := 86) rfl (hp_cl hc) (hp_cc hc X _) rfl ?_
      refine hp_ic2 (pc' := 89) rfl rfl (fun h1 => ?_) (fun h1 => ?_)
      · rw [if_pos h1] at hZ
        subst hZ
        exact hp_le hN (kk (x3) (some (.int v2)))
      · rw [if_neg (hp_nt h1)] at hZ
        refine hp_sN [90, 91] (pc' := 91) (L' := [some (.ref c), some (.int i2), some (.int v2), x3]) (st' := [.int v2, .ref c]) rfl rfl ?_
        refine hp_iv (virt := false) (pc' := 94) (rv := some (.int (hq_86 S c v2))) (M1 := hp_mem X (S)) rfl rfl (by decide) (hk_86 hc S (v2)) rfl rfl ?_
        show hp_T _ 93 94 _ [.int (hq_86 S c v2)] _ _ _
        refine hp_if2 (pc' := 97) rfl rfl (fun h2 => ?_) (fun h2 => ?_)
        · rw [if_pos h2] at hZ
          refine hp_sN [101, 102, 103] (pc' := 103) (L' := [some (.ref c), some (.int i2), some (.int v2), x3]) (st' := [.int (Int32.ofInt 3), .int v2, .ref c]) rfl rfl ?_
          refine hp_iv (virt := false) (pc' := 106) (rv := some (.int (hq_75 S v2 (Int32.ofInt 3)))) (M1 := hp_mem X (S)) rfl rfl (by decide) (hk_75 S (v2) ((Int32.ofInt 3))) rfl rfl ?_
          show hp_T _ 93 106 _ [.int (hq_75 S v2 (Int32.ofInt 3)), .ref c] _ _ _
          refine hp_sN [107, 108, 109, 110, 111] (pc' := 111) (L' := [some (.ref c), some (.int i2), some (.int v2), x3]) (st' := [.int (Int32.ofInt 3), .int v2, .ref c, .int v2, .ref c, .int (hq_75 S v2 (Int32.ofInt 3)), .ref c]) rfl rfl ?_
          refine hp_iv (virt := false) (pc' := 114) (rv := some (.int (hq_75 S v2 (Int32.ofInt 3)))) (M1 := hp_mem X (S)) rfl rfl (by decide) (hk_75 S (v2) ((Int32.ofInt 3))) rfl rfl ?_
          show hp_T _ 93 114 _ [.int (hq_75 S v2 (Int32.ofInt 3)), .ref c, .int v2, .ref c, .int (hq_75 S v2 (Int32.ofInt 3)), .ref c] _ _ _
          refine hp_al (pc' := 115) rfl (hp_cl hc) (hp_cc hc X _) rfl ?_
          refine hp_sN [116, 117, 118, 119] (pc' := 119) (L' := [some (.ref c), some (.int i2), some (.int v2), x3]) (st' := [.int (Int32.ofInt 3), .int v2, .ref c, .ref c, .int (S c (hq_75 S v2 (Int32.ofInt 3)).toNatClampNeg), .int v2, .ref c, .int (hq_75 S v2 (Int32.ofInt 3)), .ref c]) rfl rfl ?_
          refine hp_iv (virt := false) (pc' := 122) (rv := some (.int (hq_75 S v2 (Int32.ofInt 3)))) (M1 := hp_mem X (S)) rfl rfl (by decide) (hk_75 S (v2) ((Int32.ofInt 3))) rfl rfl ?_
          show hp_T _ 93 122 _ [.int (hq_75 S v2 (Int32.ofInt 3)), .ref c, .ref c, .int (S c (hq_75 S v2 (Int32.ofInt 3)).toNatClampNeg), .int v2, .ref c, .int (hq_75 S v2 (Int32.ofInt 3)), .ref c] _ _ _
          refine hp_al (pc' := 123) rfl (hp_cl hc) (hp_cc hc X _) rfl ?_
          refine hp_sN [124, 125] (pc' := 125) (L' := [some (.ref c), some (.int i2), some (.int v2), x3]) (st' := [.int (Int32.ofInt 2), .ref c, .int (S c (hq_75 S v2 (Int32.ofInt 3)).toNatClampNeg), .ref c, .int (S c (hq_75 S v2 (Int32.ofInt 3)).toNatClampNeg), .int v2, .ref c, .int (hq_75 S v2 (Int32.ofInt 3)), .ref c]) rfl rfl ?_
          refine hp_al (pc' := 126) rfl (hp_cl hc) (hp_cc hc X _) rfl ?_
          refine hp_sN [127] (pc' := 127) (L' := [some (.ref c), some (.int i2), some (.int v2), x3]) (st' := [.int i2, .int (S c (Int32.ofInt 2).toNatClampNeg), .int (S c (hq_75 S v2 (Int32.ofInt 3)).toNatClampNeg), .ref c, .int (S c (hq_75 S v2 (Int32.ofInt 3)).toNatClampNeg), .int v2, .ref c, .int (hq_75 S v2 (Int32.ofInt 3)), .ref c]) rfl rfl ?_
          refine hp_iv (virt := false) (pc' := 130) (rv := some (.int (hq_84 S c (S c (hq_75 S v2 (Int32.ofInt 3)).toNatClampNeg) (S c (Int32.ofInt 2).toNatClampNeg) i2))) (M1 := hp_mem X (S)) rfl rfl (by decide) (hk_84 hc S ((S c (hq_75 S v2 (Int32.ofInt 3)).toNatClampNeg)) ((S c (Int32.ofInt 2).toNatClampNeg)) (i2)) rfl rfl ?_
          show hp_T _ 93 130 _ [.int (hq_84 S c (S c (hq_75 S v2 (Int32.ofInt 3)).toNatClampNeg) (S c (Int32.ofInt 2).toNatClampNeg) i2), .int (S c (hq_75 S v2 (Int32.ofInt 3)).toNatClampNeg), .int v2, .ref c, .int (hq_75 S v2 (Int32.ofInt 3)), .ref c] _ _ _
          refine hp_iv (virt := false) (pc' := 133) (rv := some (.int (hq_90 S c v2 (S c (hq_75 S v2 (Int32.ofInt 3)).toNatClampNeg) (hq_84 S c (S c (hq_75 S v2 (Int32.ofInt 3)).toNatClampNeg) (S c (Int32.ofInt 2).toNatClampNeg) i2)))) (M1 := hp_mem X (S)) rfl rfl (by decide) (hk_90 hc S (v2) ((S c (hq_75 S v2 (Int32.ofInt 3)).toNatClampNeg)) ((hq_84 S c (S c (hq_75 S v2 (Int32.ofInt 3)).toNatClampNeg) (S c (Int32.ofInt 2).toNatClampNeg) i2))) rfl rfl ?_
          show hp_T _ 93 133 _ [.int (hq_90 S c v2 (S c (hq_75 S v2 (Int32.ofInt 3)).toNatClampNeg) (hq_84 S c (S c (hq_75 S v2 (Int32.ofInt 3)).toNatClampNeg) (S c (Int32.ofInt 2).toNatClampNeg) i2)), .int (hq_75 S v2 (Int32.ofInt 3)), .ref c] _ _ _
          refine hp_asg (pc' := 134) rfl (hp_cl hc) (fun _ => (hp_cc hc X _)) rfl ?_
          refine hp_sB 137 [82] (pc' := 82) (L' := [some (.ref c), some (.int i2), some (.int (v2 + (Int32.ofInt 1))), x3]) (st' := []) rfl rfl ?_
          exact ih (Nat.le_trans (Nat.le_succ n) hN) m (hp_wg 80 S c (hq_75 S v2 (Int32.ofInt 3)) (hq_90 S c v2 (S c (hq_75 S v2 (Int32.ofInt 3)).toNatClampNeg) (hq_84 S c (S c (hq_75 S v2 (Int32.ofInt 3)).toNatClampNeg) (S c (Int32.ofInt 2).toNatClampNeg) i2))) ((v2 + (Int32.ofInt 1))) (x3) Z (by rw [hg_w3]; exact (hp_up h1 hm)) hZ kk
        · rw [if_neg (hp_nt h2)] at hZ
          refine hp_sB 134 [137, 82] (pc' := 82) (L' := [some (.ref c), some (.int i2), some (.int (v2 + (Int32.ofInt 1))), x3]) (st' := []) rfl rfl ?_
          exact ih (Nat.le_trans (Nat.le_succ n) hN) m S ((v2 + (Int32.ofInt 1))) (x3) Z (hp_up h1 hm) hZ kk
set_option maxRecDepth 10000 in
theorem ht_93_142 {α : Type} {φ : α → Option Value × hzMem} {R : α} {X : hp_X} (N : Nat) {c : Nat} (hc : hp_c c) (i2 : Int32) : ∀ (n : Nat), n ≤ N → ∀ (m : Nat) (S : hp_S) (v2 : Int32) (x3 : Option Value) (Z : hp_S), ((S c (Int32.ofInt 0).toNatClampNeg).toInt - v2.toInt).toNat < m → 0 ≤ v2.toInt → hq_93_142 c i2 m S v2 = Z → (∀ (x3 : Option Value) (x2 : Option Value), hp_T N 93 170 [some (.ref c), some (.int i2), x2, x3] [] (hp_mem X Z) φ R) → hp_T n 93 142 [some (.ref c), some (.int i2), some (.int v2), x3] [] (hp_mem X S) φ R := by
  intro n
  induction n with
  | zero => intros; exact hp_0
  | succ n ih =>
    intro hN m S v2 x3 Z hm hi hZ kk
    cases m with
    | zero => exact absurd hm (Nat.not_lt_zero _)
    | succ m =>
      rw [hq_93_142] at hZ
      refine hp_sN [143, 144, 145] (pc' := 145) (L' := [some (.ref c), some (.int i2), some (.int v2), x3]) (st' := [.int (Int32.ofInt 0), .ref c, .int v2]) rfl rfl ?_
      refine hp_al (pc' := 146) rfl (hp_cl hc) (hp_cc hc X _) rfl ?_
      refine hp_ic2 (pc' := 149) rfl rfl (fun h1 => ?_) (fun h1 => ?_)
      · rw [if_pos h1] at hZ
        subst hZ
        exact hp_le hN (kk (x3) (some (.int v2)))
      · rw [if_neg (hp_nt h1)] at hZ
        refine hp_sN [150, 151] (pc' := 151) (L' := [some (.ref c), some (.int i2), some (.int v2), x3]) (st' := [.int v2, .ref c]) rfl rfl ?_
        refine hp_iv (virt := false) (pc' := 154) (rv := some (.int (hq_88 S c v2))) (M1 := hp_mem X (S)) rfl rfl (by decide) (hk_88 hc S (v2)) rfl rfl ?_
        show hp_T _ 93 154 _ [.int (hq_88 S c v2)] _ _ _
        refine hp_sN [156] (pc' := 156) (L' := [some (.ref c), some (.int i2), some (.int v2), x3]) (st' := [.int (Int32.ofInt 9), .int (hq_88 S c v2)]) rfl rfl ?_
        refine hp_ic2 (pc' := 159) rfl rfl (fun h2 => ?_) (fun h2 => ?_)
        · rw [if_pos h2] at hZ
          refine hp_sB 167 [142] (pc' := 142) (L' := [some (.ref c), some (.int i2), some (.int (v2 + (Int32.ofInt 1))), x3]) (st' := []) rfl rfl ?_
          exact ih (Nat.le_trans (Nat.le_succ n) hN) m S ((v2 + (Int32.ofInt 1))) (x3) Z (hp_up h1 hm) (hp_nn h1 hi) hZ kk
        · rw [if_neg (hp_nt h2)] at hZ
          refine hp_sN [160, 161] (pc' := 161) (L' := [some (.ref c), some (.int i2), some (.int v2), x3]) (st' := [.int v2, .ref c]) rfl rfl ?_
          refine hp_iv (virt := false) (pc' := 164) (rv := none) (M1 := hp_mem X (hq_92 S c v2)) rfl rfl (by decide) (hk_92 hc S (v2)) rfl rfl ?_
          show hp_T _ 93 164 _ [] _ _ _
          refine hp_sB 167 [142] (pc' := 142) (L' := [some (.ref c), some (.int i2), some (.int (v2 + (Int32.ofInt 1))), x3]) (st' := []) rfl rfl ?_
          exact ih (Nat.le_trans (Nat.le_succ n) hN) m (hq_92 S c v2) ((v2 + (Int32.ofInt 1))) (x3) Z (by rw [hg_92 _ _ _ hi]; exact (hp_up h1 hm)) (hp_nn h1 hi) hZ kk
set_option maxRecDepth 10000 in
theorem ht_93_170 {X : hp_X} {c : Nat} (hc : hp_c c) (i2 : Int32) (S : hp_S) (x2 : Option Value) (x3 : Option Value) (n : Nat) : hp_T n 93 170 [some (.ref c), some (.int i2), x2, x3] [] (hp_mem X S) (hp_v X) (hq_93_170 c i2 S) := by
  unfold hq_93_170
  refine hp_sN [171, 172, 173, 174] (pc' := 174) (L' := [some (.ref c), some (.int i2), x2, x3]) (st' := [.int (Int32.ofInt 2), .ref c, .int (Int32.ofInt 2), .ref c]) rfl rfl ?_
  refine hp_al (pc' := 175) rfl (hp_cl hc) (hp_cc hc X _) rfl ?_
  refine hp_sN [176, 177, 179] (pc' := 179) (L' := [some (.ref c), some (.int i2), x2, x3]) (st' := [.int (Int32.ofInt 24), .int ((S c (Int32.ofInt 2).toNatClampNeg) + (Int32.ofInt 1)), .int (Int32.ofInt 2), .ref c]) rfl rfl ?_
  refine hp_ri2 (pc' := 180) rfl rfl ?_
  refine hp_asg (pc' := 181) rfl (hp_cl hc) (fun _ => (hp_cc hc X _)) rfl ?_
  refine hp_sN [182, 183, 184] (pc' := 184) (L' := [some (.ref c), some (.int i2), x2, x3]) (st' := [.int (Int32.ofInt 3), .ref c, .int (Int32.ofInt 3), .ref c]) rfl rfl ?_
  refine hp_al (pc' := 185) rfl (hp_cl hc) (hp_cc hc X _) rfl ?_
  refine hp_sN [186, 187] (pc' := 187) (L' := [some (.ref c), some (.int i2), x2, x3]) (st' := [.int (Int32.ofInt 2), .ref c, .int (hp_wg 80 S c (Int32.ofInt 2) (((S c (Int32.ofInt 2).toNatClampNeg) + (Int32.ofInt 1)) - ((S c (Int32.ofInt 2).toNatClampNeg) + (Int32.ofInt 1)) / (Int32.ofInt 24) * (Int32.ofInt 24)) c (Int32.ofInt 3).toNatClampNeg), .int (Int32.ofInt 3), .ref c]) rfl rfl ?_
  refine hp_al (pc' := 188) rfl (hp_cl hc) (hp_cc hc X _) rfl ?_
  refine hp_if (pc' := 191) rfl rfl (fun h1 => ?_) (fun h1 => ?_)
  · refine hp_sN [196, 197] (pc' := 197) (L' := [some (.ref c), some (.int i2), x2, x3]) (st' := [.int ((hp_wg 80 S c (Int32.ofInt 2) (((S c (Int32.ofInt 2).toNatClampNeg) + (Int32.ofInt 1)) - ((S c (Int32.ofInt 2).toNatClampNeg) + (Int32.ofInt 1)) / (Int32.ofInt 24) * (Int32.ofInt 24)) c (Int32.ofInt 3).toNatClampNeg) + (Int32.ofInt 0)), .int (Int32.ofInt 3), .ref c]) rfl rfl ?_
    refine hp_asg (pc' := 198) rfl (hp_cl hc) (fun _ => (hp_cc hc X _)) rfl ?_
    exact hp_Rv rfl
  · refine hp_sN [192, 196, 197] (pc' := 197) (L' := [some (.ref c), some (.int i2), x2, x3]) (st' := [.int ((hp_wg 80 S c (Int32.ofInt 2) (((S c (Int32.ofInt 2).toNatClampNeg) + (Int32.ofInt 1)) - ((S c (Int32.ofInt 2).toNatClampNeg) + (Int32.ofInt 1)) / (Int32.ofInt 24) * (Int32.ofInt 24)) c (Int32.ofInt 3).toNatClampNeg) + (Int32.ofInt 1)), .int (Int32.ofInt 3), .ref c]) rfl rfl ?_
    refine hp_asg (pc' := 198) rfl (hp_cl hc) (fun _ => (hp_cc hc X _)) rfl ?_
    exact hp_Rv rfl
set_option maxRecDepth 10000 in
theorem ht_93_140 {X : hp_X} {c : Nat} (hc : hp_c c) (i2 : Int32) (S : hp_S) (x2 : Option Value) (x3 : Option Value) (n : Nat) : hp_T n 93 140 [some (.ref c), some (.int i2), x2, x3] [] (hp_mem X S) (hp_v X) (hq_93_140 c i2 S) := by
  unfold hq_93_140
  refine hp_sN [141, 142] (pc' := 142) (L' := [some (.ref c), some (.int i2), some (.int (Int32.ofInt 0)), x3]) (st' := []) rfl rfl ?_
  refine ht_93_142 n hc i2  n (Nat.le_refl _) (((S c (Int32.ofInt 0).toNatClampNeg).toInt - (Int32.ofInt 0).toInt).toNat + 1) S ((Int32.ofInt 0)) (x3) _ (Nat.lt_succ_self _) (by decide) rfl (fun x3_142 x2_142 => ?_)
  show hp_T _ 93 170 [some (.ref c), some (.int i2), x2_142, x3_142] _ (hp_mem X ((hq_93_142 c i2 (((S c (Int32.ofInt 0).toNatClampNeg).toInt - (Int32.ofInt 0).toInt).toNat + 1) S ((Int32.ofInt 0))))) _ _
  exact ht_93_170 hc i2 ((hq_93_142 c i2 (((S c (Int32.ofInt 0).toNatClampNeg).toInt - (Int32.ofInt 0).toInt).toNat + 1) S ((Int32.ofInt 0))))  (x2_142) (x3_142) n
set_option maxRecDepth 10000 in
theorem ht_93_80 {X : hp_X} {c : Nat} (hc : hp_c c) (i2 : Int32) (S : hp_S) (x2 : Option Value) (x3 : Option Value) (n : Nat) : hp_T n 93 80 [some (.ref c), some (.int i2), x2, x3] [] (hp_mem X S) (hp_v X) (hq_93_80 c i2 S) := by
  unfold hq_93_80
  refine hp_sN [81, 82] (pc' := 82) (L' := [some (.ref c), some (.int i2), some (.int (Int32.ofInt 0)), x3]) (st' := []) rfl rfl ?_
  refine ht_93_82 n hc i2  n (Nat.le_refl _) (((S c (Int32.ofInt 1).toNatClampNeg).toInt - (Int32.ofInt 0).toInt).toNat + 1) S ((Int32.ofInt 0)) (x3) _ (Nat.lt_succ_self _) rfl (fun x3_82 x2_82 => ?_)
  show hp_T _ 93 140 [some (.ref c), some (.int i2), x2_82, x3_82] _ (hp_mem X ((hq_93_82 c i2 (((S c (Int32.ofInt 1).toNatClampNeg).toInt - (Int32.ofInt 0).toInt).toNat + 1) S ((Int32.ofInt 0))))) _ _
  exact ht_93_140 hc i2 ((hq_93_82 c i2 (((S c (Int32.ofInt 1).toNatClampNeg).toInt - (Int32.ofInt 0).toInt).toNat + 1) S ((Int32.ofInt 0))))  (x2_82) (x3_82) n
set_option maxRecDepth 10000 in
theorem ht_93 {X : hp_X} {c : Nat} (hc : hp_c c) (S : hp_S) (i2 : Int32) (n : Nat) : hp_T n 93 0 [some (.ref c), some (.int i2), none, none] [] (hp_mem X S) (hp_v X) (hq_93 S c i2) := by
  unfold hq_93
  refine hp_sN [1, 2] (pc' := 2) (L' := [some (.ref c), some (.int i2), some (.int (Int32.ofInt 0)), none]) (st' := []) rfl rfl ?_
  refine ht_93_2 n hc i2  n (Nat.le_refl _) (((S c (Int32.ofInt 1).toNatClampNeg).toInt - (Int32.ofInt 0).toInt).toNat + 1) S ((Int32.ofInt 0)) (none) _ (Nat.lt_succ_self _) rfl (fun x3_2 x2_2 => ?_)
  show hp_T _ 93 80 [some (.ref c), some (.int i2), x2_2, x3_2] _ (hp_mem X ((hq_93_2 c i2 (((S c (Int32.ofInt 1).toNatClampNeg).toInt - (Int32.ofInt 0).toInt).toNat + 1) S ((Int32.ofInt 0))))) _ _
  exact ht_93_80 hc i2 ((hq_93_2 c i2 (((S c (Int32.ofInt 1).toNatClampNeg).toInt - (Int32.ofInt 0).toInt).toNat + 1) S ((Int32.ofInt 0))))  (x2_2) (x3_2) n
theorem hk_93 {X : hp_X} {c : Nat} (hc : hp_c c) (S : hp_S) (i2 : Int32) : hp_K 93 [.ref c, .int i2] (hp_mem X S) (hp_v X) (hq_93 S c i2) := by
  refine hp_mk (q := hzq_93) rfl (by decide) (L := [some (.ref c), some (.int i2), none, none]) rfl (fun n => ?_)
  exact ht_93 hc S i2 n
/-! 94: HatsOfTheWindModel.hoursOn([II)V -/
def hq_94_2 (c : Nat) (i2 : Int32) : Nat → hp_S → Int32 → hp_S
  | 0, S, _ => S
  | m + 1, S, v2 => (if hz_cmp .ge v2 i2 = true then S else hq_94_2 c i2 m (hq_93 S c (Int32.ofInt 0)) (v2 + (Int32.ofInt 1)))
def hq_94 (S : hp_S) (c : Nat) (i2 : Int32) : hp_S := (hq_94_2 c i2 ((i2.toInt - (Int32.ofInt 0).toInt).toNat + 1) S ((Int32.ofInt 0)))
theorem hf_94_2 {c : Nat} {i2 : Int32} (j : Nat) (z0 : j ≠ c) : ∀ (m : Nat) (S : hp_S) (v2 : Int32), (hq_94_2 c i2 m S v2) j = S j := by
  intro m
  induction m with
  | zero => intros; rfl
  | succ m ih =>
    intro S v2
    rw [hq_94_2]
    repeat' split
    all_goals simp [ih, hp_wo, hp_wgo, hp_cpo, hf_93, z0]
theorem hf_94 {c : Nat} (S : hp_S) (i2 : Int32) (j : Nat) (z0 : j ≠ c) : (hq_94 S c i2) j = S j := by
  unfold hq_94
  repeat' split
  all_goals simp [hp_wo, hp_wgo, hp_cpo, hf_93, z0, hf_94_2]
set_option maxRecDepth 10000 in
theorem ht_94_2 {α : Type} {φ : α → Option Value × hzMem} {R : α} {X : hp_X} (N : Nat) {c : Nat} (hc : hp_c c) (i2 : Int32) : ∀ (n : Nat), n ≤ N → ∀ (m : Nat) (S : hp_S) (v2 : Int32) (Z : hp_S), (i2.toInt - v2.toInt).toNat < m → hq_94_2 c i2 m S v2 = Z → (∀ (x2 : Option Value), hp_T N 94 18 [some (.ref c), some (.int i2), x2] [] (hp_mem X Z) φ R) → hp_T n 94 2 [some (.ref c), some (.int i2), some (.int v2)] [] (hp_mem X S) φ R := by
  intro n
  induction n with
  | zero => intros; exact hp_0
  | succ n ih =>
    intro hN m S v2 Z hm hZ kk
    cases m with
    | zero => exact absurd hm (Nat.not_lt_zero _)
    | succ m =>
      rw [hq_94_2] at hZ
      refine hp_sN [3, 4] (pc' := 4) (L' := [some (.ref c), some (.int i2), some (.int v2)]) (st' := [.int i2, .int v2]) rfl rfl ?_
      refine hp_ic2 (pc' := 7) rfl rfl (fun h1 => ?_) (fun h1 => ?_)
      · rw [if_pos h1] at hZ
        subst hZ
        exact hp_le hN (kk (some (.int v2)))
      · rw [if_neg (hp_nt h1)] at hZ
        refine hp_sN [8, 9] (pc' := 9) (L' := [some (.ref c), some (.int i2), some (.int v2)]) (st' := [.int (Int32.ofInt 0), .ref c]) rfl rfl ?_
        refine hp_iv (virt := false) (pc' := 12) (rv := none) (M1 := hp_mem X (hq_93 S c (Int32.ofInt 0))) rfl rfl (by decide) (hk_93 hc S ((Int32.ofInt 0))) rfl rfl ?_
        show hp_T _ 94 12 _ [] _ _ _
        refine hp_sB 15 [2] (pc' := 2) (L' := [some (.ref c), some (.int i2), some (.int (v2 + (Int32.ofInt 1)))]) (st' := []) rfl rfl ?_
        exact ih (Nat.le_trans (Nat.le_succ n) hN) m (hq_93 S c (Int32.ofInt 0)) ((v2 + (Int32.ofInt 1))) Z (hp_up h1 hm) hZ kk
set_option maxRecDepth 10000 in
theorem ht_94 {X : hp_X} {c : Nat} (hc : hp_c c) (S : hp_S) (i2 : Int32) (n : Nat) : hp_T n 94 0 [some (.ref c), some (.int i2), none] [] (hp_mem X S) (hp_v X) (hq_94 S c i2) := by
  unfold hq_94
  refine hp_sN [1, 2] (pc' := 2) (L' := [some (.ref c), some (.int i2), some (.int (Int32.ofInt 0))]) (st' := []) rfl rfl ?_
  refine ht_94_2 n hc i2  n (Nat.le_refl _) ((i2.toInt - (Int32.ofInt 0).toInt).toNat + 1) S ((Int32.ofInt 0))  _ (Nat.lt_succ_self _) rfl (fun x2_2 => ?_)
  show hp_T _ 94 18 [some (.ref c), some (.int i2), x2_2] _ (hp_mem X ((hq_94_2 c i2 ((i2.toInt - (Int32.ofInt 0).toInt).toNat + 1) S ((Int32.ofInt 0))))) _ _
  exact hp_Rv rfl
theorem hk_94 {X : hp_X} {c : Nat} (hc : hp_c c) (S : hp_S) (i2 : Int32) : hp_K 94 [.ref c, .int i2] (hp_mem X S) (hp_v X) (hq_94 S c i2) := by
  refine hp_mk (q := hzq_94) rfl (by decide) (L := [some (.ref c), some (.int i2), none]) rfl (fun n => ?_)
  exact ht_94 hc S i2 n
/-! 95: HatsOfTheWindModel.canGo([II)Z -/
def hq_95 (S : hp_S) (c : Nat) (i2 : Int32) : Int32 := (if hz_cmp .gt ((S c (Int32.ofInt 3).toNatClampNeg) + (((S c (Int32.ofInt 2).toNatClampNeg) + i2) / (Int32.ofInt 24))) (Int32.ofInt 999) = true then (Int32.ofInt 0) else (Int32.ofInt 1))
set_option maxRecDepth 10000 in
theorem ht_95 {X : hp_X} {c : Nat} (hc : hp_c c) (S : hp_S) (i2 : Int32) (n : Nat) : hp_T n 95 0 [some (.ref c), some (.int i2)] [] (hp_mem X S) (hp_i X S) (hq_95 S c i2) := by
  unfold hq_95
  refine hp_sN [1, 2] (pc' := 2) (L' := [some (.ref c), some (.int i2)]) (st' := [.int (Int32.ofInt 3), .ref c]) rfl rfl ?_
  refine hp_al (pc' := 3) rfl (hp_cl hc) (hp_cc hc X _) rfl ?_
  refine hp_sN [4, 5] (pc' := 5) (L' := [some (.ref c), some (.int i2)]) (st' := [.int (Int32.ofInt 2), .ref c, .int (S c (Int32.ofInt 3).toNatClampNeg)]) rfl rfl ?_
  refine hp_al (pc' := 6) rfl (hp_cl hc) (hp_cc hc X _) rfl ?_
  refine hp_sN [7, 8, 10] (pc' := 10) (L' := [some (.ref c), some (.int i2)]) (st' := [.int (Int32.ofInt 24), .int ((S c (Int32.ofInt 2).toNatClampNeg) + i2), .int (S c (Int32.ofInt 3).toNatClampNeg)]) rfl rfl ?_
  refine hp_di (pc' := 11) rfl rfl ?_
  refine hp_sN [12, 15] (pc' := 15) (L' := [some (.ref c), some (.int i2)]) (st' := [.int (Int32.ofInt 999), .int ((S c (Int32.ofInt 3).toNatClampNeg) + (((S c (Int32.ofInt 2).toNatClampNeg) + i2) / (Int32.ofInt 24)))]) rfl rfl ?_
  refine hp_ic (pc' := 18) rfl rfl (fun h1 => ?_) (fun h1 => ?_)
  · refine hp_sN [23] (pc' := 23) (L' := [some (.ref c), some (.int i2)]) (st' := [.int (Int32.ofInt 0)]) rfl rfl ?_
    exact hp_Ri rfl
  · refine hp_sN [19, 23] (pc' := 23) (L' := [some (.ref c), some (.int i2)]) (st' := [.int (Int32.ofInt 1)]) rfl rfl ?_
    exact hp_Ri rfl
theorem hk_95 {X : hp_X} {c : Nat} (hc : hp_c c) (S : hp_S) (i2 : Int32) : hp_K 95 [.ref c, .int i2] (hp_mem X S) (hp_i X S) (hq_95 S c i2) := by
  refine hp_mk (q := hzq_95) rfl (by decide) (L := [some (.ref c), some (.int i2)]) rfl (fun n => ?_)
  exact ht_95 hc S i2 n

