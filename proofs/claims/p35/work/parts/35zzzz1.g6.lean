/-! 142: HatsOfTheWindModel.holdsOn([II)V -/
def hq_142 (S : hp_S) (c : Nat) (i2 : Int32) : hp_S := hp_wg 80 (hp_wg 80 S c (hq_74 S i2 (Int32.ofInt 2)) (Int32.ofInt 9)) c (Int32.ofInt 5) ((hp_wg 80 S c (hq_74 S i2 (Int32.ofInt 2)) (Int32.ofInt 9) c (Int32.ofInt 5).toNatClampNeg) ||| ((Int32.ofInt 1) <<< (i2 &&& 31)))
theorem hf_142 {c : Nat} (S : hp_S) (i2 : Int32) (j : Nat) (z0 : j ≠ c) : (hq_142 S c i2) j = S j := by
  unfold hq_142
  repeat' split
  all_goals simp [hp_wo, hp_wgo, hp_cpo, z0]
set_option maxRecDepth 10000 in
theorem ht_142 {X : hp_X} {c : Nat} (hc : hp_c c) (S : hp_S) (i2 : Int32) (n : Nat) : hp_T n 142 0 [some (.ref c), some (.int i2)] [] (hp_mem X S) (hp_v X) (hq_142 S c i2) := by
  unfold hq_142
  refine hp_sN [1, 2, 3] (pc' := 3) (L' := [some (.ref c), some (.int i2)]) (st' := [.int (Int32.ofInt 2), .int i2, .ref c]) rfl rfl ?_
  refine hp_iv (virt := false) (pc' := 6) (rv := some (.int (hq_74 S i2 (Int32.ofInt 2)))) (M1 := hp_mem X (S)) rfl rfl (by decide) (hk_74 S (i2) ((Int32.ofInt 2))) rfl rfl ?_
  show hp_T _ 142 6 _ [.int (hq_74 S i2 (Int32.ofInt 2)), .ref c] _ _ _
  refine hp_sN [8] (pc' := 8) (L' := [some (.ref c), some (.int i2)]) (st' := [.int (Int32.ofInt 9), .int (hq_74 S i2 (Int32.ofInt 2)), .ref c]) rfl rfl ?_
  refine hp_asg (pc' := 9) rfl (hp_cl hc) (fun _ => (hp_cc hc X _)) rfl ?_
  refine hp_sN [10, 11, 12] (pc' := 12) (L' := [some (.ref c), some (.int i2)]) (st' := [.int (Int32.ofInt 5), .ref c, .int (Int32.ofInt 5), .ref c]) rfl rfl ?_
  refine hp_al (pc' := 13) rfl (hp_cl hc) (hp_cc hc X _) rfl ?_
  refine hp_sN [14, 15, 16, 17] (pc' := 17) (L' := [some (.ref c), some (.int i2)]) (st' := [.int ((hp_wg 80 S c (hq_74 S i2 (Int32.ofInt 2)) (Int32.ofInt 9) c (Int32.ofInt 5).toNatClampNeg) ||| ((Int32.ofInt 1) <<< (i2 &&& 31))), .int (Int32.ofInt 5), .ref c]) rfl rfl ?_
  refine hp_asg (pc' := 18) rfl (hp_cl hc) (fun _ => (hp_cc hc X _)) rfl ?_
  exact hp_Rv rfl
theorem hk_142 {X : hp_X} {c : Nat} (hc : hp_c c) (S : hp_S) (i2 : Int32) : hp_K 142 [.ref c, .int i2] (hp_mem X S) (hp_v X) (hq_142 S c i2) := by
  refine hp_mk (q := hzq_142) rfl (by decide) (L := [some (.ref c), some (.int i2)]) rfl (fun n => ?_)
  exact ht_142 hc S i2 n
/-! 143: HatsOfTheWindModel.hasBy(IIIIII)I -/
def hq_143 (S : hp_S) (i1 : Int32) (i2 : Int32) (i3 : Int32) (i4 : Int32) (i5 : Int32) (i6 : Int32) : Int32 × hp_S := (if hz_cmp .ne i3 (Int32.ofInt 1) = true then (if hz_cmp .ne i5 (Int32.ofInt 1) = true then (if hz_cmp .ne i1 i2 = true then (((hq_130 (hq_73 S 48 49) i1 (Int32.ofInt (-4)) i6).1 - (i5 * (i6 / (Int32.ofInt 3)))), (hq_130 (hq_73 S 48 49) i1 (Int32.ofInt (-4)) i6).2) else (((hq_130 (hq_73 S 48 49) i1 (Int32.ofInt (-4)) i6).1 - (i3 * (i6 / (Int32.ofInt 3)))), (hq_130 (hq_73 S 48 49) i1 (Int32.ofInt (-4)) i6).2)) else (if hz_cmp .ne i1 i2 = true then (((hq_130 (hq_142 (hq_73 S 48 49) 49 i4) i1 (Int32.ofInt (-4)) i6).1 - (i5 * (i6 / (Int32.ofInt 3)))), (hq_130 (hq_142 (hq_73 S 48 49) 49 i4) i1 (Int32.ofInt (-4)) i6).2) else (((hq_130 (hq_142 (hq_73 S 48 49) 49 i4) i1 (Int32.ofInt (-4)) i6).1 - (i3 * (i6 / (Int32.ofInt 3)))), (hq_130 (hq_142 (hq_73 S 48 49) 49 i4) i1 (Int32.ofInt (-4)) i6).2))) else (if hz_cmp .ne i5 (Int32.ofInt 1) = true then (if hz_cmp .ne i1 i2 = true then (((hq_130 (hq_142 (hq_73 S 48 49) 49 i2) i1 (Int32.ofInt (-4)) i6).1 - (i5 * (i6 / (Int32.ofInt 3)))), (hq_130 (hq_142 (hq_73 S 48 49) 49 i2) i1 (Int32.ofInt (-4)) i6).2) else (((hq_130 (hq_142 (hq_73 S 48 49) 49 i2) i1 (Int32.ofInt (-4)) i6).1 - (i3 * (i6 / (Int32.ofInt 3)))), (hq_130 (hq_142 (hq_73 S 48 49) 49 i2) i1 (Int32.ofInt (-4)) i6).2)) else (if hz_cmp .ne i1 i2 = true then (((hq_130 (hq_142 (hq_142 (hq_73 S 48 49) 49 i2) 49 i4) i1 (Int32.ofInt (-4)) i6).1 - (i5 * (i6 / (Int32.ofInt 3)))), (hq_130 (hq_142 (hq_142 (hq_73 S 48 49) 49 i2) 49 i4) i1 (Int32.ofInt (-4)) i6).2) else (((hq_130 (hq_142 (hq_142 (hq_73 S 48 49) 49 i2) 49 i4) i1 (Int32.ofInt (-4)) i6).1 - (i3 * (i6 / (Int32.ofInt 3)))), (hq_130 (hq_142 (hq_142 (hq_73 S 48 49) 49 i2) 49 i4) i1 (Int32.ofInt (-4)) i6).2))))
theorem hf_143 (S : hp_S) (i1 : Int32) (i2 : Int32) (i3 : Int32) (i4 : Int32) (i5 : Int32) (i6 : Int32) (j : Nat) (z0 : j ≠ 49) : (hq_143 S i1 i2 i3 i4 i5 i6).2 j = S j := by
  unfold hq_143
  repeat' split
  all_goals simp [hp_wo, hp_wgo, hp_cpo, hf_73, hf_130, hf_142, z0]
set_option maxRecDepth 10000 in
theorem ht_143 {X : hp_X} (S : hp_S) (i1 : Int32) (i2 : Int32) (i3 : Int32) (i4 : Int32) (i5 : Int32) (i6 : Int32) (n : Nat) : hp_T n 143 0 [some (.ref 47), some (.int i1), some (.int i2), some (.int i3), some (.int i4), some (.int i5), some (.int i6)] [] (hp_mem X S) (hp_is X) (hq_143 S i1 i2 i3 i4 i5 i6) := by
  unfold hq_143
  refine hp_sN [1] (pc' := 1) (L' := [some (.ref 47), some (.int i1), some (.int i2), some (.int i3), some (.int i4), some (.int i5), some (.int i6)]) (st' := [.ref 47]) rfl rfl ?_
  refine hp_gf (pc' := 4) rfl (by decide) (hp_c47 X _) rfl rfl ?_
  refine hp_sN [5] (pc' := 5) (L' := [some (.ref 47), some (.int i1), some (.int i2), some (.int i3), some (.int i4), some (.int i5), some (.int i6)]) (st' := [.ref 47, .ref 48]) rfl rfl ?_
  refine hp_gf (pc' := 8) rfl (by decide) (hp_c47 X _) rfl rfl ?_
  refine hp_iv (virt := false) (pc' := 11) (rv := none) (M1 := hp_mem X (hq_73 S 48 49)) rfl rfl (by decide) (hk_73 (Or.inl rfl) (Or.inr (Or.inl rfl)) S) rfl rfl ?_
  show hp_T _ 143 11 _ [] _ _ _
  refine hp_sN [12, 13] (pc' := 13) (L' := [some (.ref 47), some (.int i1), some (.int i2), some (.int i3), some (.int i4), some (.int i5), some (.int i6)]) (st' := [.int (Int32.ofInt 1), .int i3]) rfl rfl ?_
  refine hp_ic (pc' := 16) rfl rfl (fun h1 => ?_) (fun h1 => ?_)
  · refine hp_sN [26, 27] (pc' := 27) (L' := [some (.ref 47), some (.int i1), some (.int i2), some (.int i3), some (.int i4), some (.int i5), some (.int i6)]) (st' := [.int (Int32.ofInt 1), .int i5]) rfl rfl ?_
    refine hp_ic (pc' := 30) rfl rfl (fun h2 => ?_) (fun h2 => ?_)
    · refine hp_sN [40, 41, 43, 45] (pc' := 45) (L' := [some (.ref 47), some (.int i1), some (.int i2), some (.int i3), some (.int i4), some (.int i5), some (.int i6)]) (st' := [.int i6, .int (Int32.ofInt (-4)), .int i1, .ref 47]) rfl rfl ?_
      refine hp_iv (virt := true) (pc' := 48) (rv := some (.int (hq_130 (hq_73 S 48 49) i1 (Int32.ofInt (-4)) i6).1)) (M1 := hp_mem X ((hq_130 (hq_73 S 48 49) i1 (Int32.ofInt (-4)) i6).2)) rfl rfl (by decide) (hk_130 (hq_73 S 48 49) (i1) ((Int32.ofInt (-4))) (i6)) rfl rfl ?_
      show hp_T _ 143 48 _ [.int (hq_130 (hq_73 S 48 49) i1 (Int32.ofInt (-4)) i6).1] _ _ _
      refine hp_sN [49, 50] (pc' := 50) (L' := [some (.ref 47), some (.int i1), some (.int i2), some (.int i3), some (.int i4), some (.int i5), some (.int i6)]) (st' := [.int i2, .int i1, .int (hq_130 (hq_73 S 48 49) i1 (Int32.ofInt (-4)) i6).1]) rfl rfl ?_
      refine hp_ic (pc' := 53) rfl rfl (fun h3 => ?_) (fun h3 => ?_)
      · refine hp_sN [59, 61, 62] (pc' := 62) (L' := [some (.ref 47), some (.int i1), some (.int i2), some (.int i3), some (.int i4), some (.int i5), some (.int i6)]) (st' := [.int (Int32.ofInt 3), .int i6, .int i5, .int (hq_130 (hq_73 S 48 49) i1 (Int32.ofInt (-4)) i6).1]) rfl rfl ?_
        refine hp_di (pc' := 63) rfl rfl ?_
        refine hp_sN [64, 65] (pc' := 65) (L' := [some (.ref 47), some (.int i1), some (.int i2), some (.int i3), some (.int i4), some (.int i5), some (.int i6)]) (st' := [.int ((hq_130 (hq_73 S 48 49) i1 (Int32.ofInt (-4)) i6).1 - (i5 * (i6 / (Int32.ofInt 3))))]) rfl rfl ?_
        exact hp_Ris rfl
      · refine hp_sN [54, 59, 61, 62] (pc' := 62) (L' := [some (.ref 47), some (.int i1), some (.int i2), some (.int i3), some (.int i4), some (.int i5), some (.int i6)]) (st' := [.int (Int32.ofInt 3), .int i6, .int i3, .int (hq_130 (hq_73 S 48 49) i1 (Int32.ofInt (-4)) i6).1]) rfl rfl ?_
        refine hp_di (pc' := 63) rfl rfl ?_
        refine hp_sN [64, 65] (pc' := 65) (L' := [some (.ref 47), some (.int i1), some (.int i2), some (.int i3), some (.int i4), some (.int i5), some (.int i6)]) (st' := [.int ((hq_130 (hq_73 S 48 49) i1 (Int32.ofInt (-4)) i6).1 - (i3 * (i6 / (Int32.ofInt 3))))]) rfl rfl ?_
        exact hp_Ris rfl
    · refine hp_sN [31] (pc' := 31) (L' := [some (.ref 47), some (.int i1), some (.int i2), some (.int i3), some (.int i4), some (.int i5), some (.int i6)]) (st' := [.ref 47]) rfl rfl ?_
      refine hp_gf (pc' := 34) rfl (by decide) (hp_c47 X _) rfl rfl ?_
      refine hp_sN [36] (pc' := 36) (L' := [some (.ref 47), some (.int i1), some (.int i2), some (.int i3), some (.int i4), some (.int i5), some (.int i6)]) (st' := [.int i4, .ref 49]) rfl rfl ?_
      refine hp_iv (virt := false) (pc' := 39) (rv := none) (M1 := hp_mem X (hq_142 (hq_73 S 48 49) 49 i4)) rfl rfl (by decide) (hk_142 (Or.inr (Or.inl rfl)) (hq_73 S 48 49) (i4)) rfl rfl ?_
      show hp_T _ 143 39 _ [] _ _ _
      refine hp_sN [40, 41, 43, 45] (pc' := 45) (L' := [some (.ref 47), some (.int i1), some (.int i2), some (.int i3), some (.int i4), some (.int i5), some (.int i6)]) (st' := [.int i6, .int (Int32.ofInt (-4)), .int i1, .ref 47]) rfl rfl ?_
      refine hp_iv (virt := true) (pc' := 48) (rv := some (.int (hq_130 (hq_142 (hq_73 S 48 49) 49 i4) i1 (Int32.ofInt (-4)) i6).1)) (M1 := hp_mem X ((hq_130 (hq_142 (hq_73 S 48 49) 49 i4) i1 (Int32.ofInt (-4)) i6).2)) rfl rfl (by decide) (hk_130 (hq_142 (hq_73 S 48 49) 49 i4) (i1) ((Int32.ofInt (-4))) (i6)) rfl rfl ?_
      show hp_T _ 143 48 _ [.int (hq_130 (hq_142 (hq_73 S 48 49) 49 i4) i1 (Int32.ofInt (-4)) i6).1] _ _ _
      refine hp_sN [49, 50] (pc' := 50) (L' := [some (.ref 47), some (.int i1), some (.int i2), some (.int i3), some (.int i4), some (.int i5), some (.int i6)]) (st' := [.int i2, .int i1, .int (hq_130 (hq_142 (hq_73 S 48 49) 49 i4) i1 (Int32.ofInt (-4)) i6).1]) rfl rfl ?_
      refine hp_ic (pc' := 53) rfl rfl (fun h4 => ?_) (fun h4 => ?_)
      · refine hp_sN [59, 61, 62] (pc' := 62) (L' := [some (.ref 47), some (.int i1), some (.int i2), some (.int i3), some (.int i4), some (.int i5), some (.int i6)]) (st' := [.int (Int32.ofInt 3), .int i6, .int i5, .int (hq_130 (hq_142 (hq_73 S 48 49) 49 i4) i1 (Int32.ofInt (-4)) i6).1]) rfl rfl ?_
        refine hp_di (pc' := 63) rfl rfl ?_
        refine hp_sN [64, 65] (pc' := 65) (L' := [some (.ref 47), some (.int i1), some (.int i2), some (.int i3), some (.int i4), some (.int i5), some (.int i6)]) (st' := [.int ((hq_130 (hq_142 (hq_73 S 48 49) 49 i4) i1 (Int32.ofInt (-4)) i6).1 - (i5 * (i6 / (Int32.ofInt 3))))]) rfl rfl ?_
        exact hp_Ris rfl
      · refine hp_sN [54, 59, 61, 62] (pc' := 62) (L' := [some (.ref 47), some (.int i1), some (.int i2), some (.int i3), some (.int i4), some (.int i5), some (.int i6)]) (st' := [.int (Int32.ofInt 3), .int i6, .int i3, .int (hq_130 (hq_142 (hq_73 S 48 49) 49 i4) i1 (Int32.ofInt (-4)) i6).1]) rfl rfl ?_
        refine hp_di (pc' := 63) rfl rfl ?_
        refine hp_sN [64, 65] (pc' := 65) (L' := [some (.ref 47), some (.int i1), some (.int i2), some (.int i3), some (.int i4), some (.int i5), some (.int i6)]) (st' := [.int ((hq_130 (hq_142 (hq_73 S 48 49) 49 i4) i1 (Int32.ofInt (-4)) i6).1 - (i3 * (i6 / (Int32.ofInt 3))))]) rfl rfl ?_
        exact hp_Ris rfl
  · refine hp_sN [17] (pc' := 17) (L' := [some (.ref 47), some (.int i1), some (.int i2), some (.int i3), some (.int i4), some (.int i5), some (.int i6)]) (st' := [.ref 47]) rfl rfl ?_
    refine hp_gf (pc' := 20) rfl (by decide) (hp_c47 X _) rfl rfl ?_
    refine hp_sN [21] (pc' := 21) (L' := [some (.ref 47), some (.int i1), some (.int i2), some (.int i3), some (.int i4), some (.int i5), some (.int i6)]) (st' := [.int i2, .ref 49]) rfl rfl ?_
    refine hp_iv (virt := false) (pc' := 24) (rv := none) (M1 := hp_mem X (hq_142 (hq_73 S 48 49) 49 i2)) rfl rfl (by decide) (hk_142 (Or.inr (Or.inl rfl)) (hq_73 S 48 49) (i2)) rfl rfl ?_
    show hp_T _ 143 24 _ [] _ _ _
    refine hp_sN [26, 27] (pc' := 27) (L' := [some (.ref 47), some (.int i1), some (.int i2), some (.int i3), some (.int i4), some (.int i5), some (.int i6)]) (st' := [.int (Int32.ofInt 1), .int i5]) rfl rfl ?_
    refine hp_ic (pc' := 30) rfl rfl (fun h5 => ?_) (fun h5 => ?_)
    · refine hp_sN [40, 41, 43, 45] (pc' := 45) (L' := [some (.ref 47), some (.int i1), some (.int i2), some (.int i3), some (.int i4), some (.int i5), some (.int i6)]) (st' := [.int i6, .int (Int32.ofInt (-4)), .int i1, .ref 47]) rfl rfl ?_
      refine hp_iv (virt := true) (pc' := 48) (rv := some (.int (hq_130 (hq_142 (hq_73 S 48 49) 49 i2) i1 (Int32.ofInt (-4)) i6).1)) (M1 := hp_mem X ((hq_130 (hq_142 (hq_73 S 48 49) 49 i2) i1 (Int32.ofInt (-4)) i6).2)) rfl rfl (by decide) (hk_130 (hq_142 (hq_73 S 48 49) 49 i2) (i1) ((Int32.ofInt (-4))) (i6)) rfl rfl ?_
      show hp_T _ 143 48 _ [.int (hq_130 (hq_142 (hq_73 S 48 49) 49 i2) i1 (Int32.ofInt (-4)) i6).1] _ _ _
      refine hp_sN [49, 50] (pc' := 50) (L' := [some (.ref 47), some (.int i1), some (.int i2), some (.int i3), some (.int i4), some (.int i5), some (.int i6)]) (st' := [.int i2, .int i1, .int (hq_130 (hq_142 (hq_73 S 48 49) 49 i2) i1 (Int32.ofInt (-4)) i6).1]) rfl rfl ?_
      refine hp_ic (pc' := 53) rfl rfl (fun h6 => ?_) (fun h6 => ?_)
      · refine hp_sN [59, 61, 62] (pc' := 62) (L' := [some (.ref 47), some (.int i1), some (.int i2), some (.int i3), some (.int i4), some (.int i5), some (.int i6)]) (st' := [.int (Int32.ofInt 3), .int i6, .int i5, .int (hq_130 (hq_142 (hq_73 S 48 49) 49 i2) i1 (Int32.ofInt (-4)) i6).1]) rfl rfl ?_
        refine hp_di (pc' := 63) rfl rfl ?_
        refine hp_sN [64, 65] (pc' := 65) (L' := [some (.ref 47), some (.int i1), some (.int i2), some (.int i3), some (.int i4), some (.int i5), some (.int i6)]) (st' := [.int ((hq_130 (hq_142 (hq_73 S 48 49) 49 i2) i1 (Int32.ofInt (-4)) i6).1 - (i5 * (i6 / (Int32.ofInt 3))))]) rfl rfl ?_
        exact hp_Ris rfl
      · refine hp_sN [54, 59, 61, 62] (pc' := 62) (L' := [some (.ref 47), some (.int i1), some (.int i2), some (.int i3), some (.int i4), some (.int i5), some (.int i6)]) (st' := [.int (Int32.ofInt 3), .int i6, .int i3, .int (hq_130 (hq_142 (hq_73 S 48 49) 49 i2) i1 (Int32.ofInt (-4)) i6).1]) rfl rfl ?_
        refine hp_di (pc' := 63) rfl rfl ?_
        refine hp_sN [64, 65] (pc' := 65) (L' := [some (.ref 47), some (.int i1), some (.int i2), some (.int i3), some (.int i4), some (.int i5), some (.int i6)]) (st' := [.int ((hq_130 (hq_142 (hq_73 S 48 49) 49 i2) i1 (Int32.ofInt (-4)) i6).1 - (i3 * (i6 / (Int32.ofInt 3))))]) rfl rfl ?_
        exact hp_Ris rfl
    · refine hp_sN [31] (pc' := 31) (L' := [some (.ref 47), some (.int i1), some (.int i2), some (.int i3), some (.int i4), some (.int i5), some (.int i6)]) (st' := [.ref 47]) rfl rfl ?_
      refine hp_gf (pc' := 34) rfl (by decide) (hp_c47 X _) rfl rfl ?_
      refine hp_sN [36] (pc' := 36) (L' := [some (.ref 47), some (.int i1), some (.int i2), some (.int i3), some (.int i4), some (.int i5), some (.int i6)]) (st' := [.int i4, .ref 49]) rfl rfl ?_
      refine hp_iv (virt := false) (pc' := 39) (rv := none) (M1 := hp_mem X (hq_142 (hq_142 (hq_73 S 48 49) 49 i2) 49 i4)) rfl rfl (by decide) (hk_142 (Or.inr (Or.inl rfl)) (hq_142 (hq_73 S 48 49) 49 i2) (i4)) rfl rfl ?_
      show hp_T _ 143 39 _ [] _ _ _
      refine hp_sN [40, 41, 43, 45] (pc' := 45) (L' := [some (.ref 47), some (.int i1), some (.int i2), some (.int i3), some (.int i4), some (.int i5), some (.int i6)]) (st' := [.int i6, .int (Int32.ofInt (-4)), .int i1, .ref 47]) rfl rfl ?_
      refine hp_iv (virt := true) (pc' := 48) (rv := some (.int (hq_130 (hq_142 (hq_142 (hq_73 S 48 49) 49 i2) 49 i4) i1 (Int32.ofInt (-4)) i6).1)) (M1 := hp_mem X ((hq_130 (hq_142 (hq_142 (hq_73 S 48 49) 49 i2) 49 i4) i1 (Int32.ofInt (-4)) i6).2)) rfl rfl (by decide) (hk_130 (hq_142 (hq_142 (hq_73 S 48 49) 49 i2) 49 i4) (i1) ((Int32.ofInt (-4))) (i6)) rfl rfl ?_
      show hp_T _ 143 48 _ [.int (hq_130 (hq_142 (hq_142 (hq_73 S 48 49) 49 i2) 49 i4) i1 (Int32.ofInt (-4)) i6).1] _ _ _
      refine hp_sN [49, 50] (pc' := 50) (L' := [some (.ref 47), some (.int i1), some (.int i2), some (.int i3), some (.int i4), some (.int i5), some (.int i6)]) (st' := [.int i2, .int i1, .int (hq_130 (hq_142 (hq_142 (hq_73 S 48 49) 49 i2) 49 i4) i1 (Int32.ofInt (-4)) i6).1]) rfl rfl ?_
      refine hp_ic (pc' := 53) rfl rfl (fun h7 => ?_) (fun h7 => ?_)
      · refine hp_sN [59, 61, 62] (pc' := 62) (L' := [some (.ref 47), some (.int i1), some (.int i2), some (.int i3), some (.int i4), some (.int i5), some (.int i6)]) (st' := [.int (Int32.ofInt 3), .int i6, .int i5, .int (hq_130 (hq_142 (hq_142 (hq_73 S 48 49) 49 i2) 49 i4) i1 (Int32.ofInt (-4)) i6).1]) rfl rfl ?_
        refine hp_di (pc' := 63) rfl rfl ?_
        refine hp_sN [64, 65] (pc' := 65) (L' := [some (.ref 47), some (.int i1), some (.int i2), some (.int i3), some (.int i4), some (.int i5), some (.int i6)]) (st' := [.int ((hq_130 (hq_142 (hq_142 (hq_73 S 48 49) 49 i2) 49 i4) i1 (Int32.ofInt (-4)) i6).1 - (i5 * (i6 / (Int32.ofInt 3))))]) rfl rfl ?_
        exact hp_Ris rfl
      · refine hp_sN [54, 59, 61, 62] (pc' := 62) (L' := [some (.ref 47), some (.int i1), some (.int i2), some (.int i3), some (.int i4), some (.int i5), some (.int i6)]) (st' := [.int (Int32.ofInt 3), .int i6, .int i3, .int (hq_130 (hq_142 (hq_142 (hq_73 S 48 49) 49 i2) 49 i4) i1 (Int32.ofInt (-4)) i6).1]) rfl rfl ?_
        refine hp_di (pc' := 63) rfl rfl ?_
        refine hp_sN [64, 65] (pc' := 65) (L' := [some (.ref 47), some (.int i1), some (.int i2), some (.int i3), some (.int i4), some (.int i5), some (.int i6)]) (st' := [.int ((hq_130 (hq_142 (hq_142 (hq_73 S 48 49) 49 i2) 49 i4) i1 (Int32.ofInt (-4)) i6).1 - (i3 * (i6 / (Int32.ofInt 3))))]) rfl rfl ?_
        exact hp_Ris rfl
theorem hk_143 {X : hp_X} (S : hp_S) (i1 : Int32) (i2 : Int32) (i3 : Int32) (i4 : Int32) (i5 : Int32) (i6 : Int32) : hp_K 143 [.ref 47, .int i1, .int i2, .int i3, .int i4, .int i5, .int i6] (hp_mem X S) (hp_is X) (hq_143 S i1 i2 i3 i4 i5 i6) := by
  refine hp_mk (q := hzq_143) rfl (by decide) (L := [some (.ref 47), some (.int i1), some (.int i2), some (.int i3), some (.int i4), some (.int i5), some (.int i6)]) rfl (fun n => ?_)
  exact ht_143 S i1 i2 i3 i4 i5 i6 n
/-! 144: HatsOfTheWindModel.two(III)I -/
def hq_144_36 (i1 : Int32) (i2 : Int32) (i3 : Int32) : Nat → hp_S → Int32 → Int32 × hp_S
  | 0, S, _ => (0, S)
  | m + 1, S, v4 => (if hz_cmp .ge v4 (Int32.ofInt 4) = true then ((Int32.ofInt (-4)), S) else (if hz_cmp .gt (hq_143 S i1 i1 ((Int32.ofInt 1) - (v4 / (Int32.ofInt 2))) i2 (v4 - v4 / (Int32.ofInt 2) * (Int32.ofInt 2)) i3).1 (hq_143 ((hq_143 S i1 i1 ((Int32.ofInt 1) - (v4 / (Int32.ofInt 2))) i2 (v4 - v4 / (Int32.ofInt 2) * (Int32.ofInt 2)) i3).2) i1 i1 (v4 / (Int32.ofInt 2)) i2 (v4 - v4 / (Int32.ofInt 2) * (Int32.ofInt 2)) i3).1 = true then hq_144_36 i1 i2 i3 m ((hq_143 ((hq_143 S i1 i1 ((Int32.ofInt 1) - (v4 / (Int32.ofInt 2))) i2 (v4 - v4 / (Int32.ofInt 2) * (Int32.ofInt 2)) i3).2) i1 i1 (v4 / (Int32.ofInt 2)) i2 (v4 - v4 / (Int32.ofInt 2) * (Int32.ofInt 2)) i3).2) (v4 + (Int32.ofInt 1)) else (if hz_cmp .gt (hq_143 ((hq_143 ((hq_143 S i1 i1 ((Int32.ofInt 1) - (v4 / (Int32.ofInt 2))) i2 (v4 - v4 / (Int32.ofInt 2) * (Int32.ofInt 2)) i3).2) i1 i1 (v4 / (Int32.ofInt 2)) i2 (v4 - v4 / (Int32.ofInt 2) * (Int32.ofInt 2)) i3).2) i2 i1 (v4 / (Int32.ofInt 2)) i2 ((Int32.ofInt 1) - (v4 - v4 / (Int32.ofInt 2) * (Int32.ofInt 2))) i3).1 (hq_143 ((hq_143 ((hq_143 ((hq_143 S i1 i1 ((Int32.ofInt 1) - (v4 / (Int32.ofInt 2))) i2 (v4 - v4 / (Int32.ofInt 2) * (Int32.ofInt 2)) i3).2) i1 i1 (v4 / (Int32.ofInt 2)) i2 (v4 - v4 / (Int32.ofInt 2) * (Int32.ofInt 2)) i3).2) i2 i1 (v4 / (Int32.ofInt 2)) i2 ((Int32.ofInt 1) - (v4 - v4 / (Int32.ofInt 2) * (Int32.ofInt 2))) i3).2) i2 i1 (v4 / (Int32.ofInt 2)) i2 (v4 - v4 / (Int32.ofInt 2) * (Int32.ofInt 2)) i3).1 = true then hq_144_36 i1 i2 i3 m ((hq_143 ((hq_143 ((hq_143 ((hq_143 S i1 i1 ((Int32.ofInt 1) - (v4 / (Int32.ofInt 2))) i2 (v4 - v4 / (Int32.ofInt 2) * (Int32.ofInt 2)) i3).2) i1 i1 (v4 / (Int32.ofInt 2)) i2 (v4 - v4 / (Int32.ofInt 2) * (Int32.ofInt 2)) i3).2) i2 i1 (v4 / (Int32.ofInt 2)) i2 ((Int32.ofInt 1) - (v4 - v4 / (Int32.ofInt 2) * (Int32.ofInt 2))) i3).2) i2 i1 (v4 / (Int32.ofInt 2)) i2 (v4 - v4 / (Int32.ofInt 2) * (Int32.ofInt 2)) i3).2) (v4 + (Int32.ofInt 1)) else ((((Int32.ofInt 10) * (v4 / (Int32.ofInt 2))) + (v4 - v4 / (Int32.ofInt 2) * (Int32.ofInt 2))), (hq_143 ((hq_143 ((hq_143 ((hq_143 S i1 i1 ((Int32.ofInt 1) - (v4 / (Int32.ofInt 2))) i2 (v4 - v4 / (Int32.ofInt 2) * (Int32.ofInt 2)) i3).2) i1 i1 (v4 / (Int32.ofInt 2)) i2 (v4 - v4 / (Int32.ofInt 2) * (Int32.ofInt 2)) i3).2) i2 i1 (v4 / (Int32.ofInt 2)) i2 ((Int32.ofInt 1) - (v4 - v4 / (Int32.ofInt 2) * (Int32.ofInt 2))) i3).2) i2 i1 (v4 / (Int32.ofInt 2)) i2 (v4 - v4 / (Int32.ofInt 2) * (Int32.ofInt 2)) i3).2))))
def hq_144 (S : hp_S) (i1 : Int32) (i2 : Int32) (i3 : Int32) : Int32 × hp_S := (if hz_cmp .eq (hq_76 S i1) 0 = true then ((Int32.ofInt (-1)), S) else (if hz_cmp .eq (hq_76 S i2) 0 = true then ((Int32.ofInt (-1)), S) else (if hz_cmp .eq i1 i2 = true then ((Int32.ofInt (-1)), S) else (if hz_cmp .ne (hq_70 S i3 (Int32.ofInt 1) (Int32.ofInt 24)) 0 = true then (hq_144_36 i1 i2 i3 (((Int32.ofInt 4).toInt - (Int32.ofInt 0).toInt).toNat + 1) S ((Int32.ofInt 0))) else ((Int32.ofInt (-1)), S)))))
theorem hf_144_36 {i1 : Int32} {i2 : Int32} {i3 : Int32} (j : Nat) (z0 : j ≠ 49) : ∀ (m : Nat) (S : hp_S) (v4 : Int32), (hq_144_36 i1 i2 i3 m S v4).2 j = S j := by
  intro m
  induction m with
  | zero => intros; rfl
  | succ m ih =>
    intro S v4
    rw [hq_144_36]
    repeat' split
    all_goals simp [ih, hp_wo, hp_wgo, hp_cpo, hf_143, z0]
theorem hf_144 (S : hp_S) (i1 : Int32) (i2 : Int32) (i3 : Int32) (j : Nat) (z0 : j ≠ 49) : (hq_144 S i1 i2 i3).2 j = S j := by
  unfold hq_144
  repeat' split
  all_goals simp [hp_wo, hp_wgo, hp_cpo, hf_143, z0, hf_144_36]
set_option maxRecDepth 10000 in
theorem ht_144_36 {X : hp_X} (i1 : Int32) (i2 : Int32) (i3 : Int32) : ∀ (n m : Nat) (S : hp_S) (v4 : Int32) (x5 : Option Value) (x6 : Option Value), ((Int32.ofInt 4).toInt - v4.toInt).toNat < m → hp_T n 144 36 [some (.ref 47), some (.int i1), some (.int i2), some (.int i3), some (.int v4), x5, x6] [] (hp_mem X S) (hp_is X) (hq_144_36 i1 i2 i3 m S v4) := by
  intro n
  induction n with
  | zero => intros; exact hp_0
  | succ n ih =>
    intro m S v4 x5 x6 hm
    cases m with
    | zero => exact absurd hm (Nat.not_lt_zero _)
    | succ m =>
      rw [hq_144_36]
      refine hp_sN [38, 39] (pc' := 39) (L' := [some (.ref 47), some (.int i1), some (.int i2), some (.int i3), some (.int v4), x5, x6]) (st' := [.int (Int32.ofInt 4), .int v4]) rfl rfl ?_
      refine hp_ic (pc' := 42) rfl rfl (fun h1 => ?_) (fun h1 => ?_)
      · refine hp_sN [129] (pc' := 129) (L' := [some (.ref 47), some (.int i1), some (.int i2), some (.int i3), some (.int v4), x5, x6]) (st' := [.int (Int32.ofInt (-4))]) rfl rfl ?_
        exact hp_Ris rfl
      · refine hp_sN [44, 45] (pc' := 45) (L' := [some (.ref 47), some (.int i1), some (.int i2), some (.int i3), some (.int v4), x5, x6]) (st' := [.int (Int32.ofInt 2), .int v4]) rfl rfl ?_
        refine hp_di (pc' := 46) rfl rfl ?_
        refine hp_sN [48, 50, 51] (pc' := 51) (L' := [some (.ref 47), some (.int i1), some (.int i2), some (.int i3), some (.int v4), some (.int (v4 / (Int32.ofInt 2))), x6]) (st' := [.int (Int32.ofInt 2), .int v4]) rfl rfl ?_
        refine hp_ri2 (pc' := 52) rfl rfl ?_
        refine hp_sN [54, 55, 56, 57, 58, 60, 61, 62, 64, 65] (pc' := 65) (L' := [some (.ref 47), some (.int i1), some (.int i2), some (.int i3), some (.int v4), some (.int (v4 / (Int32.ofInt 2))), some (.int (v4 - v4 / (Int32.ofInt 2) * (Int32.ofInt 2)))]) (st' := [.int i3, .int (v4 - v4 / (Int32.ofInt 2) * (Int32.ofInt 2)), .int i2, .int ((Int32.ofInt 1) - (v4 / (Int32.ofInt 2))), .int i1, .int i1, .ref 47]) rfl rfl ?_
        refine hp_iv (virt := true) (pc' := 68) (rv := some (.int (hq_143 S i1 i1 ((Int32.ofInt 1) - (v4 / (Int32.ofInt 2))) i2 (v4 - v4 / (Int32.ofInt 2) * (Int32.ofInt 2)) i3).1)) (M1 := hp_mem X ((hq_143 S i1 i1 ((Int32.ofInt 1) - (v4 / (Int32.ofInt 2))) i2 (v4 - v4 / (Int32.ofInt 2) * (Int32.ofInt 2)) i3).2)) rfl rfl (by decide) (hk_143 S (i1) (i1) (((Int32.ofInt 1) - (v4 / (Int32.ofInt 2)))) (i2) ((v4 - v4 / (Int32.ofInt 2) * (Int32.ofInt 2))) (i3)) rfl rfl ?_
        show hp_T _ 144 68 _ [.int (hq_143 S i1 i1 ((Int32.ofInt 1) - (v4 / (Int32.ofInt 2))) i2 (v4 - v4 / (Int32.ofInt 2) * (Int32.ofInt 2)) i3).1] _ _ _
        refine hp_sN [69, 70, 71, 73, 74, 76, 77] (pc' := 77) (L' := [some (.ref 47), some (.int i1), some (.int i2), some (.int i3), some (.int v4), some (.int (v4 / (Int32.ofInt 2))), some (.int (v4 - v4 / (Int32.ofInt 2) * (Int32.ofInt 2)))]) (st' := [.int i3, .int (v4 - v4 / (Int32.ofInt 2) * (Int32.ofInt 2)), .int i2, .int (v4 / (Int32.ofInt 2)), .int i1, .int i1, .ref 47, .int (hq_143 S i1 i1 ((Int32.ofInt 1) - (v4 / (Int32.ofInt 2))) i2 (v4 - v4 / (Int32.ofInt 2) * (Int32.ofInt 2)) i3).1]) rfl rfl ?_
        refine hp_iv (virt := true) (pc' := 80) (rv := some (.int (hq_143 ((hq_143 S i1 i1 ((Int32.ofInt 1) - (v4 / (Int32.ofInt 2))) i2 (v4 - v4 / (Int32.ofInt 2) * (Int32.ofInt 2)) i3).2) i1 i1 (v4 / (Int32.ofInt 2)) i2 (v4 - v4 / (Int32.ofInt 2) * (Int32.ofInt 2)) i3).1)) (M1 := hp_mem X ((hq_143 ((hq_143 S i1 i1 ((Int32.ofInt 1) - (v4 / (Int32.ofInt 2))) i2 (v4 - v4 / (Int32.ofInt 2) * (Int32.ofInt 2)) i3).2) i1 i1 (v4 / (Int32.ofInt 2)) i2 (v4 - v4 / (Int32.ofInt 2) * (Int32.ofInt 2)) i3).2)) rfl rfl (by decide) (hk_143 ((hq_143 S i1 i1 ((Int32.ofInt 1) - (v4 / (Int32.ofInt 2))) i2 (v4 - v4 / (Int32.ofInt 2) * (Int32.ofInt 2)) i3).2) (i1) (i1) ((v4 / (Int32.ofInt 2))) (i2) ((v4 - v4 / (Int32.ofInt 2) * (Int32.ofInt 2))) (i3)) rfl rfl ?_
        show hp_T _ 144 80 _ [.int (hq_143 ((hq_143 S i1 i1 ((Int32.ofInt 1) - (v4 / (Int32.ofInt 2))) i2 (v4 - v4 / (Int32.ofInt 2) * (Int32.ofInt 2)) i3).2) i1 i1 (v4 / (Int32.ofInt 2)) i2 (v4 - v4 / (Int32.ofInt 2) * (Int32.ofInt 2)) i3).1, .int (hq_143 S i1 i1 ((Int32.ofInt 1) - (v4 / (Int32.ofInt 2))) i2 (v4 - v4 / (Int32.ofInt 2) * (Int32.ofInt 2)) i3).1] _ _ _
        refine hp_ic (pc' := 83) rfl rfl (fun h2 => ?_) (fun h2 => ?_)
        · refine hp_sB 124 [36] (pc' := 36) (L' := [some (.ref 47), some (.int i1), some (.int i2), some (.int i3), some (.int (v4 + (Int32.ofInt 1))), some (.int (v4 / (Int32.ofInt 2))), some (.int (v4 - v4 / (Int32.ofInt 2) * (Int32.ofInt 2)))]) (st' := []) rfl rfl ?_
          exact ih m ((hq_143 ((hq_143 S i1 i1 ((Int32.ofInt 1) - (v4 / (Int32.ofInt 2))) i2 (v4 - v4 / (Int32.ofInt 2) * (Int32.ofInt 2)) i3).2) i1 i1 (v4 / (Int32.ofInt 2)) i2 (v4 - v4 / (Int32.ofInt 2) * (Int32.ofInt 2)) i3).2) ((v4 + (Int32.ofInt 1))) (some (.int (v4 / (Int32.ofInt 2)))) (some (.int (v4 - v4 / (Int32.ofInt 2) * (Int32.ofInt 2)))) (hp_up h1 hm)
        · refine hp_sN [84, 85, 86, 88, 89, 90, 92, 93, 94] (pc' := 94) (L' := [some (.ref 47), some (.int i1), some (.int i2), some (.int i3), some (.int v4), some (.int (v4 / (Int32.ofInt 2))), some (.int (v4 - v4 / (Int32.ofInt 2) * (Int32.ofInt 2)))]) (st' := [.int i3, .int ((Int32.ofInt 1) - (v4 - v4 / (Int32.ofInt 2) * (Int32.ofInt 2))), .int i2, .int (v4 / (Int32.ofInt 2)), .int i1, .int i2, .ref 47]) rfl rfl ?_
          refine hp_iv (virt := true) (pc' := 97) (rv := some (.int (hq_143 ((hq_143 ((hq_143 S i1 i1 ((Int32.ofInt 1) - (v4 / (Int32.ofInt 2))) i2 (v4 - v4 / (Int32.ofInt 2) * (Int32.ofInt 2)) i3).2) i1 i1 (v4 / (Int32.ofInt 2)) i2 (v4 - v4 / (Int32.ofInt 2) * (Int32.ofInt 2)) i3).2) i2 i1 (v4 / (Int32.ofInt 2)) i2 ((Int32.ofInt 1) - (v4 - v4 / (Int32.ofInt 2) * (Int32.ofInt 2))) i3).1)) (M1 := hp_mem X ((hq_143 ((hq_143 ((hq_143 S i1 i1 ((Int32.ofInt 1) - (v4 / (Int32.ofInt 2))) i2 (v4 - v4 / (Int32.ofInt 2) * (Int32.ofInt 2)) i3).2) i1 i1 (v4 / (Int32.ofInt 2)) i2 (v4 - v4 / (Int32.ofInt 2) * (Int32.ofInt 2)) i3).2) i2 i1 (v4 / (Int32.ofInt 2)) i2 ((Int32.ofInt 1) - (v4 - v4 / (Int32.ofInt 2) * (Int32.ofInt 2))) i3).2)) rfl rfl (by decide) (hk_143 ((hq_143 ((hq_143 S i1 i1 ((Int32.ofInt 1) - (v4 / (Int32.ofInt 2))) i2 (v4 - v4 / (Int32.ofInt 2) * (Int32.ofInt 2)) i3).2) i1 i1 (v4 / (Int32.ofInt 2)) i2 (v4 - v4 / (Int32.ofInt 2) * (Int32.ofInt 2)) i3).2) (i2) (i1) ((v4 / (Int32.ofInt 2))) (i2) (((Int32.ofInt 1) - (v4 - v4 / (Int32.ofInt 2) * (Int32.ofInt 2)))) (i3)) rfl rfl ?_
          show hp_T _ 144 97 _ [.int (hq_143 ((hq_143 ((hq_143 S i1 i1 ((Int32.ofInt 1) - (v4 / (Int32.ofInt 2))) i2 (v4 - v4 / (Int32.ofInt 2) * (Int32.ofInt 2)) i3).2) i1 i1 (v4 / (Int32.ofInt 2)) i2 (v4 - v4 / (Int32.ofInt 2) * (Int32.ofInt 2)) i3).2) i2 i1 (v4 / (Int32.ofInt 2)) i2 ((Int32.ofInt 1) - (v4 - v4 / (Int32.ofInt 2) * (Int32.ofInt 2))) i3).1] _ _ _
          refine hp_sN [98, 99, 100, 102, 103, 105, 106] (pc' := 106) (L' := [some (.ref 47), some (.int i1), some (.int i2), some (.int i3), some (.int v4), some (.int (v4 / (Int32.ofInt 2))), some (.int (v4 - v4 / (Int32.ofInt 2) * (Int32.ofInt 2)))]) (st' := [.int i3, .int (v4 - v4 / (Int32.ofInt 2) * (Int32.ofInt 2)), .int i2, .int (v4 / (Int32.ofInt 2)), .int i1, .int i2, .ref 47, .int (hq_143 ((hq_143 ((hq_143 S i1 i1 ((Int32.ofInt 1) - (v4 / (Int32.ofInt 2))) i2 (v4 - v4 / (Int32.ofInt 2) * (Int32.ofInt 2)) i3).2) i1 i1 (v4 / (Int32.ofInt 2)) i2 (v4 - v4 / (Int32.ofInt 2) * (Int32.ofInt 2)) i3).2) i2 i1 (v4 / (Int32.ofInt 2)) i2 ((Int32.ofInt 1) - (v4 - v4 / (Int32.ofInt 2) * (Int32.ofInt 2))) i3).1]) rfl rfl ?_
          refine hp_iv (virt := true) (pc' := 109) (rv := some (.int (hq_143 ((hq_143 ((hq_143 ((hq_143 S i1 i1 ((Int32.ofInt 1) - (v4 / (Int32.ofInt 2))) i2 (v4 - v4 / (Int32.ofInt 2) * (Int32.ofInt 2)) i3).2) i1 i1 (v4 / (Int32.ofInt 2)) i2 (v4 - v4 / (Int32.ofInt 2) * (Int32.ofInt 2)) i3).2) i2 i1 (v4 / (Int32.ofInt 2)) i2 ((Int32.ofInt 1) - (v4 - v4 / (Int32.ofInt 2) * (Int32.ofInt 2))) i3).2) i2 i1 (v4 / (Int32.ofInt 2)) i2 (v4 - v4 / (Int32.ofInt 2) * (Int32.ofInt 2)) i3).1)) (M1 := hp_mem X ((hq_143 ((hq_143 ((hq_143 ((hq_143 S i1 i1 ((Int32.ofInt 1) - (v4 / (Int32.ofInt 2))) i2 (v4 - v4 / (Int32.ofInt 2) * (Int32.ofInt 2)) i3).2) i1 i1 (v4 / (Int32.ofInt 2)) i2 (v4 - v4 / (Int32.ofInt 2) * (Int32.ofInt 2)) i3).2) i2 i1 (v4 / (Int32.ofInt 2)) i2 ((Int32.ofInt 1) - (v4 - v4 / (Int32.ofInt 2) * (Int32.ofInt 2))) i3).2) i2 i1 (v4 / (Int32.ofInt 2)) i2 (v4 - v4 / (Int32.ofInt 2) * (Int32.ofInt 2)) i3).2)) rfl rfl (by decide) (hk_143 ((hq_143 ((hq_143 ((hq_143 S i1 i1 ((Int32.ofInt 1) - (v4 / (Int32.ofInt 2))) i2 (v4 - v4 / (Int32.ofInt 2) * (Int32.ofInt 2)) i3).2) i1 i1 (v4 / (Int32.ofInt 2)) i2 (v4 - v4 / (Int32.ofInt 2) * (Int32.ofInt 2)) i3).2) i2 i1 (v4 / (Int32.ofInt 2)) i2 ((Int32.ofInt 1) - (v4 - v4 / (Int32.ofInt 2) * (Int32.ofInt 2))) i3).2) (i2) (i1) ((v4 / (Int32.ofInt 2))) (i2) ((v4 - v4 / (Int32.ofInt 2) * (Int32.ofInt 2))) (i3)) rfl rfl ?_
          show hp_T _ 144 109 _ [.int (hq_143 ((hq_143 ((hq_143 ((hq_143 S i1 i1 ((Int32.ofInt 1) - (v4 / (Int32.ofInt 2))) i2 (v4 - v4 / (Int32.ofInt 2) * (Int32.ofInt 2)) i3).2) i1 i1 (v4 / (Int32.ofInt 2)) i2 (v4 - v4 / (Int32.ofInt 2) * (Int32.ofInt 2)) i3).2) i2 i1 (v4 / (Int32.ofInt 2)) i2 ((Int32.ofInt 1) - (v4 - v4 / (Int32.ofInt 2) * (Int32.ofInt 2))) i3).2) i2 i1 (v4 / (Int32.ofInt 2)) i2 (v4 - v4 / (Int32.ofInt 2) * (Int32.ofInt 2)) i3).1, .int (hq_143 ((hq_143 ((hq_143 S i1 i1 ((Int32.ofInt 1) - (v4 / (Int32.ofInt 2))) i2 (v4 - v4 / (Int32.ofInt 2) * (Int32.ofInt 2)) i3).2) i1 i1 (v4 / (Int32.ofInt 2)) i2 (v4 - v4 / (Int32.ofInt 2) * (Int32.ofInt 2)) i3).2) i2 i1 (v4 / (Int32.ofInt 2)) i2 ((Int32.ofInt 1) - (v4 - v4 / (Int32.ofInt 2) * (Int32.ofInt 2))) i3).1] _ _ _
          refine hp_ic (pc' := 112) rfl rfl (fun h3 => ?_) (fun h3 => ?_)
          · refine hp_sB 124 [36] (pc' := 36) (L' := [some (.ref 47), some (.int i1), some (.int i2), some (.int i3), some (.int (v4 + (Int32.ofInt 1))), some (.int (v4 / (Int32.ofInt 2))), some (.int (v4 - v4 / (Int32.ofInt 2) * (Int32.ofInt 2)))]) (st' := []) rfl rfl ?_
            exact ih m ((hq_143 ((hq_143 ((hq_143 ((hq_143 S i1 i1 ((Int32.ofInt 1) - (v4 / (Int32.ofInt 2))) i2 (v4 - v4 / (Int32.ofInt 2) * (Int32.ofInt 2)) i3).2) i1 i1 (v4 / (Int32.ofInt 2)) i2 (v4 - v4 / (Int32.ofInt 2) * (Int32.ofInt 2)) i3).2) i2 i1 (v4 / (Int32.ofInt 2)) i2 ((Int32.ofInt 1) - (v4 - v4 / (Int32.ofInt 2) * (Int32.ofInt 2))) i3).2) i2 i1 (v4 / (Int32.ofInt 2)) i2 (v4 - v4 / (Int32.ofInt 2) * (Int32.ofInt 2)) i3).2) ((v4 + (Int32.ofInt 1))) (some (.int (v4 / (Int32.ofInt 2)))) (some (.int (v4 - v4 / (Int32.ofInt 2) * (Int32.ofInt 2)))) (hp_up h1 hm)
          · refine hp_sN [114, 116, 117, 119, 120] (pc' := 120) (L' := [some (.ref 47), some (.int i1), some (.int i2), some (.int i3), some (.int v4), some (.int (v4 / (Int32.ofInt 2))), some (.int (v4 - v4 / (Int32.ofInt 2) * (Int32.ofInt 2)))]) (st' := [.int (((Int32.ofInt 10) * (v4 / (Int32.ofInt 2))) + (v4 - v4 / (Int32.ofInt 2) * (Int32.ofInt 2)))]) rfl rfl ?_
            exact hp_Ris rfl
set_option maxRecDepth 10000 in
theorem ht_144 {X : hp_X} (S : hp_S) (i1 : Int32) (i2 : Int32) (i3 : Int32) (n : Nat) : hp_T n 144 0 [some (.ref 47), some (.int i1), some (.int i2), some (.int i3), none, none, none] [] (hp_mem X S) (hp_is X) (hq_144 S i1 i2 i3) := by
  unfold hq_144
  refine hp_sN [1, 2] (pc' := 2) (L' := [some (.ref 47), some (.int i1), some (.int i2), some (.int i3), none, none, none]) (st' := [.int i1, .ref 47]) rfl rfl ?_
  refine hp_iv (virt := true) (pc' := 5) (rv := some (.int (hq_76 S i1))) (M1 := hp_mem X (S)) rfl rfl (by decide) (hk_76 S (i1)) rfl rfl ?_
  show hp_T _ 144 5 _ [.int (hq_76 S i1)] _ _ _
  refine hp_if (pc' := 8) rfl rfl (fun h1 => ?_) (fun h1 => ?_)
  · refine hp_sN [32] (pc' := 32) (L' := [some (.ref 47), some (.int i1), some (.int i2), some (.int i3), none, none, none]) (st' := [.int (Int32.ofInt (-1))]) rfl rfl ?_
    exact hp_Ris rfl
  · refine hp_sN [9, 10] (pc' := 10) (L' := [some (.ref 47), some (.int i1), some (.int i2), some (.int i3), none, none, none]) (st' := [.int i2, .ref 47]) rfl rfl ?_
    refine hp_iv (virt := true) (pc' := 13) (rv := some (.int (hq_76 S i2))) (M1 := hp_mem X (S)) rfl rfl (by decide) (hk_76 S (i2)) rfl rfl ?_
    show hp_T _ 144 13 _ [.int (hq_76 S i2)] _ _ _
    refine hp_if (pc' := 16) rfl rfl (fun h2 => ?_) (fun h2 => ?_)
    · refine hp_sN [32] (pc' := 32) (L' := [some (.ref 47), some (.int i1), some (.int i2), some (.int i3), none, none, none]) (st' := [.int (Int32.ofInt (-1))]) rfl rfl ?_
      exact hp_Ris rfl
    · refine hp_sN [17, 18] (pc' := 18) (L' := [some (.ref 47), some (.int i1), some (.int i2), some (.int i3), none, none, none]) (st' := [.int i2, .int i1]) rfl rfl ?_
      refine hp_ic (pc' := 21) rfl rfl (fun h3 => ?_) (fun h3 => ?_)
      · refine hp_sN [32] (pc' := 32) (L' := [some (.ref 47), some (.int i1), some (.int i2), some (.int i3), none, none, none]) (st' := [.int (Int32.ofInt (-1))]) rfl rfl ?_
        exact hp_Ris rfl
      · refine hp_sN [22, 23, 25] (pc' := 25) (L' := [some (.ref 47), some (.int i1), some (.int i2), some (.int i3), none, none, none]) (st' := [.int (Int32.ofInt 24), .int (Int32.ofInt 1), .int i3]) rfl rfl ?_
        refine hp_iv (virt := false) (pc' := 28) (rv := some (.int (hq_70 S i3 (Int32.ofInt 1) (Int32.ofInt 24)))) (M1 := hp_mem X (S)) rfl rfl (by decide) (hk_70 S (i3) ((Int32.ofInt 1)) ((Int32.ofInt 24))) rfl rfl ?_
        show hp_T _ 144 28 _ [.int (hq_70 S i3 (Int32.ofInt 1) (Int32.ofInt 24))] _ _ _
        refine hp_if (pc' := 31) rfl rfl (fun h4 => ?_) (fun h4 => ?_)
        · refine hp_sN [34, 36] (pc' := 36) (L' := [some (.ref 47), some (.int i1), some (.int i2), some (.int i3), some (.int (Int32.ofInt 0)), none, none]) (st' := []) rfl rfl ?_
          exact ht_144_36 i1 i2 i3  n (((Int32.ofInt 4).toInt - (Int32.ofInt 0).toInt).toNat + 1) S ((Int32.ofInt 0)) (none) (none) (Nat.lt_succ_self _)
        · refine hp_sN [32] (pc' := 32) (L' := [some (.ref 47), some (.int i1), some (.int i2), some (.int i3), none, none, none]) (st' := [.int (Int32.ofInt (-1))]) rfl rfl ?_
          exact hp_Ris rfl
theorem hk_144 {X : hp_X} (S : hp_S) (i1 : Int32) (i2 : Int32) (i3 : Int32) : hp_K 144 [.ref 47, .int i1, .int i2, .int i3] (hp_mem X S) (hp_is X) (hq_144 S i1 i2 i3) := by
  refine hp_mk (q := hzq_144) rfl (by decide) (L := [some (.ref 47), some (.int i1), some (.int i2), some (.int i3), none, none, none]) rfl (fun n => ?_)
  exact ht_144 S i1 i2 i3 n
/-! 145: HatsOfTheWindModel.gcd(JJ)J -/
def hq_145_6 (i1 : Int64) (i2 : Int64) : Nat → hp_S → Int64 → Int64 → Int64
  | 0, S, _, _ => 0
  | m + 1, S, v4, v6 => (if hz_cmp .eq (lg_cmp v6 (Int64.ofInt 0)) 0 = true then v4 else hq_145_6 i1 i2 m S v6 (v4 - v4 / v6 * v6))
def hq_145 (S : hp_S) (i1 : Int64) (i2 : Int64) : Int64 := (hq_145_6 i1 i2 (i2.toInt.natAbs + 1) S (i1) (i2))
set_option maxRecDepth 10000 in
theorem ht_145_6 {α : Type} {φ : α → Option Value × hzMem} {R : α} {X : hp_X} (N : Nat) (i1 : Int64) (i2 : Int64) (S : hp_S) : ∀ (n : Nat), n ≤ N → ∀ (m : Nat) (v4 : Int64) (v6 : Int64) (x8 : Option Value) (x9 : Option Value) (Z : Int64), v6.toInt.natAbs < m → hq_145_6 i1 i2 m S v4 v6 = Z → (∀ (x8 : Option Value) (x9 : Option Value) (x6 : Option Value), hp_T N 145 31 [some (.long i1), none, some (.long i2), none, some (.long Z), none, x6, none, x8, x9] [] (hp_mem X S) φ R) → hp_T n 145 6 [some (.long i1), none, some (.long i2), none, some (.long v4), none, some (.long v6), none, x8, x9] [] (hp_mem X S) φ R := by
  intro n
  induction n with
  | zero => intros; exact hp_0
  | succ n ih =>
    intro hN m v4 v6 x8 x9 Z hm hZ kk
    cases m with
    | zero => exact absurd hm (Nat.not_lt_zero _)
    | succ m =>
      rw [hq_145_6] at hZ
      refine hp_sN [8, 9, 10] (pc' := 10) (L' := [some (.long i1), none, some (.long i2), none, some (.long v4), none, some (.long v6), none, x8, x9]) (st' := [.int (lg_cmp v6 (Int64.ofInt 0))]) rfl rfl ?_
      refine hp_if2 (pc' := 13) rfl rfl (fun h1 => ?_) (fun h1 => ?_)
      · rw [if_pos h1] at hZ
        subst hZ
        exact hp_le hN (kk (x8) (x9) (some (.long v6)))
      · rw [if_neg (hp_nt h1)] at hZ
        refine hp_sN [15, 17] (pc' := 17) (L' := [some (.long i1), none, some (.long i2), none, some (.long v4), none, some (.long v6), none, x8, x9]) (st' := [.long v6, .long v4]) rfl rfl ?_
        refine hp_rl2 (pc' := 18) rfl rfl ?_
        refine hp_sB 20 [22, 24, 26, 28, 6] (pc' := 6) (L' := [some (.long i1), none, some (.long i2), none, some (.long v6), none, some (.long (v4 - v4 / v6 * v6)), none, some (.long (v4 - v4 / v6 * v6)), none]) (st' := []) rfl rfl ?_
        exact ih (Nat.le_trans (Nat.le_succ n) hN) m (v6) ((v4 - v4 / v6 * v6)) (some (.long (v4 - v4 / v6 * v6))) (none) Z (hp_gcd h1 hm) hZ kk
set_option maxRecDepth 10000 in
theorem ht_145 {X : hp_X} (S : hp_S) (i1 : Int64) (i2 : Int64) (n : Nat) : hp_T n 145 0 [some (.long i1), none, some (.long i2), none, none, none, none, none, none, none] [] (hp_mem X S) (hp_l X S) (hq_145 S i1 i2) := by
  unfold hq_145
  refine hp_sN [1, 3, 4, 6] (pc' := 6) (L' := [some (.long i1), none, some (.long i2), none, some (.long i1), none, some (.long i2), none, none, none]) (st' := []) rfl rfl ?_
  refine ht_145_6 n i1 i2 S n (Nat.le_refl _) (i2.toInt.natAbs + 1)  (i1) (i2) (none) (none) _ (Nat.lt_succ_self _) rfl (fun x8_6 x9_6 x6_6 => ?_)
  show hp_T _ 145 31 [some (.long i1), none, some (.long i2), none, some (.long (hq_145_6 i1 i2 (i2.toInt.natAbs + 1) S (i1) (i2))), none, x6_6, none, x8_6, x9_6] _ (hp_mem X S) _ _
  refine hp_sN [33] (pc' := 33) (L' := [some (.long i1), none, some (.long i2), none, some (.long (hq_145_6 i1 i2 (i2.toInt.natAbs + 1) S (i1) (i2))), none, x6_6, none, x8_6, x9_6]) (st' := [.long (hq_145_6 i1 i2 (i2.toInt.natAbs + 1) S (i1) (i2))]) rfl rfl ?_
  exact hp_Rl rfl
theorem hk_145 {X : hp_X} (S : hp_S) (i1 : Int64) (i2 : Int64) : hp_K 145 [.long i1, .long i2] (hp_mem X S) (hp_l X S) (hq_145 S i1 i2) := by
  refine hp_mk (q := hzq_145) rfl (by decide) (L := [some (.long i1), none, some (.long i2), none, none, none, none, none, none, none]) rfl (fun n => ?_)
  exact ht_145 S i1 i2 n
/-! 146: HatsOfTheWindModel.partOf(JJI)J -/
def hq_146 (S : hp_S) (i1 : Int64) (i2 : Int64) (i3 : Int32) : Int64 := (if hz_cmp .ne (lg_cmp i1 (Int64.ofInt 0)) 0 = true then (if hz_cmp .ne i3 0 = true then (i2 / (hq_145 S i1 i2)) else (i1 / (hq_145 S i1 i2))) else i3.toInt64)
set_option maxRecDepth 10000 in
theorem ht_146 {X : hp_X} (S : hp_S) (i1 : Int64) (i2 : Int64) (i3 : Int32) (n : Nat) : hp_T n 146 0 [some (.long i1), none, some (.long i2), none, some (.int i3)] [] (hp_mem X S) (hp_l X S) (hq_146 S i1 i2 i3) := by
  unfold hq_146
  refine hp_sN [1, 2, 3] (pc' := 3) (L' := [some (.long i1), none, some (.long i2), none, some (.int i3)]) (st' := [.int (lg_cmp i1 (Int64.ofInt 0))]) rfl rfl ?_
  refine hp_if (pc' := 6) rfl rfl (fun h1 => ?_) (fun h1 => ?_)
  · refine hp_sN [12] (pc' := 12) (L' := [some (.long i1), none, some (.long i2), none, some (.int i3)]) (st' := [.int i3]) rfl rfl ?_
    refine hp_if (pc' := 15) rfl rfl (fun h2 => ?_) (fun h2 => ?_)
    · refine hp_sN [20, 21, 22] (pc' := 22) (L' := [some (.long i1), none, some (.long i2), none, some (.int i3)]) (st' := [.long i2, .long i1, .long i2]) rfl rfl ?_
      refine hp_iv (virt := false) (pc' := 25) (rv := some (.long (hq_145 S i1 i2))) (M1 := hp_mem X (S)) rfl rfl (by decide) (hk_145 S (i1) (i2)) rfl rfl ?_
      show hp_T _ 146 25 _ [.long (hq_145 S i1 i2), .long i2] _ _ _
      refine hp_dl (pc' := 26) rfl rfl ?_
      exact hp_Rl rfl
    · refine hp_sN [16, 20, 21, 22] (pc' := 22) (L' := [some (.long i1), none, some (.long i2), none, some (.int i3)]) (st' := [.long i2, .long i1, .long i1]) rfl rfl ?_
      refine hp_iv (virt := false) (pc' := 25) (rv := some (.long (hq_145 S i1 i2))) (M1 := hp_mem X (S)) rfl rfl (by decide) (hk_145 S (i1) (i2)) rfl rfl ?_
      show hp_T _ 146 25 _ [.long (hq_145 S i1 i2), .long i1] _ _ _
      refine hp_dl (pc' := 26) rfl rfl ?_
      exact hp_Rl rfl
  · refine hp_sN [8, 9] (pc' := 9) (L' := [some (.long i1), none, some (.long i2), none, some (.int i3)]) (st' := [.long i3.toInt64]) rfl rfl ?_
    exact hp_Rl rfl
theorem hk_146 {X : hp_X} (S : hp_S) (i1 : Int64) (i2 : Int64) (i3 : Int32) : hp_K 146 [.long i1, .long i2, .int i3] (hp_mem X S) (hp_l X S) (hq_146 S i1 i2 i3) := by
  refine hp_mk (q := hzq_146) rfl (by decide) (L := [some (.long i1), none, some (.long i2), none, some (.int i3)]) rfl (fun n => ?_)
  exact ht_146 S i1 i2 i3 n
/-! 147: HatsOfTheWindModel.gusts(IIII)J -/
def hq_147_51 (i1 : Int32) (i2 : Int32) (i3 : Int32) (i4 : Int32) : Nat → hp_S → Int64 → Int64 → Int32 → Int64
  | 0, S, _, _, _ => 0
  | m + 1, S, v5, v7, v9 => (if hz_cmp .ge v9 i2 = true then v7 else hq_147_51 i1 i2 i3 i4 m S v5 (v7 * i3.toInt64) (v9 + (Int32.ofInt 1)))
def hq_147_98 (i1 : Int32) (i2 : Int32) (i3 : Int32) (i4 : Int32) : Nat → hp_S → Int64 → Int64 → Int32 → Int64 → Int32 → hp_S × Int64
  | 0, S, _, _, _, _, _ => (S, 0)
  | m + 1, S, v5, v7, v9, v10, v12 => (if hz_cmp .ge v12 i2 = true then (S, v10) else (if hz_cmp .eq (hq_79 S v9 v12) 0 = true then (if hz_cmp .eq (hq_79 S v9 v12) 0 = true then hq_147_98 i1 i2 i3 i4 m (hq_93 S 49 (Int32.ofInt 0)) v5 v7 v9 (v10 * (i3 - (Int32.ofInt 1)).toInt64) (v12 + (Int32.ofInt 1)) else hq_147_98 i1 i2 i3 i4 m (hq_93 S 49 (Int32.ofInt 3)) v5 v7 v9 (v10 * (i3 - (Int32.ofInt 1)).toInt64) (v12 + (Int32.ofInt 1))) else (if hz_cmp .eq (hq_79 S v9 v12) 0 = true then hq_147_98 i1 i2 i3 i4 m (hq_93 S 49 (Int32.ofInt 0)) v5 v7 v9 (v10 * (Int64.ofInt 1)) (v12 + (Int32.ofInt 1)) else hq_147_98 i1 i2 i3 i4 m (hq_93 S 49 (Int32.ofInt 3)) v5 v7 v9 (v10 * (Int64.ofInt 1)) (v12 + (Int32.ofInt 1)))))
def hq_147_73 (i1 : Int32) (i2 : Int32) (i3 : Int32) (i4 : Int32) : Nat → hp_S → Int64 → Int64 → Int32 → hp_S × Int64
  | 0, S, _, _, _ => (S, 0)
  | m + 1, S, v5, v7, v9 => (if hz_cmp .ge v9 ((Int32.ofInt 1) <<< (i2 &&& 31)) = true then (S, v5) else (if hz_cmp .eq (hq_88 ((hq_147_98 i1 i2 i3 i4 ((i2.toInt - (Int32.ofInt 0).toInt).toNat + 1) (hq_73 S 48 49) (v5) (v7) (v9) ((Int64.ofInt 1)) ((Int32.ofInt 0))).1) 49 i1) (Int32.ofInt 9) = true then hq_147_73 i1 i2 i3 i4 m ((hq_147_98 i1 i2 i3 i4 ((i2.toInt - (Int32.ofInt 0).toInt).toNat + 1) (hq_73 S 48 49) (v5) (v7) (v9) ((Int64.ofInt 1)) ((Int32.ofInt 0))).1) (v5 + (Int64.ofInt 0)) v7 (v9 + (Int32.ofInt 1)) else hq_147_73 i1 i2 i3 i4 m ((hq_147_98 i1 i2 i3 i4 ((i2.toInt - (Int32.ofInt 0).toInt).toNat + 1) (hq_73 S 48 49) (v5) (v7) (v9) ((Int64.ofInt 1)) ((Int32.ofInt 0))).1) (v5 + (hq_147_98 i1 i2 i3 i4 ((i2.toInt - (Int32.ofInt 0).toInt).toNat + 1) (hq_73 S 48 49) (v5) (v7) (v9) ((Int64.ofInt 1)) ((Int32.ofInt 0))).2) v7 (v9 + (Int32.ofInt 1))))
def hq_147 (S : hp_S) (i1 : Int32) (i2 : Int32) (i3 : Int32) (i4 : Int32) : Int64 × hp_S := (if hz_cmp .eq (hq_76 S i1) 0 = true then ((Int64.ofInt 1000000001), S) else (if hz_cmp .eq (hq_70 S i2 (Int32.ofInt 0) (Int32.ofInt 7)) 0 = true then ((Int64.ofInt 1000000001), S) else (if hz_cmp .eq (hq_70 S i3 (Int32.ofInt 2) (Int32.ofInt 20)) 0 = true then ((Int64.ofInt 1000000001), S) else (if hz_cmp .ne (hq_70 S i4 (Int32.ofInt 0) (Int32.ofInt 1)) 0 = true then ((hq_146 ((hq_147_73 i1 i2 i3 i4 ((((Int32.ofInt 1) <<< (i2 &&& 31)).toInt - (Int32.ofInt 0).toInt).toNat + 1) S ((Int64.ofInt 0)) ((hq_147_51 i1 i2 i3 i4 ((i2.toInt - (Int32.ofInt 0).toInt).toNat + 1) S ((Int64.ofInt 0)) ((Int64.ofInt 1)) ((Int32.ofInt 0)))) ((Int32.ofInt 0))).1) (hq_147_73 i1 i2 i3 i4 ((((Int32.ofInt 1) <<< (i2 &&& 31)).toInt - (Int32.ofInt 0).toInt).toNat + 1) S ((Int64.ofInt 0)) ((hq_147_51 i1 i2 i3 i4 ((i2.toInt - (Int32.ofInt 0).toInt).toNat + 1) S ((Int64.ofInt 0)) ((Int64.ofInt 1)) ((Int32.ofInt 0)))) ((Int32.ofInt 0))).2 (hq_147_51 i1 i2 i3 i4 ((i2.toInt - (Int32.ofInt 0).toInt).toNat + 1) S ((Int64.ofInt 0)) ((Int64.ofInt 1)) ((Int32.ofInt 0))) i4), (hq_147_73 i1 i2 i3 i4 ((((Int32.ofInt 1) <<< (i2 &&& 31)).toInt - (Int32.ofInt 0).toInt).toNat + 1) S ((Int64.ofInt 0)) ((hq_147_51 i1 i2 i3 i4 ((i2.toInt - (Int32.ofInt 0).toInt).toNat + 1) S ((Int64.ofInt 0)) ((Int64.ofInt 1)) ((Int32.ofInt 0)))) ((Int32.ofInt 0))).1) else ((Int64.ofInt 1000000001), S)))))
theorem hf_147_98 {i1 : Int32} {i2 : Int32} {i3 : Int32} {i4 : Int32} (j : Nat) (z0 : j ≠ 49) : ∀ (m : Nat) (S : hp_S) (v5 : Int64) (v7 : Int64) (v9 : Int32) (v10 : Int64) (v12 : Int32), (hq_147_98 i1 i2 i3 i4 m S v5 v7 v9 v10 v12).1 j = S j := by
  intro m
  induction m with
  | zero => intros; rfl
  | succ m ih =>
    intro S v5 v7 v9 v10 v12
    rw [hq_147_98]
    repeat' split
    all_goals simp [ih, hp_wo, hp_wgo, hp_cpo, hf_73, hf_93, z0]
theorem hf_147_73 {i1 : Int32} {i2 : Int32} {i3 : Int32} {i4 : Int32} (j : Nat) (z0 : j ≠ 49) : ∀ (m : Nat) (S : hp_S) (v5 : Int64) (v7 : Int64) (v9 : Int32), (hq_147_73 i1 i2 i3 i4 m S v5 v7 v9).1 j = S j := by
  intro m
  induction m with
  | zero => intros; rfl
  | succ m ih =>
    intro S v5 v7 v9
    rw [hq_147_73]
    repeat' split
    all_goals simp [ih, hp_wo, hp_wgo, hp_cpo, hf_73, hf_93, z0, hf_147_98]
theorem hf_147 (S : hp_S) (i1 : Int32) (i2 : Int32) (i3 : Int32) (i4 : Int32) (j : Nat) (z0 : j ≠ 49) : (hq_147 S i1 i2 i3 i4).2 j = S j := by
  unfold hq_147
  repeat' split
  all_goals simp [hp_wo, hp_wgo, hp_cpo, hf_73, hf_93, z0, hf_147_98, hf_147_73]
set_option maxRecDepth 10000 in
theorem ht_147_51 {α : Type} {φ : α → Option Value × hzMem} {R : α} {X : hp_X} (N : Nat) (i1 : Int32) (i2 : Int32) (i3 : Int32) (i4 : Int32) (S : hp_S) : ∀ (n : Nat), n ≤ N → ∀ (m : Nat) (v5 : Int64) (v7 : Int64) (v9 : Int32) (x10 : Option Value) (x11 : Option Value) (x12 : Option Value) (Z : Int64), (i2.toInt - v9.toInt).toNat < m → hq_147_51 i1 i2 i3 i4 m S v5 v7 v9 = Z → (∀ (x10 : Option Value) (x11 : Option Value) (x12 : Option Value) (x9 : Option Value), hp_T N 147 70 [some (.ref 47), some (.int i1), some (.int i2), some (.int i3), some (.int i4), some (.long v5), none, some (.long Z), none, x9, x10, x11, x12] [] (hp_mem X S) φ R) → hp_T n 147 51 [some (.ref 47), some (.int i1), some (.int i2), some (.int i3), some (.int i4), some (.long v5), none, some (.long v7), none, some (.int v9), x10, x11, x12] [] (hp_mem X S) φ R := by
  intro n
  induction n with
  | zero => intros; exact hp_0
  | succ n ih =>
    intro hN m v5 v7 v9 x10 x11 x12 Z hm hZ kk
    cases m with
    | zero => exact absurd hm (Nat.not_lt_zero _)
    | succ m =>
      rw [hq_147_51] at hZ
      refine hp_sN [53, 54] (pc' := 54) (L' := [some (.ref 47), some (.int i1), some (.int i2), some (.int i3), some (.int i4), some (.long v5), none, some (.long v7), none, some (.int v9), x10, x11, x12]) (st' := [.int i2, .int v9]) rfl rfl ?_
      refine hp_ic2 (pc' := 57) rfl rfl (fun h1 => ?_) (fun h1 => ?_)
      · rw [if_pos h1] at hZ
        subst hZ
        exact hp_le hN (kk (x10) (x11) (x12) (some (.int v9)))
      · rw [if_neg (hp_nt h1)] at hZ
        refine hp_sB 59 [60, 61, 62, 64, 67, 51] (pc' := 51) (L' := [some (.ref 47), some (.int i1), some (.int i2), some (.int i3), some (.int i4), some (.long v5), none, some (.long (v7 * i3.toInt64)), none, some (.int (v9 + (Int32.ofInt 1))), x10, x11, x12]) (st' := []) rfl rfl ?_
        exact ih (Nat.le_trans (Nat.le_succ n) hN) m (v5) ((v7 * i3.toInt64)) ((v9 + (Int32.ofInt 1))) (x10) (x11) (x12) Z (hp_up h1 hm) hZ kk
set_option maxRecDepth 10000 in
theorem ht_147_98 {α : Type} {φ : α → Option Value × hzMem} {R : α} {X : hp_X} (N : Nat) (i1 : Int32) (i2 : Int32) (i3 : Int32) (i4 : Int32) : ∀ (n : Nat), n ≤ N → ∀ (m : Nat) (S : hp_S) (v5 : Int64) (v7 : Int64) (v9 : Int32) (v10 : Int64) (v12 : Int32) (Z : hp_S × Int64), (i2.toInt - v12.toInt).toNat < m → hq_147_98 i1 i2 i3 i4 m S v5 v7 v9 v10 v12 = Z → (∀ (x12 : Option Value), hp_T N 147 155 [some (.ref 47), some (.int i1), some (.int i2), some (.int i3), some (.int i4), some (.long v5), none, some (.long v7), none, some (.int v9), some (.long Z.2), none, x12] [] (hp_mem X Z.1) φ R) → hp_T n 147 98 [some (.ref 47), some (.int i1), some (.int i2), some (.int i3), some (.int i4), some (.long v5), none, some (.long v7), none, some (.int v9), some (.long v10), none, some (.int v12)] [] (hp_mem X S) φ R := by
  intro n
  induction n with
  | zero => intros; exact hp_0
  | succ n ih =>
    intro hN m S v5 v7 v9 v10 v12 Z hm hZ kk
    cases m with
    | zero => exact absurd hm (Nat.not_lt_zero _)
    | succ m =>
      rw [hq_147_98] at hZ
      refine hp_sN [100, 101] (pc' := 101) (L' := [some (.ref 47), some (.int i1), some (.int i2), some (.int i3), some (.int i4), some (.long v5), none, some (.long v7), none, some (.int v9), some (.long v10), none, some (.int v12)]) (st' := [.int i2, .int v12]) rfl rfl ?_
      refine hp_ic2 (pc' := 104) rfl rfl (fun h1 => ?_) (fun h1 => ?_)
      · rw [if_pos h1] at hZ
        subst hZ
        exact hp_le hN (kk (some (.int v12)))
      · rw [if_neg (hp_nt h1)] at hZ
        refine hp_sN [106, 108, 110] (pc' := 110) (L' := [some (.ref 47), some (.int i1), some (.int i2), some (.int i3), some (.int i4), some (.long v5), none, some (.long v7), none, some (.int v9), some (.long v10), none, some (.int v12)]) (st' := [.int v12, .int v9, .long v10]) rfl rfl ?_
        refine hp_iv (virt := false) (pc' := 113) (rv := some (.int (hq_79 S v9 v12))) (M1 := hp_mem X (S)) rfl rfl (by decide) (hk_79 S (v9) (v12)) rfl rfl ?_
        show hp_T _ 147 113 _ [.int (hq_79 S v9 v12), .long v10] _ _ _
        refine hp_if2 (pc' := 116) rfl rfl (fun h2 => ?_) (fun h2 => ?_)
        · rw [if_pos h2] at hZ
          refine hp_sN [121, 122, 123, 124, 125, 127, 128] (pc' := 128) (L' := [some (.ref 47), some (.int i1), some (.int i2), some (.int i3), some (.int i4), some (.long v5), none, some (.long v7), none, some (.int v9), some (.long (v10 * (i3 - (Int32.ofInt 1)).toInt64)), none, some (.int v12)]) (st' := [.ref 47]) rfl rfl ?_
          refine hp_gf (pc' := 131) rfl (by decide) (hp_c47 X _) rfl rfl ?_
          refine hp_sN [133, 135] (pc' := 135) (L' := [some (.ref 47), some (.int i1), some (.int i2), some (.int i3), some (.int i4), some (.long v5), none, some (.long v7), none, some (.int v9), some (.long (v10 * (i3 - (Int32.ofInt 1)).toInt64)), none, some (.int v12)]) (st' := [.int v12, .int v9, .ref 49]) rfl rfl ?_
          refine hp_iv (virt := false) (pc' := 138) (rv := some (.int (hq_79 S v9 v12))) (M1 := hp_mem X (S)) rfl rfl (by decide) (hk_79 S (v9) (v12)) rfl rfl ?_
          show hp_T _ 147 138 _ [.int (hq_79 S v9 v12), .ref 49] _ _ _
          refine hp_if2 (pc' := 141) rfl rfl (fun h3 => ?_) (fun h3 => ?_)
          · rw [if_pos h3] at hZ
            refine hp_sN [146] (pc' := 146) (L' := [some (.ref 47), some (.int i1), some (.int i2), some (.int i3), some (.int i4), some (.long v5), none, some (.long v7), none, some (.int v9), some (.long (v10 * (i3 - (Int32.ofInt 1)).toInt64)), none, some (.int v12)]) (st' := [.int (Int32.ofInt 0), .ref 49]) rfl rfl ?_
            refine hp_iv (virt := false) (pc' := 149) (rv := none) (M1 := hp_mem X (hq_93 S 49 (Int32.ofInt 0))) rfl rfl (by decide) (hk_93 (Or.inr (Or.inl rfl)) S ((Int32.ofInt 0))) rfl rfl ?_
            show hp_T _ 147 149 _ [] _ _ _
            refine hp_sB 152 [98] (pc' := 98) (L' := [some (.ref 47), some (.int i1), some (.int i2), some (.int i3), some (.int i4), some (.long v5), none, some (.long v7), none, some (.int v9), some (.long (v10 * (i3 - (Int32.ofInt 1)).toInt64)), none, some (.int (v12 + (Int32.ofInt 1)))]) (st' := []) rfl rfl ?_
            exact ih (Nat.le_trans (Nat.le_succ n) hN) m (hq_93 S 49 (Int32.ofInt 0)) (v5) (v7) (v9) ((v10 * (i3 - (Int32.ofInt 1)).toInt64)) ((v12 + (Int32.ofInt 1))) Z (hp_up h1 hm) hZ kk
          · rw [if_neg (hp_nt h3)] at hZ
            refine hp_sN [142, 146] (pc' := 146) (L' := [some (.ref 47), some (.int i1), some (.int i2), some (.int i3), some (.int i4), some (.long v5), none, some (.long v7), none, some (.int v9), some (.long (v10 * (i3 - (Int32.ofInt 1)).toInt64)), none, some (.int v12)]) (st' := [.int (Int32.ofInt 3), .ref 49]) rfl rfl ?_
            refine hp_iv (virt := false) (pc' := 149) (rv := none) (M1 := hp_mem X (hq_93 S 49 (Int32.ofInt 3))) rfl rfl (by decide) (hk_93 (Or.inr (Or.inl rfl)) S ((Int32.ofInt 3))) rfl rfl ?_
            show hp_T _ 147 149 _ [] _ _ _
            refine hp_sB 152 [98] (pc' := 98) (L' := [some (.ref 47), some (.int i1), some (.int i2), some (.int i3), some (.int i4), some (.long v5), none, some (.long v7), none, some (.int v9), some (.long (v10 * (i3 - (Int32.ofInt 1)).toInt64)), none, some (.int (v12 + (Int32.ofInt 1)))]) (st' := []) rfl rfl ?_
            exact ih (Nat.le_trans (Nat.le_succ n) hN) m (hq_93 S 49 (Int32.ofInt 3)) (v5) (v7) (v9) ((v10 * (i3 - (Int32.ofInt 1)).toInt64)) ((v12 + (Int32.ofInt 1))) Z (hp_up h1 hm) hZ kk
        · rw [if_neg (hp_nt h2)] at hZ
          refine hp_sN [117, 124, 125, 127, 128] (pc' := 128) (L' := [some (.ref 47), some (.int i1), some (.int i2), some (.int i3), some (.int i4), some (.long v5), none, some (.long v7), none, some (.int v9), some (.long (v10 * (Int64.ofInt 1))), none, some (.int v12)]) (st' := [.ref 47]) rfl rfl ?_
          refine hp_gf (pc' := 131) rfl (by decide) (hp_c47 X _) rfl rfl ?_
          refine hp_sN [133, 135] (pc' := 135) (L' := [some (.ref 47), some (.int i1), some (.int i2), some (.int i3), some (.int i4), some (.long v5), none, some (.long v7), none, some (.int v9), some (.long (v10 * (Int64.ofInt 1))), none, some (.int v12)]) (st' := [.int v12, .int v9, .ref 49]) rfl rfl ?_
          refine hp_iv (virt := false) (pc' := 138) (rv := some (.int (hq_79 S v9 v12))) (M1 := hp_mem X (S)) rfl rfl (by decide) (hk_79 S (v9) (v12)) rfl rfl ?_
          show hp_T _ 147 138 _ [.int (hq_79 S v9 v12), .ref 49] _ _ _
          refine hp_if2 (pc' := 141) rfl rfl (fun h4 => ?_) (fun h4 => ?_)
          · rw [if_pos h4] at hZ
            refine hp_sN [146] (pc' := 146) (L' := [some (.ref 47), some (.int i1), some (.int i2), some (.int i3), some (.int i4), some (.long v5), none, some (.long v7), none, some (.int v9), some (.long (v10 * (Int64.ofInt 1))), none, some (.int v12)]) (st' := [.int (Int32.ofInt 0), .ref 49]) rfl rfl ?_
            refine hp_iv (virt := false) (pc' := 149) (rv := none) (M1 := hp_mem X (hq_93 S 49 (Int32.ofInt 0))) rfl rfl (by decide) (hk_93 (Or.inr (Or.inl rfl)) S ((Int32.ofInt 0))) rfl rfl ?_
            show hp_T _ 147 149 _ [] _ _ _
            refine hp_sB 152 [98] (pc' := 98) (L' := [some (.ref 47), some (.int i1), some (.int i2), some (.int i3), some (.int i4), some (.long v5), none, some (.long v7), none, some (.int v9), some (.long (v10 * (Int64.ofInt 1))), none, some (.int (v12 + (Int32.ofInt 1)))]) (st' := []) rfl rfl ?_
            exact ih (Nat.le_trans (Nat.le_succ n) hN) m (hq_93 S 49 (Int32.ofInt 0)) (v5) (v7) (v9) ((v10 * (Int64.ofInt 1))) ((v12 + (Int32.ofInt 1))) Z (hp_up h1 hm) hZ kk
          · rw [if_neg (hp_nt h4)] at hZ
            refine hp_sN [142, 146] (pc' := 146) (L' := [some (.ref 47), some (.int i1), some (.int i2), some (.int i3), some (.int i4), some (.long v5), none, some (.long v7), none, some (.int v9), some (.long (v10 * (Int64.ofInt 1))), none, some (.int v12)]) (st' := [.int (Int32.ofInt 3), .ref 49]) rfl rfl ?_
            refine hp_iv (virt := false) (pc' := 149) (rv := none) (M1 := hp_mem X (hq_93 S 49 (Int32.ofInt 3))) rfl rfl (by decide) (hk_93 (Or.inr (Or.inl rfl)) S ((Int32.ofInt 3))) rfl rfl ?_
            show hp_T _ 147 149 _ [] _ _ _
            refine hp_sB 152 [98] (pc' := 98) (L' := [some (.ref 47), some (.int i1), some (.int i2), some (.int i3), some (.int i4), some (.long v5), none, some (.long v7), none, some (.int v9), some (.long (v10 * (Int64.ofInt 1))), none, some (.int (v12 + (Int32.ofInt 1)))]) (st' := []) rfl rfl ?_
            exact ih (Nat.le_trans (Nat.le_succ n) hN) m (hq_93 S 49 (Int32.ofInt 3)) (v5) (v7) (v9) ((v10 * (Int64.ofInt 1))) ((v12 + (Int32.ofInt 1))) Z (hp_up h1 hm) hZ kk
set_option maxRecDepth 10000 in
theorem ht_147_73 {α : Type} {φ : α → Option Value × hzMem} {R : α} {X : hp_X} (N : Nat) (i1 : Int32) (i2 : Int32) (i3 : Int32) (i4 : Int32) : ∀ (n : Nat), n ≤ N → ∀ (m : Nat) (S : hp_S) (v5 : Int64) (v7 : Int64) (v9 : Int32) (x10 : Option Value) (x11 : Option Value) (x12 : Option Value) (Z : hp_S × Int64), (((Int32.ofInt 1) <<< (i2 &&& 31)).toInt - v9.toInt).toNat < m → hq_147_73 i1 i2 i3 i4 m S v5 v7 v9 = Z → (∀ (x10 : Option Value) (x11 : Option Value) (x12 : Option Value) (x9 : Option Value), hp_T N 147 185 [some (.ref 47), some (.int i1), some (.int i2), some (.int i3), some (.int i4), some (.long Z.2), none, some (.long v7), none, x9, x10, x11, x12] [] (hp_mem X Z.1) φ R) → hp_T n 147 73 [some (.ref 47), some (.int i1), some (.int i2), some (.int i3), some (.int i4), some (.long v5), none, some (.long v7), none, some (.int v9), x10, x11, x12] [] (hp_mem X S) φ R := by
  intro n
  induction n with
  | zero => intros; exact hp_0
  | succ n ih =>
    intro hN m S v5 v7 v9 x10 x11 x12 Z hm hZ kk
    cases m with
    | zero => exact absurd hm (Nat.not_lt_zero _)
    | succ m =>
      rw [hq_147_73] at hZ
      refine hp_sN [75, 76, 77, 78] (pc' := 78) (L' := [some (.ref 47), some (.int i1), some (.int i2), some (.int i3), some (.int i4), some (.long v5), none, some (.long v7), none, some (.int v9), x10, x11, x12]) (st' := [.int ((Int32.ofInt 1) <<< (i2 &&& 31)), .int v9]) rfl rfl ?_
      refine hp_ic2 (pc' := 81) rfl rfl (fun h1 => ?_) (fun h1 => ?_)
      · rw [if_pos h1] at hZ
        subst hZ
        exact hp_le hN (kk (x10) (x11) (x12) (some (.int v9)))
      · rw [if_neg (hp_nt h1)] at hZ
        refine hp_sN [82, 84, 85] (pc' := 85) (L' := [some (.ref 47), some (.int i1), some (.int i2), some (.int i3), some (.int i4), some (.long v5), none, some (.long v7), none, some (.int v9), some (.long (Int64.ofInt 1)), none, x12]) (st' := [.ref 47]) rfl rfl ?_
        refine hp_gf (pc' := 88) rfl (by decide) (hp_c47 X _) rfl rfl ?_
        refine hp_sN [89] (pc' := 89) (L' := [some (.ref 47), some (.int i1), some (.int i2), some (.int i3), some (.int i4), some (.long v5), none, some (.long v7), none, some (.int v9), some (.long (Int64.ofInt 1)), none, x12]) (st' := [.ref 47, .ref 48]) rfl rfl ?_
        refine hp_gf (pc' := 92) rfl (by decide) (hp_c47 X _) rfl rfl ?_
        refine hp_iv (virt := false) (pc' := 95) (rv := none) (M1 := hp_mem X (hq_73 S 48 49)) rfl rfl (by decide) (hk_73 (Or.inl rfl) (Or.inr (Or.inl rfl)) S) rfl rfl ?_
        show hp_T _ 147 95 _ [] _ _ _
        refine hp_sN [96, 98] (pc' := 98) (L' := [some (.ref 47), some (.int i1), some (.int i2), some (.int i3), some (.int i4), some (.long v5), none, some (.long v7), none, some (.int v9), some (.long (Int64.ofInt 1)), none, some (.int (Int32.ofInt 0))]) (st' := []) rfl rfl ?_
        refine ht_147_98 (n + 1) i1 i2 i3 i4  (n + 1) (Nat.le_refl _) ((i2.toInt - (Int32.ofInt 0).toInt).toNat + 1) (hq_73 S 48 49) (v5) (v7) (v9) ((Int64.ofInt 1)) ((Int32.ofInt 0))  _ (Nat.lt_succ_self _) rfl (fun x12_98 => ?_)
        show hp_T _ 147 155 [some (.ref 47), some (.int i1), some (.int i2), some (.int i3), some (.int i4), some (.long v5), none, some (.long v7), none, some (.int v9), some (.long (hq_147_98 i1 i2 i3 i4 ((i2.toInt - (Int32.ofInt 0).toInt).toNat + 1) (hq_73 S 48 49) (v5) (v7) (v9) ((Int64.ofInt 1)) ((Int32.ofInt 0))).2), none, x12_98] _ (hp_mem X ((hq_147_98 i1 i2 i3 i4 ((i2.toInt - (Int32.ofInt 0).toInt).toNat + 1) (hq_73 S 48 49) (v5) (v7) (v9) ((Int64.ofInt 1)) ((Int32.ofInt 0))).1)) _ _
        refine hp_sN [157, 158] (pc' := 158) (L' := [some (.ref 47), some (.int i1), some (.int i2), some (.int i3), some (.int i4), some (.long v5), none, some (.long v7), none, some (.int v9), some (.long (hq_147_98 i1 i2 i3 i4 ((i2.toInt - (Int32.ofInt 0).toInt).toNat + 1) (hq_73 S 48 49) (v5) (v7) (v9) ((Int64.ofInt 1)) ((Int32.ofInt 0))).2), none, x12_98]) (st' := [.ref 47, .long v5]) rfl rfl ?_
        refine hp_gf (pc' := 161) rfl (by decide) (hp_c47 X _) rfl rfl ?_
        refine hp_sN [162] (pc' := 162) (L' := [some (.ref 47), some (.int i1), some (.int i2), some (.int i3), some (.int i4), some (.long v5), none, some (.long v7), none, some (.int v9), some (.long (hq_147_98 i1 i2 i3 i4 ((i2.toInt - (Int32.ofInt 0).toInt).toNat + 1) (hq_73 S 48 49) (v5) (v7) (v9) ((Int64.ofInt 1)) ((Int32.ofInt 0))).2), none, x12_98]) (st' := [.int i1, .ref 49, .long v5]) rfl rfl ?_
        refine hp_iv (virt := false) (pc' := 165) (rv := some (.int (hq_88 ((hq_147_98 i1 i2 i3 i4 ((i2.toInt - (Int32.ofInt 0).toInt).toNat + 1) (hq_73 S 48 49) (v5) (v7) (v9) ((Int64.ofInt 1)) ((Int32.ofInt 0))).1) 49 i1))) (M1 := hp_mem X ((hq_147_98 i1 i2 i3 i4 ((i2.toInt - (Int32.ofInt 0).toInt).toNat + 1) (hq_73 S 48 49) (v5) (v7) (v9) ((Int64.ofInt 1)) ((Int32.ofInt 0))).1)) rfl rfl (by decide) (hk_88 (Or.inr (Or.inl rfl)) ((hq_147_98 i1 i2 i3 i4 ((i2.toInt - (Int32.ofInt 0).toInt).toNat + 1) (hq_73 S 48 49) (v5) (v7) (v9) ((Int64.ofInt 1)) ((Int32.ofInt 0))).1) (i1)) rfl rfl ?_
        show hp_T _ 147 165 _ [.int (hq_88 ((hq_147_98 i1 i2 i3 i4 ((i2.toInt - (Int32.ofInt 0).toInt).toNat + 1) (hq_73 S 48 49) (v5) (v7) (v9) ((Int64.ofInt 1)) ((Int32.ofInt 0))).1) 49 i1), .long v5] _ _ _
        refine hp_sN [167] (pc' := 167) (L' := [some (.ref 47), some (.int i1), some (.int i2), some (.int i3), some (.int i4), some (.long v5), none, some (.long v7), none, some (.int v9), some (.long (hq_147_98 i1 i2 i3 i4 ((i2.toInt - (Int32.ofInt 0).toInt).toNat + 1) (hq_73 S 48 49) (v5) (v7) (v9) ((Int64.ofInt 1)) ((Int32.ofInt 0))).2), none, x12_98]) (st' := [.int (Int32.ofInt 9), .int (hq_88 ((hq_147_98 i1 i2 i3 i4 ((i2.toInt - (Int32.ofInt 0).toInt).toNat + 1) (hq_73 S 48 49) (v5) (v7) (v9) ((Int64.ofInt 1)) ((Int32.ofInt 0))).1) 49 i1), .long v5]) rfl rfl ?_
        refine hp_ic2 (pc' := 170) rfl rfl (fun h2 => ?_) (fun h2 => ?_)
        · rw [if_pos h2] at hZ
          refine hp_sB 176 [177, 179, 182, 73] (pc' := 73) (L' := [some (.ref 47), some (.int i1), some (.int i2), some (.int i3), some (.int i4), some (.long (v5 + (Int64.ofInt 0))), none, some (.long v7), none, some (.int (v9 + (Int32.ofInt 1))), some (.long (hq_147_98 i1 i2 i3 i4 ((i2.toInt - (Int32.ofInt 0).toInt).toNat + 1) (hq_73 S 48 49) (v5) (v7) (v9) ((Int64.ofInt 1)) ((Int32.ofInt 0))).2), none, x12_98]) (st' := []) rfl rfl ?_
          exact ih (Nat.le_trans (Nat.le_succ n) hN) m ((hq_147_98 i1 i2 i3 i4 ((i2.toInt - (Int32.ofInt 0).toInt).toNat + 1) (hq_73 S 48 49) (v5) (v7) (v9) ((Int64.ofInt 1)) ((Int32.ofInt 0))).1) ((v5 + (Int64.ofInt 0))) (v7) ((v9 + (Int32.ofInt 1))) (some (.long (hq_147_98 i1 i2 i3 i4 ((i2.toInt - (Int32.ofInt 0).toInt).toNat + 1) (hq_73 S 48 49) (v5) (v7) (v9) ((Int64.ofInt 1)) ((Int32.ofInt 0))).2)) (none) (x12_98) Z (hp_up h1 hm) hZ kk
        · rw [if_neg (hp_nt h2)] at hZ
          refine hp_sB 172 [176, 177, 179, 182, 73] (pc' := 73) (L' := [some (.ref 47), some (.int i1), some (.int i2), some (.int i3), some (.int i4), some (.long (v5 + (hq_147_98 i1 i2 i3 i4 ((i2.toInt - (Int32.ofInt 0).toInt).toNat + 1) (hq_73 S 48 49) (v5) (v7) (v9) ((Int64.ofInt 1)) ((Int32.ofInt 0))).2)), none, some (.long v7), none, some (.int (v9 + (Int32.ofInt 1))), some (.long (hq_147_98 i1 i2 i3 i4 ((i2.toInt - (Int32.ofInt 0).toInt).toNat + 1) (hq_73 S 48 49) (v5) (v7) (v9) ((Int64.ofInt 1)) ((Int32.ofInt 0))).2), none, x12_98]) (st' := []) rfl rfl ?_
          exact ih (Nat.le_trans (Nat.le_succ n) hN) m ((hq_147_98 i1 i2 i3 i4 ((i2.toInt - (Int32.ofInt 0).toInt).toNat + 1) (hq_73 S 48 49) (v5) (v7) (v9) ((Int64.ofInt 1)) ((Int32.ofInt 0))).1) ((v5 + (hq_147_98 i1 i2 i3 i4 ((i2.toInt - (Int32.ofInt 0).toInt).toNat + 1) (hq_73 S 48 49) (v5) (v7) (v9) ((Int64.ofInt 1)) ((Int32.ofInt 0))).2)) (v7) ((v9 + (Int32.ofInt 1))) (some (.long (hq_147_98 i1 i2 i3 i4 ((i2.toInt - (Int32.ofInt 0).toInt).toNat + 1) (hq_73 S 48 49) (v5) (v7) (v9) ((Int64.ofInt 1)) ((Int32.ofInt 0))).2)) (none) (x12_98) Z (hp_up h1 hm) hZ kk
set_option maxRecDepth 10000 in
theorem ht_147 {X : hp_X} (S : hp_S) (i1 : Int32) (i2 : Int32) (i3 : Int32) (i4 : Int32) (n : Nat) : hp_T n 147 0 [some (.ref 47), some (.int i1), some (.int i2), some (.int i3), some (.int i4), none, none, none, none, none, none, none, none] [] (hp_mem X S) (hp_ls X) (hq_147 S i1 i2 i3 i4) := by
  unfold hq_147
  refine hp_sN [1, 2] (pc' := 2) (L' := [some (.ref 47), some (.int i1), some (.int i2), some (.int i3), some (.int i4), none, none, none, none, none, none, none, none]) (st' := [.int i1, .ref 47]) rfl rfl ?_
  refine hp_iv (virt := true) (pc' := 5) (rv := some (.int (hq_76 S i1))) (M1 := hp_mem X (S)) rfl rfl (by decide) (hk_76 S (i1)) rfl rfl ?_
  show hp_T _ 147 5 _ [.int (hq_76 S i1)] _ _ _
  refine hp_if (pc' := 8) rfl rfl (fun h1 => ?_) (fun h1 => ?_)
  · refine hp_sN [41] (pc' := 41) (L' := [some (.ref 47), some (.int i1), some (.int i2), some (.int i3), some (.int i4), none, none, none, none, none, none, none, none]) (st' := [.long (Int64.ofInt 1000000001)]) rfl rfl ?_
    exact hp_Rls rfl
  · refine hp_sN [9, 10, 12] (pc' := 12) (L' := [some (.ref 47), some (.int i1), some (.int i2), some (.int i3), some (.int i4), none, none, none, none, none, none, none, none]) (st' := [.int (Int32.ofInt 7), .int (Int32.ofInt 0), .int i2]) rfl rfl ?_
    refine hp_iv (virt := false) (pc' := 15) (rv := some (.int (hq_70 S i2 (Int32.ofInt 0) (Int32.ofInt 7)))) (M1 := hp_mem X (S)) rfl rfl (by decide) (hk_70 S (i2) ((Int32.ofInt 0)) ((Int32.ofInt 7))) rfl rfl ?_
    show hp_T _ 147 15 _ [.int (hq_70 S i2 (Int32.ofInt 0) (Int32.ofInt 7))] _ _ _
    refine hp_if (pc' := 18) rfl rfl (fun h2 => ?_) (fun h2 => ?_)
    · refine hp_sN [41] (pc' := 41) (L' := [some (.ref 47), some (.int i1), some (.int i2), some (.int i3), some (.int i4), none, none, none, none, none, none, none, none]) (st' := [.long (Int64.ofInt 1000000001)]) rfl rfl ?_
      exact hp_Rls rfl
    · refine hp_sN [19, 20, 22] (pc' := 22) (L' := [some (.ref 47), some (.int i1), some (.int i2), some (.int i3), some (.int i4), none, none, none, none, none, none, none, none]) (st' := [.int (Int32.ofInt 20), .int (Int32.ofInt 2), .int i3]) rfl rfl ?_
      refine hp_iv (virt := false) (pc' := 25) (rv := some (.int (hq_70 S i3 (Int32.ofInt 2) (Int32.ofInt 20)))) (M1 := hp_mem X (S)) rfl rfl (by decide) (hk_70 S (i3) ((Int32.ofInt 2)) ((Int32.ofInt 20))) rfl rfl ?_
      show hp_T _ 147 25 _ [.int (hq_70 S i3 (Int32.ofInt 2) (Int32.ofInt 20))] _ _ _
      refine hp_if (pc' := 28) rfl rfl (fun h3 => ?_) (fun h3 => ?_)
      · refine hp_sN [41] (pc' := 41) (L' := [some (.ref 47), some (.int i1), some (.int i2), some (.int i3), some (.int i4), none, none, none, none, none, none, none, none]) (st' := [.long (Int64.ofInt 1000000001)]) rfl rfl ?_
        exact hp_Rls rfl
      · refine hp_sN [30, 31, 32] (pc' := 32) (L' := [some (.ref 47), some (.int i1), some (.int i2), some (.int i3), some (.int i4), none, none, none, none, none, none, none, none]) (st' := [.int (Int32.ofInt 1), .int (Int32.ofInt 0), .int i4]) rfl rfl ?_
        refine hp_iv (virt := false) (pc' := 35) (rv := some (.int (hq_70 S i4 (Int32.ofInt 0) (Int32.ofInt 1)))) (M1 := hp_mem X (S)) rfl rfl (by decide) (hk_70 S (i4) ((Int32.ofInt 0)) ((Int32.ofInt 1))) rfl rfl ?_
        show hp_T _ 147 35 _ [.int (hq_70 S i4 (Int32.ofInt 0) (Int32.ofInt 1))] _ _ _
        refine hp_if (pc' := 38) rfl rfl (fun h4 => ?_) (fun h4 => ?_)
        · refine hp_sN [43, 45, 46, 48, 49, 51] (pc' := 51) (L' := [some (.ref 47), some (.int i1), some (.int i2), some (.int i3), some (.int i4), some (.long (Int64.ofInt 0)), none, some (.long (Int64.ofInt 1)), none, some (.int (Int32.ofInt 0)), none, none, none]) (st' := []) rfl rfl ?_
          refine ht_147_51 n i1 i2 i3 i4 S n (Nat.le_refl _) ((i2.toInt - (Int32.ofInt 0).toInt).toNat + 1)  ((Int64.ofInt 0)) ((Int64.ofInt 1)) ((Int32.ofInt 0)) (none) (none) (none) _ (Nat.lt_succ_self _) rfl (fun x10_51 x11_51 x12_51 x9_51 => ?_)
          show hp_T _ 147 70 [some (.ref 47), some (.int i1), some (.int i2), some (.int i3), some (.int i4), some (.long (Int64.ofInt 0)), none, some (.long (hq_147_51 i1 i2 i3 i4 ((i2.toInt - (Int32.ofInt 0).toInt).toNat + 1) S ((Int64.ofInt 0)) ((Int64.ofInt 1)) ((Int32.ofInt 0)))), none, x9_51, x10_51, x11_51, x12_51] _ (hp_mem X S) _ _
          refine hp_sN [71, 73] (pc' := 73) (L' := [some (.ref 47), some (.int i1), some (.int i2), some (.int i3), some (.int i4), some (.long (Int64.ofInt 0)), none, some (.long (hq_147_51 i1 i2 i3 i4 ((i2.toInt - (Int32.ofInt 0).toInt).toNat + 1) S ((Int64.ofInt 0)) ((Int64.ofInt 1)) ((Int32.ofInt 0)))), none, some (.int (Int32.ofInt 0)), x10_51, x11_51, x12_51]) (st' := []) rfl rfl ?_
          refine ht_147_73 n i1 i2 i3 i4  n (Nat.le_refl _) ((((Int32.ofInt 1) <<< (i2 &&& 31)).toInt - (Int32.ofInt 0).toInt).toNat + 1) S ((Int64.ofInt 0)) ((hq_147_51 i1 i2 i3 i4 ((i2.toInt - (Int32.ofInt 0).toInt).toNat + 1) S ((Int64.ofInt 0)) ((Int64.ofInt 1)) ((Int32.ofInt 0)))) ((Int32.ofInt 0)) (x10_51) (x11_51) (x12_51) _ (Nat.lt_succ_self _) rfl (fun x10_73 x11_73 x12_73 x9_73 => ?_)
          show hp_T _ 147 185 [some (.ref 47), some (.int i1), some (.int i2), some (.int i3), some (.int i4), some (.long (hq_147_73 i1 i2 i3 i4 ((((Int32.ofInt 1) <<< (i2 &&& 31)).toInt - (Int32.ofInt 0).toInt).toNat + 1) S ((Int64.ofInt 0)) ((hq_147_51 i1 i2 i3 i4 ((i2.toInt - (Int32.ofInt 0).toInt).toNat + 1) S ((Int64.ofInt 0)) ((Int64.ofInt 1)) ((Int32.ofInt 0)))) ((Int32.ofInt 0))).2), none, some (.long (hq_147_51 i1 i2 i3 i4 ((i2.toInt - (Int32.ofInt 0).toInt).toNat + 1) S ((Int64.ofInt 0)) ((Int64.ofInt 1)) ((Int32.ofInt 0)))), none, x9_73, x10_73, x11_73, x12_73] _ (hp_mem X ((hq_147_73 i1 i2 i3 i4 ((((Int32.ofInt 1) <<< (i2 &&& 31)).toInt - (Int32.ofInt 0).toInt).toNat + 1) S ((Int64.ofInt 0)) ((hq_147_51 i1 i2 i3 i4 ((i2.toInt - (Int32.ofInt 0).toInt).toNat + 1) S ((Int64.ofInt 0)) ((Int64.ofInt 1)) ((Int32.ofInt 0)))) ((Int32.ofInt 0))).1)) _ _
          refine hp_sN [187, 189, 191] (pc' := 191) (L' := [some (.ref 47), some (.int i1), some (.int i2), some (.int i3), some (.int i4), some (.long (hq_147_73 i1 i2 i3 i4 ((((Int32.ofInt 1) <<< (i2 &&& 31)).toInt - (Int32.ofInt 0).toInt).toNat + 1) S ((Int64.ofInt 0)) ((hq_147_51 i1 i2 i3 i4 ((i2.toInt - (Int32.ofInt 0).toInt).toNat + 1) S ((Int64.ofInt 0)) ((Int64.ofInt 1)) ((Int32.ofInt 0)))) ((Int32.ofInt 0))).2), none, some (.long (hq_147_51 i1 i2 i3 i4 ((i2.toInt - (Int32.ofInt 0).toInt).toNat + 1) S ((Int64.ofInt 0)) ((Int64.ofInt 1)) ((Int32.ofInt 0)))), none, x9_73, x10_73, x11_73, x12_73]) (st' := [.int i4, .long (hq_147_51 i1 i2 i3 i4 ((i2.toInt - (Int32.ofInt 0).toInt).toNat + 1) S ((Int64.ofInt 0)) ((Int64.ofInt 1)) ((Int32.ofInt 0))), .long (hq_147_73 i1 i2 i3 i4 ((((Int32.ofInt 1) <<< (i2 &&& 31)).toInt - (Int32.ofInt 0).toInt).toNat + 1) S ((Int64.ofInt 0)) ((hq_147_51 i1 i2 i3 i4 ((i2.toInt - (Int32.ofInt 0).toInt).toNat + 1) S ((Int64.ofInt 0)) ((Int64.ofInt 1)) ((Int32.ofInt 0)))) ((Int32.ofInt 0))).2]) rfl rfl ?_
          refine hp_iv (virt := false) (pc' := 194) (rv := some (.long (hq_146 ((hq_147_73 i1 i2 i3 i4 ((((Int32.ofInt 1) <<< (i2 &&& 31)).toInt - (Int32.ofInt 0).toInt).toNat + 1) S ((Int64.ofInt 0)) ((hq_147_51 i1 i2 i3 i4 ((i2.toInt - (Int32.ofInt 0).toInt).toNat + 1) S ((Int64.ofInt 0)) ((Int64.ofInt 1)) ((Int32.ofInt 0)))) ((Int32.ofInt 0))).1) (hq_147_73 i1 i2 i3 i4 ((((Int32.ofInt 1) <<< (i2 &&& 31)).toInt - (Int32.ofInt 0).toInt).toNat + 1) S ((Int64.ofInt 0)) ((hq_147_51 i1 i2 i3 i4 ((i2.toInt - (Int32.ofInt 0).toInt).toNat + 1) S ((Int64.ofInt 0)) ((Int64.ofInt 1)) ((Int32.ofInt 0)))) ((Int32.ofInt 0))).2 (hq_147_51 i1 i2 i3 i4 ((i2.toInt - (Int32.ofInt 0).toInt).toNat + 1) S ((Int64.ofInt 0)) ((Int64.ofInt 1)) ((Int32.ofInt 0))) i4))) (M1 := hp_mem X ((hq_147_73 i1 i2 i3 i4 ((((Int32.ofInt 1) <<< (i2 &&& 31)).toInt - (Int32.ofInt 0).toInt).toNat + 1) S ((Int64.ofInt 0)) ((hq_147_51 i1 i2 i3 i4 ((i2.toInt - (Int32.ofInt 0).toInt).toNat + 1) S ((Int64.ofInt 0)) ((Int64.ofInt 1)) ((Int32.ofInt 0)))) ((Int32.ofInt 0))).1)) rfl rfl (by decide) (hk_146 ((hq_147_73 i1 i2 i3 i4 ((((Int32.ofInt 1) <<< (i2 &&& 31)).toInt - (Int32.ofInt 0).toInt).toNat + 1) S ((Int64.ofInt 0)) ((hq_147_51 i1 i2 i3 i4 ((i2.toInt - (Int32.ofInt 0).toInt).toNat + 1) S ((Int64.ofInt 0)) ((Int64.ofInt 1)) ((Int32.ofInt 0)))) ((Int32.ofInt 0))).1) ((hq_147_73 i1 i2 i3 i4 ((((Int32.ofInt 1) <<< (i2 &&& 31)).toInt - (Int32.ofInt 0).toInt).toNat + 1) S ((Int64.ofInt 0)) ((hq_147_51 i1 i2 i3 i4 ((i2.toInt - (Int32.ofInt 0).toInt).toNat + 1) S ((Int64.ofInt 0)) ((Int64.ofInt 1)) ((Int32.ofInt 0)))) ((Int32.ofInt 0))).2) ((hq_147_51 i1 i2 i3 i4 ((i2.toInt - (Int32.ofInt 0).toInt).toNat + 1) S ((Int64.ofInt 0)) ((Int64.ofInt 1)) ((Int32.ofInt 0)))) (i4)) rfl rfl ?_
          show hp_T _ 147 194 _ [.long (hq_146 ((hq_147_73 i1 i2 i3 i4 ((((Int32.ofInt 1) <<< (i2 &&& 31)).toInt - (Int32.ofInt 0).toInt).toNat + 1) S ((Int64.ofInt 0)) ((hq_147_51 i1 i2 i3 i4 ((i2.toInt - (Int32.ofInt 0).toInt).toNat + 1) S ((Int64.ofInt 0)) ((Int64.ofInt 1)) ((Int32.ofInt 0)))) ((Int32.ofInt 0))).1) (hq_147_73 i1 i2 i3 i4 ((((Int32.ofInt 1) <<< (i2 &&& 31)).toInt - (Int32.ofInt 0).toInt).toNat + 1) S ((Int64.ofInt 0)) ((hq_147_51 i1 i2 i3 i4 ((i2.toInt - (Int32.ofInt 0).toInt).toNat + 1) S ((Int64.ofInt 0)) ((Int64.ofInt 1)) ((Int32.ofInt 0)))) ((Int32.ofInt 0))).2 (hq_147_51 i1 i2 i3 i4 ((i2.toInt - (Int32.ofInt 0).toInt).toNat + 1) S ((Int64.ofInt 0)) ((Int64.ofInt 1)) ((Int32.ofInt 0))) i4)] _ _ _
          exact hp_Rls rfl
        · refine hp_sN [41] (pc' := 41) (L' := [some (.ref 47), some (.int i1), some (.int i2), some (.int i3), some (.int i4), none, none, none, none, none, none, none, none]) (st' := [.long (Int64.ofInt 1000000001)]) rfl rfl ?_
          exact hp_Rls rfl
theorem hk_147 {X : hp_X} (S : hp_S) (i1 : Int32) (i2 : Int32) (i3 : Int32) (i4 : Int32) : hp_K 147 [.ref 47, .int i1, .int i2, .int i3, .int i4] (hp_mem X S) (hp_ls X) (hq_147 S i1 i2 i3 i4) := by
  refine hp_mk (q := hzq_147) rfl (by decide) (L := [some (.ref 47), some (.int i1), some (.int i2), some (.int i3), some (.int i4), none, none, none, none, none, none, none, none]) rfl (fun n => ?_)
  exact ht_147 S i1 i2 i3 i4 n

/-! 148: HatsOfTheWindModel.mean(I)J -/
def hq_148_18 (i1 : Int32) : Nat → hp_S → Int64 → Int32 → Int64
  | 0, S, _, _ => 0
  | m + 1, S, v2, v4 => (if hz_cmp .ge v4 (Int32.ofInt 24) = true then v2 else hq_148_18 i1 m S (v2 + (S 48 ((Int32.ofInt 6) + v4).toNatClampNeg).toInt64) (v4 + (Int32.ofInt 1)))
def hq_148 (S : hp_S) (i1 : Int32) : Int64 := (if hz_cmp .ne (hq_70 S i1 (Int32.ofInt 0) (Int32.ofInt 1)) 0 = true then (hq_146 S (hq_148_18 i1 (((Int32.ofInt 24).toInt - (Int32.ofInt 0).toInt).toNat + 1) S ((Int64.ofInt 0)) ((Int32.ofInt 0))) (Int64.ofInt 24) i1) else (Int64.ofInt 1000000001))
set_option maxRecDepth 10000 in
theorem ht_148_18 {α : Type} {φ : α → Option Value × hzMem} {R : α} {X : hp_X} (N : Nat) (i1 : Int32) (S : hp_S) : ∀ (n : Nat), n ≤ N → ∀ (m : Nat) (v2 : Int64) (v4 : Int32) (Z : Int64), ((Int32.ofInt 24).toInt - v4.toInt).toNat < m → hq_148_18 i1 m S v2 v4 = Z → (∀ (x4 : Option Value), hp_T N 148 45 [some (.ref 47), some (.int i1), some (.long Z), none, x4] [] (hp_mem X S) φ R) → hp_T n 148 18 [some (.ref 47), some (.int i1), some (.long v2), none, some (.int v4)] [] (hp_mem X S) φ R := by
  intro n
  induction n with
  | zero => intros; exact hp_0
  | succ n ih =>
    intro hN m v2 v4 Z hm hZ kk
    cases m with
    | zero => exact absurd hm (Nat.not_lt_zero _)
    | succ m =>
      rw [hq_148_18] at hZ
      refine hp_sN [20, 22] (pc' := 22) (L' := [some (.ref 47), some (.int i1), some (.long v2), none, some (.int v4)]) (st' := [.int (Int32.ofInt 24), .int v4]) rfl rfl ?_
      refine hp_ic2 (pc' := 25) rfl rfl (fun h1 => ?_) (fun h1 => ?_)
      · rw [if_pos h1] at hZ
        subst hZ
        exact hp_le hN (kk (some (.int v4)))
      · rw [if_neg (hp_nt h1)] at hZ
        refine hp_sN [26, 27] (pc' := 27) (L' := [some (.ref 47), some (.int i1), some (.long v2), none, some (.int v4)]) (st' := [.ref 47, .long v2]) rfl rfl ?_
        refine hp_gf (pc' := 30) rfl (by decide) (hp_c47 X _) rfl rfl ?_
        refine hp_sN [32, 34, 35] (pc' := 35) (L' := [some (.ref 47), some (.int i1), some (.long v2), none, some (.int v4)]) (st' := [.int ((Int32.ofInt 6) + v4), .ref 48, .long v2]) rfl rfl ?_
        refine hp_al (pc' := 36) rfl (hp_cl (Or.inl rfl)) (hp_cc (Or.inl rfl) X _) rfl ?_
        refine hp_sB 37 [38, 39, 42, 18] (pc' := 18) (L' := [some (.ref 47), some (.int i1), some (.long (v2 + (S 48 ((Int32.ofInt 6) + v4).toNatClampNeg).toInt64)), none, some (.int (v4 + (Int32.ofInt 1)))]) (st' := []) rfl rfl ?_
        exact ih (Nat.le_trans (Nat.le_succ n) hN) m ((v2 + (S 48 ((Int32.ofInt 6) + v4).toNatClampNeg).toInt64)) ((v4 + (Int32.ofInt 1))) Z (hp_up h1 hm) hZ kk
set_option maxRecDepth 10000 in
theorem ht_148 {X : hp_X} (S : hp_S) (i1 : Int32) (n : Nat) : hp_T n 148 0 [some (.ref 47), some (.int i1), none, none, none] [] (hp_mem X S) (hp_l X S) (hq_148 S i1) := by
  unfold hq_148
  refine hp_sN [1, 2, 3] (pc' := 3) (L' := [some (.ref 47), some (.int i1), none, none, none]) (st' := [.int (Int32.ofInt 1), .int (Int32.ofInt 0), .int i1]) rfl rfl ?_
  refine hp_iv (virt := false) (pc' := 6) (rv := some (.int (hq_70 S i1 (Int32.ofInt 0) (Int32.ofInt 1)))) (M1 := hp_mem X (S)) rfl rfl (by decide) (hk_70 S (i1) ((Int32.ofInt 0)) ((Int32.ofInt 1))) rfl rfl ?_
  show hp_T _ 148 6 _ [.int (hq_70 S i1 (Int32.ofInt 0) (Int32.ofInt 1))] _ _ _
  refine hp_if (pc' := 9) rfl rfl (fun h1 => ?_) (fun h1 => ?_)
  · refine hp_sN [14, 15, 16, 18] (pc' := 18) (L' := [some (.ref 47), some (.int i1), some (.long (Int64.ofInt 0)), none, some (.int (Int32.ofInt 0))]) (st' := []) rfl rfl ?_
    refine ht_148_18 n i1 S n (Nat.le_refl _) (((Int32.ofInt 24).toInt - (Int32.ofInt 0).toInt).toNat + 1)  ((Int64.ofInt 0)) ((Int32.ofInt 0))  _ (Nat.lt_succ_self _) rfl (fun x4_18 => ?_)
    show hp_T _ 148 45 [some (.ref 47), some (.int i1), some (.long (hq_148_18 i1 (((Int32.ofInt 24).toInt - (Int32.ofInt 0).toInt).toNat + 1) S ((Int64.ofInt 0)) ((Int32.ofInt 0)))), none, x4_18] _ (hp_mem X S) _ _
    refine hp_sN [46, 49, 50] (pc' := 50) (L' := [some (.ref 47), some (.int i1), some (.long (hq_148_18 i1 (((Int32.ofInt 24).toInt - (Int32.ofInt 0).toInt).toNat + 1) S ((Int64.ofInt 0)) ((Int32.ofInt 0)))), none, x4_18]) (st' := [.int i1, .long (Int64.ofInt 24), .long (hq_148_18 i1 (((Int32.ofInt 24).toInt - (Int32.ofInt 0).toInt).toNat + 1) S ((Int64.ofInt 0)) ((Int32.ofInt 0)))]) rfl rfl ?_
    refine hp_iv (virt := false) (pc' := 53) (rv := some (.long (hq_146 S (hq_148_18 i1 (((Int32.ofInt 24).toInt - (Int32.ofInt 0).toInt).toNat + 1) S ((Int64.ofInt 0)) ((Int32.ofInt 0))) (Int64.ofInt 24) i1))) (M1 := hp_mem X (S)) rfl rfl (by decide) (hk_146 S ((hq_148_18 i1 (((Int32.ofInt 24).toInt - (Int32.ofInt 0).toInt).toNat + 1) S ((Int64.ofInt 0)) ((Int32.ofInt 0)))) ((Int64.ofInt 24)) (i1)) rfl rfl ?_
    show hp_T _ 148 53 _ [.long (hq_146 S (hq_148_18 i1 (((Int32.ofInt 24).toInt - (Int32.ofInt 0).toInt).toNat + 1) S ((Int64.ofInt 0)) ((Int32.ofInt 0))) (Int64.ofInt 24) i1)] _ _ _
    exact hp_Rl rfl
  · refine hp_sN [12] (pc' := 12) (L' := [some (.ref 47), some (.int i1), none, none, none]) (st' := [.long (Int64.ofInt 1000000001)]) rfl rfl ?_
    exact hp_Rl rfl
theorem hk_148 {X : hp_X} (S : hp_S) (i1 : Int32) : hp_K 148 [.ref 47, .int i1] (hp_mem X S) (hp_l X S) (hq_148 S i1) := by
  refine hp_mk (q := hzq_148) rfl (by decide) (L := [some (.ref 47), some (.int i1), none, none, none]) rfl (fun n => ?_)
  exact ht_148 S i1 n
/-! 149: HatsOfTheWindModel.wager(II)I -/
def hq_149_54 (i1 : Int32) (i2 : Int32) : Nat → hp_S → Int32 → Int32 → Int32
  | 0, S, _, _ => 0
  | m + 1, S, v3, v4 => (if hz_cmp .ne v3 0 = true then v3 else (if hz_cmp .ge v4 (S 57 i1.toNatClampNeg) = true then v3 else (if hz_cmp .ne (hq_70 S (S 58 (((Int32.ofInt 100) * i1) + v4).toNatClampNeg) (Int32.ofInt 1) (Int32.ofInt 99)) 0 = true then hq_149_54 i1 i2 m S v3 (v4 + (Int32.ofInt 1)) else hq_149_54 i1 i2 m S (Int32.ofInt (-13)) (v4 + (Int32.ofInt 1)))))
def hq_149_141 (i1 : Int32) (i2 : Int32) : Nat → hp_S → Int32 → Int32 → Int32 → Int32 → Int32
  | 0, S, _, _, _, _ => 0
  | m + 1, S, v3, v4, v5, v6 => (if hz_cmp .ge v6 (S 57 i1.toNatClampNeg) = true then v5 else (if hz_cmp .ge (hq_72 S (S 58 (((Int32.ofInt 100) * i1) + v6).toNatClampNeg) v4) (hq_72 S (S 58 (((Int32.ofInt 100) * i1) + v5).toNatClampNeg) v4) = true then hq_149_141 i1 i2 m S v3 v4 v5 (v6 + (Int32.ofInt 1)) else hq_149_141 i1 i2 m S v3 v4 v6 (v6 + (Int32.ofInt 1))))
def hq_149_99 (i1 : Int32) (i2 : Int32) (S : hp_S) (v3 : Int32) : Int32 × hp_S := (if hz_cmp .eq v3 0 = true then (if hz_cmp .ge (hq_123 (hq_73 S 48 49) i2 (hq_73 S 48 49 48 (hq_75 (hq_73 S 48 49) i2 (Int32.ofInt 2)).toNatClampNeg) (Int32.ofInt 99)).1 0 = true then ((hq_149_141 i1 i2 ((((hq_123 (hq_73 S 48 49) i2 (hq_73 S 48 49 48 (hq_75 (hq_73 S 48 49) i2 (Int32.ofInt 2)).toNatClampNeg) (Int32.ofInt 99)).2 57 i1.toNatClampNeg).toInt - (Int32.ofInt 1).toInt).toNat + 1) ((hq_123 (hq_73 S 48 49) i2 (hq_73 S 48 49 48 (hq_75 (hq_73 S 48 49) i2 (Int32.ofInt 2)).toNatClampNeg) (Int32.ofInt 99)).2) (v3) ((hq_123 (hq_73 S 48 49) i2 (hq_73 S 48 49 48 (hq_75 (hq_73 S 48 49) i2 (Int32.ofInt 2)).toNatClampNeg) (Int32.ofInt 99)).1) ((Int32.ofInt 0)) ((Int32.ofInt 1))), (hq_123 (hq_73 S 48 49) i2 (hq_73 S 48 49 48 (hq_75 (hq_73 S 48 49) i2 (Int32.ofInt 2)).toNatClampNeg) (Int32.ofInt 99)).2) else ((Int32.ofInt (-4)), (hq_123 (hq_73 S 48 49) i2 (hq_73 S 48 49 48 (hq_75 (hq_73 S 48 49) i2 (Int32.ofInt 2)).toNatClampNeg) (Int32.ofInt 99)).2)) else (v3, S))
def hq_149_51 (i1 : Int32) (i2 : Int32) (S : hp_S) (v3 : Int32) : Int32 × hp_S := (hq_149_99 i1 i2 S ((hq_149_54 i1 i2 (((S 57 i1.toNatClampNeg).toInt - (Int32.ofInt 0).toInt).toNat + 1) S (v3) ((Int32.ofInt 0)))))
def hq_149_35 (i1 : Int32) (i2 : Int32) (S : hp_S) (v3 : Int32) : Int32 × hp_S := (if hz_cmp .ne v3 0 = true then (hq_149_51 i1 i2 S (v3)) else (if hz_cmp .ne (S 57 i1.toNatClampNeg) 0 = true then (hq_149_51 i1 i2 S (v3)) else (hq_149_51 i1 i2 S ((Int32.ofInt (-13))))))
def hq_149 (S : hp_S) (i1 : Int32) (i2 : Int32) : Int32 × hp_S := (if hz_cmp .ne (hq_77 S i2) 0 = true then (if hz_cmp .ne (hq_158 S i1 (Int32.ofInt (-1))) 0 = true then (hq_149_35 i1 i2 S ((hq_158 S i1 (Int32.ofInt (-1))))) else (if hz_cmp .ne (hq_85 S 48 i2) 0 = true then (hq_149_35 i1 i2 S ((hq_158 S i1 (Int32.ofInt (-1))))) else (hq_149_35 i1 i2 S ((Int32.ofInt (-3)))))) else ((Int32.ofInt (-1)), S))
theorem hf_149_99 {i1 : Int32} {i2 : Int32} (S : hp_S) (v3 : Int32) (j : Nat) (z0 : j ≠ 49) : (hq_149_99 i1 i2 S v3).2 j = S j := by
  unfold hq_149_99
  repeat' split
  all_goals simp [hp_wo, hp_wgo, hp_cpo, hf_73, hf_123, z0]
theorem hf_149_51 {i1 : Int32} {i2 : Int32} (S : hp_S) (v3 : Int32) (j : Nat) (z0 : j ≠ 49) : (hq_149_51 i1 i2 S v3).2 j = S j := by
  unfold hq_149_51
  repeat' split
  all_goals simp [hp_wo, hp_wgo, hp_cpo, hf_73, hf_123, z0, hf_149_99]
theorem hf_149_35 {i1 : Int32} {i2 : Int32} (S : hp_S) (v3 : Int32) (j : Nat) (z0 : j ≠ 49) : (hq_149_35 i1 i2 S v3).2 j = S j := by
  unfold hq_149_35
  repeat' split
  all_goals simp [hp_wo, hp_wgo, hp_cpo, hf_73, hf_123, z0, hf_149_99, hf_149_51]
theorem hf_149 (S : hp_S) (i1 : Int32) (i2 : Int32) (j : Nat) (z0 : j ≠ 49) : (hq_149 S i1 i2).2 j = S j := by
  unfold hq_149
  repeat' split
  all_goals simp [hp_wo, hp_wgo, hp_cpo, hf_73, hf_123, z0, hf_149_99, hf_149_51, hf_149_35]
set_option maxRecDepth 10000 in
theorem ht_149_54 {α : Type} {φ : α → Option Value × hzMem} {R : α} {X : hp_X} (N : Nat) (i1 : Int32) (i2 : Int32) (S : hp_S) : ∀ (n : Nat), n ≤ N → ∀ (m : Nat) (v3 : Int32) (v4 : Int32) (x5 : Option Value) (x6 : Option Value) (Z : Int32), ((S 57 i1.toNatClampNeg).toInt - v4.toInt).toNat < m → hq_149_54 i1 i2 m S v3 v4 = Z → (∀ (x5 : Option Value) (x6 : Option Value) (x4 : Option Value), hp_T N 149 99 [some (.ref 47), some (.int i1), some (.int i2), some (.int Z), x4, x5, x6] [] (hp_mem X S) φ R) → hp_T n 149 54 [some (.ref 47), some (.int i1), some (.int i2), some (.int v3), some (.int v4), x5, x6] [] (hp_mem X S) φ R := by
  intro n
  induction n with
  | zero => intros; exact hp_0
  | succ n ih =>
    intro hN m v3 v4 x5 x6 Z hm hZ kk
    cases m with
    | zero => exact absurd hm (Nat.not_lt_zero _)
    | succ m =>
      rw [hq_149_54] at hZ
      refine hp_sN [55] (pc' := 55) (L' := [some (.ref 47), some (.int i1), some (.int i2), some (.int v3), some (.int v4), x5, x6]) (st' := [.int v3]) rfl rfl ?_
      refine hp_if2 (pc' := 58) rfl rfl (fun h1 => ?_) (fun h1 => ?_)
      · rw [if_pos h1] at hZ
        subst hZ
        exact hp_le hN (kk (x5) (x6) (some (.int v4)))
      · rw [if_neg (hp_nt h1)] at hZ
        refine hp_sN [60, 61] (pc' := 61) (L' := [some (.ref 47), some (.int i1), some (.int i2), some (.int v3), some (.int v4), x5, x6]) (st' := [.ref 47, .int v4]) rfl rfl ?_
        refine hp_gf (pc' := 64) rfl (by decide) (hp_c47 X _) rfl rfl ?_
        refine hp_sN [65] (pc' := 65) (L' := [some (.ref 47), some (.int i1), some (.int i2), some (.int v3), some (.int v4), x5, x6]) (st' := [.int i1, .ref 57, .int v4]) rfl rfl ?_
        refine hp_al (pc' := 66) rfl (by decide) rfl rfl ?_
        refine hp_ic2 (pc' := 69) rfl rfl (fun h2 => ?_) (fun h2 => ?_)
        · rw [if_pos h2] at hZ
          subst hZ
          exact hp_le hN (kk (x5) (x6) (some (.int v4)))
        · rw [if_neg (hp_nt h2)] at hZ
          refine hp_sN [70] (pc' := 70) (L' := [some (.ref 47), some (.int i1), some (.int i2), some (.int v3), some (.int v4), x5, x6]) (st' := [.ref 47]) rfl rfl ?_
          refine hp_gf (pc' := 73) rfl (by decide) (hp_c47 X _) rfl rfl ?_
          refine hp_sN [75, 76, 77, 79, 80] (pc' := 80) (L' := [some (.ref 47), some (.int i1), some (.int i2), some (.int v3), some (.int v4), x5, x6]) (st' := [.int (((Int32.ofInt 100) * i1) + v4), .ref 58]) rfl rfl ?_
          refine hp_al (pc' := 81) rfl (by decide) rfl rfl ?_
          refine hp_sN [82, 84] (pc' := 84) (L' := [some (.ref 47), some (.int i1), some (.int i2), some (.int v3), some (.int v4), x5, x6]) (st' := [.int (Int32.ofInt 99), .int (Int32.ofInt 1), .int (S 58 (((Int32.ofInt 100) * i1) + v4).toNatClampNeg)]) rfl rfl ?_
          refine hp_iv (virt := false) (pc' := 87) (rv := some (.int (hq_70 S (S 58 (((Int32.ofInt 100) * i1) + v4).toNatClampNeg) (Int32.ofInt 1) (Int32.ofInt 99)))) (M1 := hp_mem X (S)) rfl rfl (by decide) (hk_70 S ((S 58 (((Int32.ofInt 100) * i1) + v4).toNatClampNeg)) ((Int32.ofInt 1)) ((Int32.ofInt 99))) rfl rfl ?_
          show hp_T _ 149 87 _ [.int (hq_70 S (S 58 (((Int32.ofInt 100) * i1) + v4).toNatClampNeg) (Int32.ofInt 1) (Int32.ofInt 99))] _ _ _
          refine hp_if2 (pc' := 90) rfl rfl (fun h3 => ?_) (fun h3 => ?_)
          · rw [if_pos h3] at hZ
            refine hp_sB 96 [54] (pc' := 54) (L' := [some (.ref 47), some (.int i1), some (.int i2), some (.int v3), some (.int (v4 + (Int32.ofInt 1))), x5, x6]) (st' := []) rfl rfl ?_
            exact ih (Nat.le_trans (Nat.le_succ n) hN) m (v3) ((v4 + (Int32.ofInt 1))) (x5) (x6) Z (hp_up h2 hm) hZ kk
          · rw [if_neg (hp_nt h3)] at hZ
            refine hp_sB 92 [93, 96, 54] (pc' := 54) (L' := [some (.ref 47), some (.int i1), some (.int i2), some (.int (Int32.ofInt (-13))), some (.int (v4 + (Int32.ofInt 1))), x5, x6]) (st' := []) rfl rfl ?_
            exact ih (Nat.le_trans (Nat.le_succ n) hN) m ((Int32.ofInt (-13))) ((v4 + (Int32.ofInt 1))) (x5) (x6) Z (hp_up h2 hm) hZ kk
set_option maxRecDepth 10000 in
theorem ht_149_141 {α : Type} {φ : α → Option Value × hzMem} {R : α} {X : hp_X} (N : Nat) (i1 : Int32) (i2 : Int32) (S : hp_S) : ∀ (n : Nat), n ≤ N → ∀ (m : Nat) (v3 : Int32) (v4 : Int32) (v5 : Int32) (v6 : Int32) (Z : Int32), ((S 57 i1.toNatClampNeg).toInt - v6.toInt).toNat < m → hq_149_141 i1 i2 m S v3 v4 v5 v6 = Z → (∀ (x6 : Option Value), hp_T N 149 199 [some (.ref 47), some (.int i1), some (.int i2), some (.int v3), some (.int v4), some (.int Z), x6] [] (hp_mem X S) φ R) → hp_T n 149 141 [some (.ref 47), some (.int i1), some (.int i2), some (.int v3), some (.int v4), some (.int v5), some (.int v6)] [] (hp_mem X S) φ R := by
  intro n
  induction n with
  | zero => intros; exact hp_0
  | succ n ih =>
    intro hN m v3 v4 v5 v6 Z hm hZ kk
    cases m with
    | zero => exact absurd hm (Nat.not_lt_zero _)
    | succ m =>
      rw [hq_149_141] at hZ
      refine hp_sN [143, 144] (pc' := 144) (L' := [some (.ref 47), some (.int i1), some (.int i2), some (.int v3), some (.int v4), some (.int v5), some (.int v6)]) (st' := [.ref 47, .int v6]) rfl rfl ?_
      refine hp_gf (pc' := 147) rfl (by decide) (hp_c47 X _) rfl rfl ?_
      refine hp_sN [148] (pc' := 148) (L' := [some (.ref 47), some (.int i1), some (.int i2), some (.int v3), some (.int v4), some (.int v5), some (.int v6)]) (st' := [.int i1, .ref 57, .int v6]) rfl rfl ?_
      refine hp_al (pc' := 149) rfl (by decide) rfl rfl ?_
      refine hp_ic2 (pc' := 152) rfl rfl (fun h1 => ?_) (fun h1 => ?_)
      · rw [if_pos h1] at hZ
        subst hZ
        exact hp_le hN (kk (some (.int v6)))
      · rw [if_neg (hp_nt h1)] at hZ
        refine hp_sN [153] (pc' := 153) (L' := [some (.ref 47), some (.int i1), some (.int i2), some (.int v3), some (.int v4), some (.int v5), some (.int v6)]) (st' := [.ref 47]) rfl rfl ?_
        refine hp_gf (pc' := 156) rfl (by decide) (hp_c47 X _) rfl rfl ?_
        refine hp_sN [158, 159, 160, 162, 163] (pc' := 163) (L' := [some (.ref 47), some (.int i1), some (.int i2), some (.int v3), some (.int v4), some (.int v5), some (.int v6)]) (st' := [.int (((Int32.ofInt 100) * i1) + v6), .ref 58]) rfl rfl ?_
        refine hp_al (pc' := 164) rfl (by decide) rfl rfl ?_
        refine hp_sN [166] (pc' := 166) (L' := [some (.ref 47), some (.int i1), some (.int i2), some (.int v3), some (.int v4), some (.int v5), some (.int v6)]) (st' := [.int v4, .int (S 58 (((Int32.ofInt 100) * i1) + v6).toNatClampNeg)]) rfl rfl ?_
        refine hp_iv (virt := false) (pc' := 169) (rv := some (.int (hq_72 S (S 58 (((Int32.ofInt 100) * i1) + v6).toNatClampNeg) v4))) (M1 := hp_mem X (S)) rfl rfl (by decide) (hk_72 S ((S 58 (((Int32.ofInt 100) * i1) + v6).toNatClampNeg)) (v4)) rfl rfl ?_
        show hp_T _ 149 169 _ [.int (hq_72 S (S 58 (((Int32.ofInt 100) * i1) + v6).toNatClampNeg) v4)] _ _ _
        refine hp_sN [170] (pc' := 170) (L' := [some (.ref 47), some (.int i1), some (.int i2), some (.int v3), some (.int v4), some (.int v5), some (.int v6)]) (st' := [.ref 47, .int (hq_72 S (S 58 (((Int32.ofInt 100) * i1) + v6).toNatClampNeg) v4)]) rfl rfl ?_
        refine hp_gf (pc' := 173) rfl (by decide) (hp_c47 X _) rfl rfl ?_
        refine hp_sN [175, 176, 177, 179, 180] (pc' := 180) (L' := [some (.ref 47), some (.int i1), some (.int i2), some (.int v3), some (.int v4), some (.int v5), some (.int v6)]) (st' := [.int (((Int32.ofInt 100) * i1) + v5), .ref 58, .int (hq_72 S (S 58 (((Int32.ofInt 100) * i1) + v6).toNatClampNeg) v4)]) rfl rfl ?_
        refine hp_al (pc' := 181) rfl (by decide) rfl rfl ?_
        refine hp_sN [183] (pc' := 183) (L' := [some (.ref 47), some (.int i1), some (.int i2), some (.int v3), some (.int v4), some (.int v5), some (.int v6)]) (st' := [.int v4, .int (S 58 (((Int32.ofInt 100) * i1) + v5).toNatClampNeg), .int (hq_72 S (S 58 (((Int32.ofInt 100) * i1) + v6).toNatClampNeg) v4)]) rfl rfl ?_
        refine hp_iv (virt := false) (pc' := 186) (rv := some (.int (hq_72 S (S 58 (((Int32.ofInt 100) * i1) + v5).toNatClampNeg) v4))) (M1 := hp_mem X (S)) rfl rfl (by decide) (hk_72 S ((S 58 (((Int32.ofInt 100) * i1) + v5).toNatClampNeg)) (v4)) rfl rfl ?_
        show hp_T _ 149 186 _ [.int (hq_72 S (S 58 (((Int32.ofInt 100) * i1) + v5).toNatClampNeg) v4), .int (hq_72 S (S 58 (((Int32.ofInt 100) * i1) + v6).toNatClampNeg) v4)] _ _ _
        refine hp_ic2 (pc' := 189) rfl rfl (fun h2 => ?_) (fun h2 => ?_)
        · rw [if_pos h2] at hZ
          refine hp_sB 196 [141] (pc' := 141) (L' := [some (.ref 47), some (.int i1), some (.int i2), some (.int v3), some (.int v4), some (.int v5), some (.int (v6 + (Int32.ofInt 1)))]) (st' := []) rfl rfl ?_
          exact ih (Nat.le_trans (Nat.le_succ n) hN) m (v3) (v4) (v5) ((v6 + (Int32.ofInt 1))) Z (hp_up h1 hm) hZ kk
        · rw [if_neg (hp_nt h2)] at hZ
          refine hp_sB 191 [193, 196, 141] (pc' := 141) (L' := [some (.ref 47), some (.int i1), some (.int i2), some (.int v3), some (.int v4), some (.int v6), some (.int (v6 + (Int32.ofInt 1)))]) (st' := []) rfl rfl ?_
          exact ih (Nat.le_trans (Nat.le_succ n) hN) m (v3) (v4) (v6) ((v6 + (Int32.ofInt 1))) Z (hp_up h1 hm) hZ kk
set_option maxRecDepth 10000 in
theorem ht_149_99 {X : hp_X} (i1 : Int32) (i2 : Int32) (S : hp_S) (v3 : Int32) (x4 : Option Value) (x5 : Option Value) (x6 : Option Value) (n : Nat) : hp_T n 149 99 [some (.ref 47), some (.int i1), some (.int i2), some (.int v3), x4, x5, x6] [] (hp_mem X S) (hp_is X) (hq_149_99 i1 i2 S v3) := by
  unfold hq_149_99
  refine hp_sN [100] (pc' := 100) (L' := [some (.ref 47), some (.int i1), some (.int i2), some (.int v3), x4, x5, x6]) (st' := [.int v3]) rfl rfl ?_
  refine hp_if (pc' := 103) rfl rfl (fun h1 => ?_) (fun h1 => ?_)
  · refine hp_sN [106] (pc' := 106) (L' := [some (.ref 47), some (.int i1), some (.int i2), some (.int v3), x4, x5, x6]) (st' := [.ref 47]) rfl rfl ?_
    refine hp_gf (pc' := 109) rfl (by decide) (hp_c47 X _) rfl rfl ?_
    refine hp_sN [110] (pc' := 110) (L' := [some (.ref 47), some (.int i1), some (.int i2), some (.int v3), x4, x5, x6]) (st' := [.ref 47, .ref 48]) rfl rfl ?_
    refine hp_gf (pc' := 113) rfl (by decide) (hp_c47 X _) rfl rfl ?_
    refine hp_iv (virt := false) (pc' := 116) (rv := none) (M1 := hp_mem X (hq_73 S 48 49)) rfl rfl (by decide) (hk_73 (Or.inl rfl) (Or.inr (Or.inl rfl)) S) rfl rfl ?_
    show hp_T _ 149 116 _ [] _ _ _
    refine hp_sN [117, 118, 119] (pc' := 119) (L' := [some (.ref 47), some (.int i1), some (.int i2), some (.int v3), x4, x5, x6]) (st' := [.ref 47, .int i2, .ref 47]) rfl rfl ?_
    refine hp_gf (pc' := 122) rfl (by decide) (hp_c47 X _) rfl rfl ?_
    refine hp_sN [123, 124] (pc' := 124) (L' := [some (.ref 47), some (.int i1), some (.int i2), some (.int v3), x4, x5, x6]) (st' := [.int (Int32.ofInt 2), .int i2, .ref 48, .int i2, .ref 47]) rfl rfl ?_
    refine hp_iv (virt := false) (pc' := 127) (rv := some (.int (hq_75 (hq_73 S 48 49) i2 (Int32.ofInt 2)))) (M1 := hp_mem X (hq_73 S 48 49)) rfl rfl (by decide) (hk_75 (hq_73 S 48 49) (i2) ((Int32.ofInt 2))) rfl rfl ?_
    show hp_T _ 149 127 _ [.int (hq_75 (hq_73 S 48 49) i2 (Int32.ofInt 2)), .ref 48, .int i2, .ref 47] _ _ _
    refine hp_al (pc' := 128) rfl (hp_cl (Or.inl rfl)) (hp_cc (Or.inl rfl) X _) rfl ?_
    refine hp_sN [130] (pc' := 130) (L' := [some (.ref 47), some (.int i1), some (.int i2), some (.int v3), x4, x5, x6]) (st' := [.int (Int32.ofInt 99), .int (hq_73 S 48 49 48 (hq_75 (hq_73 S 48 49) i2 (Int32.ofInt 2)).toNatClampNeg), .int i2, .ref 47]) rfl rfl ?_
    refine hp_iv (virt := true) (pc' := 133) (rv := some (.int (hq_123 (hq_73 S 48 49) i2 (hq_73 S 48 49 48 (hq_75 (hq_73 S 48 49) i2 (Int32.ofInt 2)).toNatClampNeg) (Int32.ofInt 99)).1)) (M1 := hp_mem X ((hq_123 (hq_73 S 48 49) i2 (hq_73 S 48 49 48 (hq_75 (hq_73 S 48 49) i2 (Int32.ofInt 2)).toNatClampNeg) (Int32.ofInt 99)).2)) rfl rfl (by decide) (hk_123 (hq_73 S 48 49) (i2) ((hq_73 S 48 49 48 (hq_75 (hq_73 S 48 49) i2 (Int32.ofInt 2)).toNatClampNeg)) ((Int32.ofInt 99)) (by decide)) rfl rfl ?_
    show hp_T _ 149 133 _ [.int (hq_123 (hq_73 S 48 49) i2 (hq_73 S 48 49 48 (hq_75 (hq_73 S 48 49) i2 (Int32.ofInt 2)).toNatClampNeg) (Int32.ofInt 99)).1] _ _ _
    refine hp_sN [135, 136, 138, 139, 141] (pc' := 141) (L' := [some (.ref 47), some (.int i1), some (.int i2), some (.int v3), some (.int (hq_123 (hq_73 S 48 49) i2 (hq_73 S 48 49 48 (hq_75 (hq_73 S 48 49) i2 (Int32.ofInt 2)).toNatClampNeg) (Int32.ofInt 99)).1), some (.int (Int32.ofInt 0)), some (.int (Int32.ofInt 1))]) (st' := []) rfl rfl ?_
    refine ht_149_141 n i1 i2 ((hq_123 (hq_73 S 48 49) i2 (hq_73 S 48 49 48 (hq_75 (hq_73 S 48 49) i2 (Int32.ofInt 2)).toNatClampNeg) (Int32.ofInt 99)).2) n (Nat.le_refl _) ((((hq_123 (hq_73 S 48 49) i2 (hq_73 S 48 49 48 (hq_75 (hq_73 S 48 49) i2 (Int32.ofInt 2)).toNatClampNeg) (Int32.ofInt 99)).2 57 i1.toNatClampNeg).toInt - (Int32.ofInt 1).toInt).toNat + 1)  (v3) ((hq_123 (hq_73 S 48 49) i2 (hq_73 S 48 49 48 (hq_75 (hq_73 S 48 49) i2 (Int32.ofInt 2)).toNatClampNeg) (Int32.ofInt 99)).1) ((Int32.ofInt 0)) ((Int32.ofInt 1))  _ (Nat.lt_succ_self _) rfl (fun x6_141 => ?_)
    show hp_T _ 149 199 [some (.ref 47), some (.int i1), some (.int i2), some (.int v3), some (.int (hq_123 (hq_73 S 48 49) i2 (hq_73 S 48 49 48 (hq_75 (hq_73 S 48 49) i2 (Int32.ofInt 2)).toNatClampNeg) (Int32.ofInt 99)).1), some (.int (hq_149_141 i1 i2 ((((hq_123 (hq_73 S 48 49) i2 (hq_73 S 48 49 48 (hq_75 (hq_73 S 48 49) i2 (Int32.ofInt 2)).toNatClampNeg) (Int32.ofInt 99)).2 57 i1.toNatClampNeg).toInt - (Int32.ofInt 1).toInt).toNat + 1) ((hq_123 (hq_73 S 48 49) i2 (hq_73 S 48 49 48 (hq_75 (hq_73 S 48 49) i2 (Int32.ofInt 2)).toNatClampNeg) (Int32.ofInt 99)).2) (v3) ((hq_123 (hq_73 S 48 49) i2 (hq_73 S 48 49 48 (hq_75 (hq_73 S 48 49) i2 (Int32.ofInt 2)).toNatClampNeg) (Int32.ofInt 99)).1) ((Int32.ofInt 0)) ((Int32.ofInt 1)))), x6_141] _ (hp_mem X ((hq_123 (hq_73 S 48 49) i2 (hq_73 S 48 49 48 (hq_75 (hq_73 S 48 49) i2 (Int32.ofInt 2)).toNatClampNeg) (Int32.ofInt 99)).2)) _ _
    refine hp_sN [201] (pc' := 201) (L' := [some (.ref 47), some (.int i1), some (.int i2), some (.int v3), some (.int (hq_123 (hq_73 S 48 49) i2 (hq_73 S 48 49 48 (hq_75 (hq_73 S 48 49) i2 (Int32.ofInt 2)).toNatClampNeg) (Int32.ofInt 99)).1), some (.int (hq_149_141 i1 i2 ((((hq_123 (hq_73 S 48 49) i2 (hq_73 S 48 49 48 (hq_75 (hq_73 S 48 49) i2 (Int32.ofInt 2)).toNatClampNeg) (Int32.ofInt 99)).2 57 i1.toNatClampNeg).toInt - (Int32.ofInt 1).toInt).toNat + 1) ((hq_123 (hq_73 S 48 49) i2 (hq_73 S 48 49 48 (hq_75 (hq_73 S 48 49) i2 (Int32.ofInt 2)).toNatClampNeg) (Int32.ofInt 99)).2) (v3) ((hq_123 (hq_73 S 48 49) i2 (hq_73 S 48 49 48 (hq_75 (hq_73 S 48 49) i2 (Int32.ofInt 2)).toNatClampNeg) (Int32.ofInt 99)).1) ((Int32.ofInt 0)) ((Int32.ofInt 1)))), x6_141]) (st' := [.int (hq_123 (hq_73 S 48 49) i2 (hq_73 S 48 49 48 (hq_75 (hq_73 S 48 49) i2 (Int32.ofInt 2)).toNatClampNeg) (Int32.ofInt 99)).1]) rfl rfl ?_
    refine hp_if (pc' := 204) rfl rfl (fun h2 => ?_) (fun h2 => ?_)
    · refine hp_sN [211] (pc' := 211) (L' := [some (.ref 47), some (.int i1), some (.int i2), some (.int v3), some (.int (hq_123 (hq_73 S 48 49) i2 (hq_73 S 48 49 48 (hq_75 (hq_73 S 48 49) i2 (Int32.ofInt 2)).toNatClampNeg) (Int32.ofInt 99)).1), some (.int (hq_149_141 i1 i2 ((((hq_123 (hq_73 S 48 49) i2 (hq_73 S 48 49 48 (hq_75 (hq_73 S 48 49) i2 (Int32.ofInt 2)).toNatClampNeg) (Int32.ofInt 99)).2 57 i1.toNatClampNeg).toInt - (Int32.ofInt 1).toInt).toNat + 1) ((hq_123 (hq_73 S 48 49) i2 (hq_73 S 48 49 48 (hq_75 (hq_73 S 48 49) i2 (Int32.ofInt 2)).toNatClampNeg) (Int32.ofInt 99)).2) (v3) ((hq_123 (hq_73 S 48 49) i2 (hq_73 S 48 49 48 (hq_75 (hq_73 S 48 49) i2 (Int32.ofInt 2)).toNatClampNeg) (Int32.ofInt 99)).1) ((Int32.ofInt 0)) ((Int32.ofInt 1)))), x6_141]) (st' := [.int (hq_149_141 i1 i2 ((((hq_123 (hq_73 S 48 49) i2 (hq_73 S 48 49 48 (hq_75 (hq_73 S 48 49) i2 (Int32.ofInt 2)).toNatClampNeg) (Int32.ofInt 99)).2 57 i1.toNatClampNeg).toInt - (Int32.ofInt 1).toInt).toNat + 1) ((hq_123 (hq_73 S 48 49) i2 (hq_73 S 48 49 48 (hq_75 (hq_73 S 48 49) i2 (Int32.ofInt 2)).toNatClampNeg) (Int32.ofInt 99)).2) (v3) ((hq_123 (hq_73 S 48 49) i2 (hq_73 S 48 49 48 (hq_75 (hq_73 S 48 49) i2 (Int32.ofInt 2)).toNatClampNeg) (Int32.ofInt 99)).1) ((Int32.ofInt 0)) ((Int32.ofInt 1)))]) rfl rfl ?_
      exact hp_Ris rfl
    · refine hp_sN [206, 211] (pc' := 211) (L' := [some (.ref 47), some (.int i1), some (.int i2), some (.int v3), some (.int (hq_123 (hq_73 S 48 49) i2 (hq_73 S 48 49 48 (hq_75 (hq_73 S 48 49) i2 (Int32.ofInt 2)).toNatClampNeg) (Int32.ofInt 99)).1), some (.int (hq_149_141 i1 i2 ((((hq_123 (hq_73 S 48 49) i2 (hq_73 S 48 49 48 (hq_75 (hq_73 S 48 49) i2 (Int32.ofInt 2)).toNatClampNeg) (Int32.ofInt 99)).2 57 i1.toNatClampNeg).toInt - (Int32.ofInt 1).toInt).toNat + 1) ((hq_123 (hq_73 S 48 49) i2 (hq_73 S 48 49 48 (hq_75 (hq_73 S 48 49) i2 (Int32.ofInt 2)).toNatClampNeg) (Int32.ofInt 99)).2) (v3) ((hq_123 (hq_73 S 48 49) i2 (hq_73 S 48 49 48 (hq_75 (hq_73 S 48 49) i2 (Int32.ofInt 2)).toNatClampNeg) (Int32.ofInt 99)).1) ((Int32.ofInt 0)) ((Int32.ofInt 1)))), x6_141]) (st' := [.int (Int32.ofInt (-4))]) rfl rfl ?_
      exact hp_Ris rfl
  · refine hp_sN [104] (pc' := 104) (L' := [some (.ref 47), some (.int i1), some (.int i2), some (.int v3), x4, x5, x6]) (st' := [.int v3]) rfl rfl ?_
    exact hp_Ris rfl
set_option maxRecDepth 10000 in
theorem ht_149_51 {X : hp_X} (i1 : Int32) (i2 : Int32) (S : hp_S) (v3 : Int32) (x4 : Option Value) (x5 : Option Value) (x6 : Option Value) (n : Nat) : hp_T n 149 51 [some (.ref 47), some (.int i1), some (.int i2), some (.int v3), x4, x5, x6] [] (hp_mem X S) (hp_is X) (hq_149_51 i1 i2 S v3) := by
  unfold hq_149_51
  refine hp_sN [52, 54] (pc' := 54) (L' := [some (.ref 47), some (.int i1), some (.int i2), some (.int v3), some (.int (Int32.ofInt 0)), x5, x6]) (st' := []) rfl rfl ?_
  refine ht_149_54 n i1 i2 S n (Nat.le_refl _) (((S 57 i1.toNatClampNeg).toInt - (Int32.ofInt 0).toInt).toNat + 1)  (v3) ((Int32.ofInt 0)) (x5) (x6) _ (Nat.lt_succ_self _) rfl (fun x5_54 x6_54 x4_54 => ?_)
  show hp_T _ 149 99 [some (.ref 47), some (.int i1), some (.int i2), some (.int (hq_149_54 i1 i2 (((S 57 i1.toNatClampNeg).toInt - (Int32.ofInt 0).toInt).toNat + 1) S (v3) ((Int32.ofInt 0)))), x4_54, x5_54, x6_54] _ (hp_mem X S) _ _
  exact ht_149_99 i1 i2 S ((hq_149_54 i1 i2 (((S 57 i1.toNatClampNeg).toInt - (Int32.ofInt 0).toInt).toNat + 1) S (v3) ((Int32.ofInt 0)))) (x4_54) (x5_54) (x6_54) n
set_option maxRecDepth 10000 in
theorem ht_149_35 {X : hp_X} (i1 : Int32) (i2 : Int32) (S : hp_S) (v3 : Int32) (x4 : Option Value) (x5 : Option Value) (x6 : Option Value) (n : Nat) : hp_T n 149 35 [some (.ref 47), some (.int i1), some (.int i2), some (.int v3), x4, x5, x6] [] (hp_mem X S) (hp_is X) (hq_149_35 i1 i2 S v3) := by
  unfold hq_149_35
  refine hp_sN [36] (pc' := 36) (L' := [some (.ref 47), some (.int i1), some (.int i2), some (.int v3), x4, x5, x6]) (st' := [.int v3]) rfl rfl ?_
  refine hp_if (pc' := 39) rfl rfl (fun h1 => ?_) (fun h1 => ?_)
  · exact ht_149_51 i1 i2 S (v3) (x4) (x5) (x6) n
  · refine hp_sN [40] (pc' := 40) (L' := [some (.ref 47), some (.int i1), some (.int i2), some (.int v3), x4, x5, x6]) (st' := [.ref 47]) rfl rfl ?_
    refine hp_gf (pc' := 43) rfl (by decide) (hp_c47 X _) rfl rfl ?_
    refine hp_sN [44] (pc' := 44) (L' := [some (.ref 47), some (.int i1), some (.int i2), some (.int v3), x4, x5, x6]) (st' := [.int i1, .ref 57]) rfl rfl ?_
    refine hp_al (pc' := 45) rfl (by decide) rfl rfl ?_
    refine hp_if (pc' := 48) rfl rfl (fun h2 => ?_) (fun h2 => ?_)
    · exact ht_149_51 i1 i2 S (v3) (x4) (x5) (x6) n
    · refine hp_sN [50, 51] (pc' := 51) (L' := [some (.ref 47), some (.int i1), some (.int i2), some (.int (Int32.ofInt (-13))), x4, x5, x6]) (st' := []) rfl rfl ?_
      exact ht_149_51 i1 i2 S ((Int32.ofInt (-13))) (x4) (x5) (x6) n
set_option maxRecDepth 10000 in
theorem ht_149 {X : hp_X} (S : hp_S) (i1 : Int32) (i2 : Int32) (n : Nat) : hp_T n 149 0 [some (.ref 47), some (.int i1), some (.int i2), none, none, none, none] [] (hp_mem X S) (hp_is X) (hq_149 S i1 i2) := by
  unfold hq_149
  refine hp_sN [1, 2] (pc' := 2) (L' := [some (.ref 47), some (.int i1), some (.int i2), none, none, none, none]) (st' := [.int i2, .ref 47]) rfl rfl ?_
  refine hp_iv (virt := true) (pc' := 5) (rv := some (.int (hq_77 S i2))) (M1 := hp_mem X (S)) rfl rfl (by decide) (hk_77 S (i2)) rfl rfl ?_
  show hp_T _ 149 5 _ [.int (hq_77 S i2)] _ _ _
  refine hp_if (pc' := 8) rfl rfl (fun h1 => ?_) (fun h1 => ?_)
  · refine hp_sN [11, 12, 13] (pc' := 13) (L' := [some (.ref 47), some (.int i1), some (.int i2), none, none, none, none]) (st' := [.int (Int32.ofInt (-1)), .int i1, .ref 47]) rfl rfl ?_
    refine hp_iv (virt := true) (pc' := 16) (rv := some (.int (hq_158 S i1 (Int32.ofInt (-1))))) (M1 := hp_mem X (S)) rfl rfl (by decide) (hk_158 S (i1) ((Int32.ofInt (-1)))) rfl rfl ?_
    show hp_T _ 149 16 _ [.int (hq_158 S i1 (Int32.ofInt (-1)))] _ _ _
    refine hp_sN [17, 18] (pc' := 18) (L' := [some (.ref 47), some (.int i1), some (.int i2), some (.int (hq_158 S i1 (Int32.ofInt (-1)))), none, none, none]) (st' := [.int (hq_158 S i1 (Int32.ofInt (-1)))]) rfl rfl ?_
    refine hp_if (pc' := 21) rfl rfl (fun h2 => ?_) (fun h2 => ?_)
    · exact ht_149_35 i1 i2 S ((hq_158 S i1 (Int32.ofInt (-1)))) (none) (none) (none) n
    · refine hp_sN [22] (pc' := 22) (L' := [some (.ref 47), some (.int i1), some (.int i2), some (.int (hq_158 S i1 (Int32.ofInt (-1)))), none, none, none]) (st' := [.ref 47]) rfl rfl ?_
      refine hp_gf (pc' := 25) rfl (by decide) (hp_c47 X _) rfl rfl ?_
      refine hp_sN [26] (pc' := 26) (L' := [some (.ref 47), some (.int i1), some (.int i2), some (.int (hq_158 S i1 (Int32.ofInt (-1)))), none, none, none]) (st' := [.int i2, .ref 48]) rfl rfl ?_
      refine hp_iv (virt := false) (pc' := 29) (rv := some (.int (hq_85 S 48 i2))) (M1 := hp_mem X (S)) rfl rfl (by decide) (hk_85 (Or.inl rfl) S (i2)) rfl rfl ?_
      show hp_T _ 149 29 _ [.int (hq_85 S 48 i2)] _ _ _
      refine hp_if (pc' := 32) rfl rfl (fun h3 => ?_) (fun h3 => ?_)
      · exact ht_149_35 i1 i2 S ((hq_158 S i1 (Int32.ofInt (-1)))) (none) (none) (none) n
      · refine hp_sN [34, 35] (pc' := 35) (L' := [some (.ref 47), some (.int i1), some (.int i2), some (.int (Int32.ofInt (-3))), none, none, none]) (st' := []) rfl rfl ?_
        exact ht_149_35 i1 i2 S ((Int32.ofInt (-3))) (none) (none) (none) n
  · refine hp_sN [9] (pc' := 9) (L' := [some (.ref 47), some (.int i1), some (.int i2), none, none, none, none]) (st' := [.int (Int32.ofInt (-1))]) rfl rfl ?_
    exact hp_Ris rfl
theorem hk_149 {X : hp_X} (S : hp_S) (i1 : Int32) (i2 : Int32) : hp_K 149 [.ref 47, .int i1, .int i2] (hp_mem X S) (hp_is X) (hq_149 S i1 i2) := by
  refine hp_mk (q := hzq_149) rfl (by decide) (L := [some (.ref 47), some (.int i1), some (.int i2), none, none, none, none]) rfl (fun n => ?_)
  exact ht_149 S i1 i2 n
/-! 150: HatsOfTheWindModel.forged(II)I -/
def hq_150_26 (i1 : Int32) (i2 : Int32) : Nat → hp_S → Int32 → Int32 → Int32
  | 0, S, _, _ => 0
  | m + 1, S, v3, v4 => (if hz_cmp .ge v4 (S 57 i1.toNatClampNeg) = true then (Int32.ofInt (-4)) else (if hz_cmp .ne (hq_70 S (S 58 (((Int32.ofInt 100) * i1) + v4).toNatClampNeg) (Int32.ofInt 0) (Int32.ofInt 21)) 0 = true then (if hz_cmp .ne v4 0 = true then (if hz_cmp .le v4 0 = true then hq_150_26 i1 i2 m S v3 (v4 + (Int32.ofInt 1)) else (if hz_cmp .eq (S 58 (((Int32.ofInt 100) * i1) + v4).toNatClampNeg) (hq_90 S 48 i2 (S 58 ((((Int32.ofInt 100) * i1) + v4) - (Int32.ofInt 1)).toNatClampNeg) (hq_84 S 48 (S 58 ((((Int32.ofInt 100) * i1) + v4) - (Int32.ofInt 1)).toNatClampNeg) ((((S 48 (Int32.ofInt 2).toNatClampNeg) + v4) - (Int32.ofInt 1)) - (((S 48 (Int32.ofInt 2).toNatClampNeg) + v4) - (Int32.ofInt 1)) / (Int32.ofInt 24) * (Int32.ofInt 24)) (Int32.ofInt 0))) = true then hq_150_26 i1 i2 m S v3 (v4 + (Int32.ofInt 1)) else v4)) else (if hz_cmp .le v4 0 = true then hq_150_26 i1 i2 m S v3 (v4 + (Int32.ofInt 1)) else (if hz_cmp .eq (S 58 (((Int32.ofInt 100) * i1) + v4).toNatClampNeg) (hq_90 S 48 i2 (Int32.ofInt 0) (hq_84 S 48 (Int32.ofInt 0) ((((S 48 (Int32.ofInt 2).toNatClampNeg) + v4) - (Int32.ofInt 1)) - (((S 48 (Int32.ofInt 2).toNatClampNeg) + v4) - (Int32.ofInt 1)) / (Int32.ofInt 24) * (Int32.ofInt 24)) (Int32.ofInt 0))) = true then hq_150_26 i1 i2 m S v3 (v4 + (Int32.ofInt 1)) else v4))) else v4))
def hq_150 (S : hp_S) (i1 : Int32) (i2 : Int32) : Int32 := (if hz_cmp .ne (hq_77 S i2) 0 = true then (if hz_cmp .eq (hq_158 S i1 (Int32.ofInt (-1))) 0 = true then (hq_150_26 i1 i2 (((S 57 i1.toNatClampNeg).toInt - (Int32.ofInt 0).toInt).toNat + 1) S ((hq_158 S i1 (Int32.ofInt (-1)))) ((Int32.ofInt 0))) else (hq_158 S i1 (Int32.ofInt (-1)))) else (Int32.ofInt (-1)))
set_option maxRecDepth 10000 in
theorem ht_150_26 {X : hp_X} (i1 : Int32) (i2 : Int32) (S : hp_S) : ∀ (n m : Nat) (v3 : Int32) (v4 : Int32) (x5 : Option Value) (x6 : Option Value), ((S 57 i1.toNatClampNeg).toInt - v4.toInt).toNat < m → hp_T n 150 26 [some (.ref 47), some (.int i1), some (.int i2), some (.int v3), some (.int v4), x5, x6] [] (hp_mem X S) (hp_i X S) (hq_150_26 i1 i2 m S v3 v4) := by
  intro n
  induction n with
  | zero => intros; exact hp_0
  | succ n ih =>
    intro m v3 v4 x5 x6 hm
    cases m with
    | zero => exact absurd hm (Nat.not_lt_zero _)
    | succ m =>
      rw [hq_150_26]
      refine hp_sN [28, 29] (pc' := 29) (L' := [some (.ref 47), some (.int i1), some (.int i2), some (.int v3), some (.int v4), x5, x6]) (st' := [.ref 47, .int v4]) rfl rfl ?_
      refine hp_gf (pc' := 32) rfl (by decide) (hp_c47 X _) rfl rfl ?_
      refine hp_sN [33] (pc' := 33) (L' := [some (.ref 47), some (.int i1), some (.int i2), some (.int v3), some (.int v4), x5, x6]) (st' := [.int i1, .ref 57, .int v4]) rfl rfl ?_
      refine hp_al (pc' := 34) rfl (by decide) rfl rfl ?_
      refine hp_ic (pc' := 37) rfl rfl (fun h1 => ?_) (fun h1 => ?_)
      · refine hp_sN [145] (pc' := 145) (L' := [some (.ref 47), some (.int i1), some (.int i2), some (.int v3), some (.int v4), x5, x6]) (st' := [.int (Int32.ofInt (-4))]) rfl rfl ?_
        exact hp_Ri rfl
      · refine hp_sN [38] (pc' := 38) (L' := [some (.ref 47), some (.int i1), some (.int i2), some (.int v3), some (.int v4), x5, x6]) (st' := [.ref 47]) rfl rfl ?_
        refine hp_gf (pc' := 41) rfl (by decide) (hp_c47 X _) rfl rfl ?_
        refine hp_sN [43, 44, 45, 47, 48] (pc' := 48) (L' := [some (.ref 47), some (.int i1), some (.int i2), some (.int v3), some (.int v4), x5, x6]) (st' := [.int (((Int32.ofInt 100) * i1) + v4), .ref 58]) rfl rfl ?_
        refine hp_al (pc' := 49) rfl (by decide) rfl rfl ?_
        refine hp_sN [51, 53, 54, 56] (pc' := 56) (L' := [some (.ref 47), some (.int i1), some (.int i2), some (.int v3), some (.int v4), some (.int (S 58 (((Int32.ofInt 100) * i1) + v4).toNatClampNeg)), x6]) (st' := [.int (Int32.ofInt 21), .int (Int32.ofInt 0), .int (S 58 (((Int32.ofInt 100) * i1) + v4).toNatClampNeg)]) rfl rfl ?_
        refine hp_iv (virt := false) (pc' := 59) (rv := some (.int (hq_70 S (S 58 (((Int32.ofInt 100) * i1) + v4).toNatClampNeg) (Int32.ofInt 0) (Int32.ofInt 21)))) (M1 := hp_mem X (S)) rfl rfl (by decide) (hk_70 S ((S 58 (((Int32.ofInt 100) * i1) + v4).toNatClampNeg)) ((Int32.ofInt 0)) ((Int32.ofInt 21))) rfl rfl ?_
        show hp_T _ 150 59 _ [.int (hq_70 S (S 58 (((Int32.ofInt 100) * i1) + v4).toNatClampNeg) (Int32.ofInt 0) (Int32.ofInt 21))] _ _ _
        refine hp_if (pc' := 62) rfl rfl (fun h2 => ?_) (fun h2 => ?_)
        · refine hp_sN [67] (pc' := 67) (L' := [some (.ref 47), some (.int i1), some (.int i2), some (.int v3), some (.int v4), some (.int (S 58 (((Int32.ofInt 100) * i1) + v4).toNatClampNeg)), x6]) (st' := [.int v4]) rfl rfl ?_
          refine hp_if (pc' := 70) rfl rfl (fun h3 => ?_) (fun h3 => ?_)
          · refine hp_sN [75] (pc' := 75) (L' := [some (.ref 47), some (.int i1), some (.int i2), some (.int v3), some (.int v4), some (.int (S 58 (((Int32.ofInt 100) * i1) + v4).toNatClampNeg)), x6]) (st' := [.ref 47]) rfl rfl ?_
            refine hp_gf (pc' := 78) rfl (by decide) (hp_c47 X _) rfl rfl ?_
            refine hp_sN [80, 81, 82, 84, 85, 86, 87] (pc' := 87) (L' := [some (.ref 47), some (.int i1), some (.int i2), some (.int v3), some (.int v4), some (.int (S 58 (((Int32.ofInt 100) * i1) + v4).toNatClampNeg)), x6]) (st' := [.int ((((Int32.ofInt 100) * i1) + v4) - (Int32.ofInt 1)), .ref 58]) rfl rfl ?_
            refine hp_al (pc' := 88) rfl (by decide) rfl rfl ?_
            refine hp_sN [90, 92] (pc' := 92) (L' := [some (.ref 47), some (.int i1), some (.int i2), some (.int v3), some (.int v4), some (.int (S 58 (((Int32.ofInt 100) * i1) + v4).toNatClampNeg)), some (.int (S 58 ((((Int32.ofInt 100) * i1) + v4) - (Int32.ofInt 1)).toNatClampNeg))]) (st' := [.int v4]) rfl rfl ?_
            refine hp_if (pc' := 95) rfl rfl (fun h4 => ?_) (fun h4 => ?_)
            · refine hp_sB 140 [26] (pc' := 26) (L' := [some (.ref 47), some (.int i1), some (.int i2), some (.int v3), some (.int (v4 + (Int32.ofInt 1))), some (.int (S 58 (((Int32.ofInt 100) * i1) + v4).toNatClampNeg)), some (.int (S 58 ((((Int32.ofInt 100) * i1) + v4) - (Int32.ofInt 1)).toNatClampNeg))]) (st' := []) rfl rfl ?_
              exact ih m (v3) ((v4 + (Int32.ofInt 1))) (some (.int (S 58 (((Int32.ofInt 100) * i1) + v4).toNatClampNeg))) (some (.int (S 58 ((((Int32.ofInt 100) * i1) + v4) - (Int32.ofInt 1)).toNatClampNeg))) (hp_up h1 hm)
            · refine hp_sN [97, 98] (pc' := 98) (L' := [some (.ref 47), some (.int i1), some (.int i2), some (.int v3), some (.int v4), some (.int (S 58 (((Int32.ofInt 100) * i1) + v4).toNatClampNeg)), some (.int (S 58 ((((Int32.ofInt 100) * i1) + v4) - (Int32.ofInt 1)).toNatClampNeg))]) (st' := [.ref 47, .int (S 58 (((Int32.ofInt 100) * i1) + v4).toNatClampNeg)]) rfl rfl ?_
              refine hp_gf (pc' := 101) rfl (by decide) (hp_c47 X _) rfl rfl ?_
              refine hp_sN [102, 104, 105] (pc' := 105) (L' := [some (.ref 47), some (.int i1), some (.int i2), some (.int v3), some (.int v4), some (.int (S 58 (((Int32.ofInt 100) * i1) + v4).toNatClampNeg)), some (.int (S 58 ((((Int32.ofInt 100) * i1) + v4) - (Int32.ofInt 1)).toNatClampNeg))]) (st' := [.ref 47, .int (S 58 ((((Int32.ofInt 100) * i1) + v4) - (Int32.ofInt 1)).toNatClampNeg), .int i2, .ref 48, .int (S 58 (((Int32.ofInt 100) * i1) + v4).toNatClampNeg)]) rfl rfl ?_
              refine hp_gf (pc' := 108) rfl (by decide) (hp_c47 X _) rfl rfl ?_
              refine hp_sN [110, 111] (pc' := 111) (L' := [some (.ref 47), some (.int i1), some (.int i2), some (.int v3), some (.int v4), some (.int (S 58 (((Int32.ofInt 100) * i1) + v4).toNatClampNeg)), some (.int (S 58 ((((Int32.ofInt 100) * i1) + v4) - (Int32.ofInt 1)).toNatClampNeg))]) (st' := [.ref 47, .int (S 58 ((((Int32.ofInt 100) * i1) + v4) - (Int32.ofInt 1)).toNatClampNeg), .ref 48, .int (S 58 ((((Int32.ofInt 100) * i1) + v4) - (Int32.ofInt 1)).toNatClampNeg), .int i2, .ref 48, .int (S 58 (((Int32.ofInt 100) * i1) + v4).toNatClampNeg)]) rfl rfl ?_
              refine hp_gf (pc' := 114) rfl (by decide) (hp_c47 X _) rfl rfl ?_
              refine hp_sN [115] (pc' := 115) (L' := [some (.ref 47), some (.int i1), some (.int i2), some (.int v3), some (.int v4), some (.int (S 58 (((Int32.ofInt 100) * i1) + v4).toNatClampNeg)), some (.int (S 58 ((((Int32.ofInt 100) * i1) + v4) - (Int32.ofInt 1)).toNatClampNeg))]) (st' := [.int (Int32.ofInt 2), .ref 48, .int (S 58 ((((Int32.ofInt 100) * i1) + v4) - (Int32.ofInt 1)).toNatClampNeg), .ref 48, .int (S 58 ((((Int32.ofInt 100) * i1) + v4) - (Int32.ofInt 1)).toNatClampNeg), .int i2, .ref 48, .int (S 58 (((Int32.ofInt 100) * i1) + v4).toNatClampNeg)]) rfl rfl ?_
              refine hp_al (pc' := 116) rfl (hp_cl (Or.inl rfl)) (hp_cc (Or.inl rfl) X _) rfl ?_
              refine hp_sN [118, 119, 120, 121, 123] (pc' := 123) (L' := [some (.ref 47), some (.int i1), some (.int i2), some (.int v3), some (.int v4), some (.int (S 58 (((Int32.ofInt 100) * i1) + v4).toNatClampNeg)), some (.int (S 58 ((((Int32.ofInt 100) * i1) + v4) - (Int32.ofInt 1)).toNatClampNeg))]) (st' := [.int (Int32.ofInt 24), .int (((S 48 (Int32.ofInt 2).toNatClampNeg) + v4) - (Int32.ofInt 1)), .int (S 58 ((((Int32.ofInt 100) * i1) + v4) - (Int32.ofInt 1)).toNatClampNeg), .ref 48, .int (S 58 ((((Int32.ofInt 100) * i1) + v4) - (Int32.ofInt 1)).toNatClampNeg), .int i2, .ref 48, .int (S 58 (((Int32.ofInt 100) * i1) + v4).toNatClampNeg)]) rfl rfl ?_
              refine hp_ri2 (pc' := 124) rfl rfl ?_
              refine hp_sN [125] (pc' := 125) (L' := [some (.ref 47), some (.int i1), some (.int i2), some (.int v3), some (.int v4), some (.int (S 58 (((Int32.ofInt 100) * i1) + v4).toNatClampNeg)), some (.int (S 58 ((((Int32.ofInt 100) * i1) + v4) - (Int32.ofInt 1)).toNatClampNeg))]) (st' := [.int (Int32.ofInt 0), .int ((((S 48 (Int32.ofInt 2).toNatClampNeg) + v4) - (Int32.ofInt 1)) - (((S 48 (Int32.ofInt 2).toNatClampNeg) + v4) - (Int32.ofInt 1)) / (Int32.ofInt 24) * (Int32.ofInt 24)), .int (S 58 ((((Int32.ofInt 100) * i1) + v4) - (Int32.ofInt 1)).toNatClampNeg), .ref 48, .int (S 58 ((((Int32.ofInt 100) * i1) + v4) - (Int32.ofInt 1)).toNatClampNeg), .int i2, .ref 48, .int (S 58 (((Int32.ofInt 100) * i1) + v4).toNatClampNeg)]) rfl rfl ?_
              refine hp_iv (virt := false) (pc' := 128) (rv := some (.int (hq_84 S 48 (S 58 ((((Int32.ofInt 100) * i1) + v4) - (Int32.ofInt 1)).toNatClampNeg) ((((S 48 (Int32.ofInt 2).toNatClampNeg) + v4) - (Int32.ofInt 1)) - (((S 48 (Int32.ofInt 2).toNatClampNeg) + v4) - (Int32.ofInt 1)) / (Int32.ofInt 24) * (Int32.ofInt 24)) (Int32.ofInt 0)))) (M1 := hp_mem X (S)) rfl rfl (by decide) (hk_84 (Or.inl rfl) S ((S 58 ((((Int32.ofInt 100) * i1) + v4) - (Int32.ofInt 1)).toNatClampNeg)) (((((S 48 (Int32.ofInt 2).toNatClampNeg) + v4) - (Int32.ofInt 1)) - (((S 48 (Int32.ofInt 2).toNatClampNeg) + v4) - (Int32.ofInt 1)) / (Int32.ofInt 24) * (Int32.ofInt 24))) ((Int32.ofInt 0))) rfl rfl ?_
              show hp_T _ 150 128 _ [.int (hq_84 S 48 (S 58 ((((Int32.ofInt 100) * i1) + v4) - (Int32.ofInt 1)).toNatClampNeg) ((((S 48 (Int32.ofInt 2).toNatClampNeg) + v4) - (Int32.ofInt 1)) - (((S 48 (Int32.ofInt 2).toNatClampNeg) + v4) - (Int32.ofInt 1)) / (Int32.ofInt 24) * (Int32.ofInt 24)) (Int32.ofInt 0)), .int (S 58 ((((Int32.ofInt 100) * i1) + v4) - (Int32.ofInt 1)).toNatClampNeg), .int i2, .ref 48, .int (S 58 (((Int32.ofInt 100) * i1) + v4).toNatClampNeg)] _ _ _
              refine hp_iv (virt := false) (pc' := 131) (rv := some (.int (hq_90 S 48 i2 (S 58 ((((Int32.ofInt 100) * i1) + v4) - (Int32.ofInt 1)).toNatClampNeg) (hq_84 S 48 (S 58 ((((Int32.ofInt 100) * i1) + v4) - (Int32.ofInt 1)).toNatClampNeg) ((((S 48 (Int32.ofInt 2).toNatClampNeg) + v4) - (Int32.ofInt 1)) - (((S 48 (Int32.ofInt 2).toNatClampNeg) + v4) - (Int32.ofInt 1)) / (Int32.ofInt 24) * (Int32.ofInt 24)) (Int32.ofInt 0))))) (M1 := hp_mem X (S)) rfl rfl (by decide) (hk_90 (Or.inl rfl) S (i2) ((S 58 ((((Int32.ofInt 100) * i1) + v4) - (Int32.ofInt 1)).toNatClampNeg)) ((hq_84 S 48 (S 58 ((((Int32.ofInt 100) * i1) + v4) - (Int32.ofInt 1)).toNatClampNeg) ((((S 48 (Int32.ofInt 2).toNatClampNeg) + v4) - (Int32.ofInt 1)) - (((S 48 (Int32.ofInt 2).toNatClampNeg) + v4) - (Int32.ofInt 1)) / (Int32.ofInt 24) * (Int32.ofInt 24)) (Int32.ofInt 0)))) rfl rfl ?_
              show hp_T _ 150 131 _ [.int (hq_90 S 48 i2 (S 58 ((((Int32.ofInt 100) * i1) + v4) - (Int32.ofInt 1)).toNatClampNeg) (hq_84 S 48 (S 58 ((((Int32.ofInt 100) * i1) + v4) - (Int32.ofInt 1)).toNatClampNeg) ((((S 48 (Int32.ofInt 2).toNatClampNeg) + v4) - (Int32.ofInt 1)) - (((S 48 (Int32.ofInt 2).toNatClampNeg) + v4) - (Int32.ofInt 1)) / (Int32.ofInt 24) * (Int32.ofInt 24)) (Int32.ofInt 0))), .int (S 58 (((Int32.ofInt 100) * i1) + v4).toNatClampNeg)] _ _ _
              refine hp_ic (pc' := 134) rfl rfl (fun h5 => ?_) (fun h5 => ?_)
              · refine hp_sB 140 [26] (pc' := 26) (L' := [some (.ref 47), some (.int i1), some (.int i2), some (.int v3), some (.int (v4 + (Int32.ofInt 1))), some (.int (S 58 (((Int32.ofInt 100) * i1) + v4).toNatClampNeg)), some (.int (S 58 ((((Int32.ofInt 100) * i1) + v4) - (Int32.ofInt 1)).toNatClampNeg))]) (st' := []) rfl rfl ?_
                exact ih m (v3) ((v4 + (Int32.ofInt 1))) (some (.int (S 58 (((Int32.ofInt 100) * i1) + v4).toNatClampNeg))) (some (.int (S 58 ((((Int32.ofInt 100) * i1) + v4) - (Int32.ofInt 1)).toNatClampNeg))) (hp_up h1 hm)
              · refine hp_sN [136] (pc' := 136) (L' := [some (.ref 47), some (.int i1), some (.int i2), some (.int v3), some (.int v4), some (.int (S 58 (((Int32.ofInt 100) * i1) + v4).toNatClampNeg)), some (.int (S 58 ((((Int32.ofInt 100) * i1) + v4) - (Int32.ofInt 1)).toNatClampNeg))]) (st' := [.int v4]) rfl rfl ?_
                exact hp_Ri rfl
          · refine hp_sN [71, 88, 90, 92] (pc' := 92) (L' := [some (.ref 47), some (.int i1), some (.int i2), some (.int v3), some (.int v4), some (.int (S 58 (((Int32.ofInt 100) * i1) + v4).toNatClampNeg)), some (.int (Int32.ofInt 0))]) (st' := [.int v4]) rfl rfl ?_
            refine hp_if (pc' := 95) rfl rfl (fun h6 => ?_) (fun h6 => ?_)
            · refine hp_sB 140 [26] (pc' := 26) (L' := [some (.ref 47), some (.int i1), some (.int i2), some (.int v3), some (.int (v4 + (Int32.ofInt 1))), some (.int (S 58 (((Int32.ofInt 100) * i1) + v4).toNatClampNeg)), some (.int (Int32.ofInt 0))]) (st' := []) rfl rfl ?_
              exact ih m (v3) ((v4 + (Int32.ofInt 1))) (some (.int (S 58 (((Int32.ofInt 100) * i1) + v4).toNatClampNeg))) (some (.int (Int32.ofInt 0))) (hp_up h1 hm)
            · refine hp_sN [97, 98] (pc' := 98) (L' := [some (.ref 47), some (.int i1), some (.int i2), some (.int v3), some (.int v4), some (.int (S 58 (((Int32.ofInt 100) * i1) + v4).toNatClampNeg)), some (.int (Int32.ofInt 0))]) (st' := [.ref 47, .int (S 58 (((Int32.ofInt 100) * i1) + v4).toNatClampNeg)]) rfl rfl ?_
              refine hp_gf (pc' := 101) rfl (by decide) (hp_c47 X _) rfl rfl ?_
              refine hp_sN [102, 104, 105] (pc' := 105) (L' := [some (.ref 47), some (.int i1), some (.int i2), some (.int v3), some (.int v4), some (.int (S 58 (((Int32.ofInt 100) * i1) + v4).toNatClampNeg)), some (.int (Int32.ofInt 0))]) (st' := [.ref 47, .int (Int32.ofInt 0), .int i2, .ref 48, .int (S 58 (((Int32.ofInt 100) * i1) + v4).toNatClampNeg)]) rfl rfl ?_
              refine hp_gf (pc' := 108) rfl (by decide) (hp_c47 X _) rfl rfl ?_
              refine hp_sN [110, 111] (pc' := 111) (L' := [some (.ref 47), some (.int i1), some (.int i2), some (.int v3), some (.int v4), some (.int (S 58 (((Int32.ofInt 100) * i1) + v4).toNatClampNeg)), some (.int (Int32.ofInt 0))]) (st' := [.ref 47, .int (Int32.ofInt 0), .ref 48, .int (Int32.ofInt 0), .int i2, .ref 48, .int (S 58 (((Int32.ofInt 100) * i1) + v4).toNatClampNeg)]) rfl rfl ?_
              refine hp_gf (pc' := 114) rfl (by decide) (hp_c47 X _) rfl rfl ?_
              refine hp_sN [115] (pc' := 115) (L' := [some (.ref 47), some (.int i1), some (.int i2), some (.int v3), some (.int v4), some (.int (S 58 (((Int32.ofInt 100) * i1) + v4).toNatClampNeg)), some (.int (Int32.ofInt 0))]) (st' := [.int (Int32.ofInt 2), .ref 48, .int (Int32.ofInt 0), .ref 48, .int (Int32.ofInt 0), .int i2, .ref 48, .int (S 58 (((Int32.ofInt 100) * i1) + v4).toNatClampNeg)]) rfl rfl ?_
              refine hp_al (pc' := 116) rfl (hp_cl (Or.inl rfl)) (hp_cc (Or.inl rfl) X _) rfl ?_
              refine hp_sN [118, 119, 120, 121, 123] (pc' := 123) (L' := [some (.ref 47), some (.int i1), some (.int i2), some (.int v3), some (.int v4), some (.int (S 58 (((Int32.ofInt 100) * i1) + v4).toNatClampNeg)), some (.int (Int32.ofInt 0))]) (st' := [.int (Int32.ofInt 24), .int (((S 48 (Int32.ofInt 2).toNatClampNeg) + v4) - (Int32.ofInt 1)), .int (Int32.ofInt 0), .ref 48, .int (Int32.ofInt 0), .int i2, .ref 48, .int (S 58 (((Int32.ofInt 100) * i1) + v4).toNatClampNeg)]) rfl rfl ?_
              refine hp_ri2 (pc' := 124) rfl rfl ?_
              refine hp_sN [125] (pc' := 125) (L' := [some (.ref 47), some (.int i1), some (.int i2), some (.int v3), some (.int v4), some (.int (S 58 (((Int32.ofInt 100) * i1) + v4).toNatClampNeg)), some (.int (Int32.ofInt 0))]) (st' := [.int (Int32.ofInt 0), .int ((((S 48 (Int32.ofInt 2).toNatClampNeg) + v4) - (Int32.ofInt 1)) - (((S 48 (Int32.ofInt 2).toNatClampNeg) + v4) - (Int32.ofInt 1)) / (Int32.ofInt 24) * (Int32.ofInt 24)), .int (Int32.ofInt 0), .ref 48, .int (Int32.ofInt 0), .int i2, .ref 48, .int (S 58 (((Int32.ofInt 100) * i1) + v4).toNatClampNeg)]) rfl rfl ?_
              refine hp_iv (virt := false) (pc' := 128) (rv := some (.int (hq_84 S 48 (Int32.ofInt 0) ((((S 48 (Int32.ofInt 2).toNatClampNeg) + v4) - (Int32.ofInt 1)) - (((S 48 (Int32.ofInt 2).toNatClampNeg) + v4) - (Int32.ofInt 1)) / (Int32.ofInt 24) * (Int32.ofInt 24)) (Int32.ofInt 0)))) (M1 := hp_mem X (S)) rfl rfl (by decide) (hk_84 (Or.inl rfl) S ((Int32.ofInt 0)) (((((S 48 (Int32.ofInt 2).toNatClampNeg) + v4) - (Int32.ofInt 1)) - (((S 48 (Int32.ofInt 2).toNatClampNeg) + v4) - (Int32.ofInt 1)) / (Int32.ofInt 24) * (Int32.ofInt 24))) ((Int32.ofInt 0))) rfl rfl ?_
              show hp_T _ 150 128 _ [.int (hq_84 S 48 (Int32.ofInt 0) ((((S 48 (Int32.ofInt 2).toNatClampNeg) + v4) - (Int32.ofInt 1)) - (((S 48 (Int32.ofInt 2).toNatClampNeg) + v4) - (Int32.ofInt 1)) / (Int32.ofInt 24) * (Int32.ofInt 24)) (Int32.ofInt 0)), .int (Int32.ofInt 0), .int i2, .ref 48, .int (S 58 (((Int32.ofInt 100) * i1) + v4).toNatClampNeg)] _ _ _
              refine hp_iv (virt := false) (pc' := 131) (rv := some (.int (hq_90 S 48 i2 (Int32.ofInt 0) (hq_84 S 48 (Int32.ofInt 0) ((((S 48 (Int32.ofInt 2).toNatClampNeg) + v4) - (Int32.ofInt 1)) - (((S 48 (Int32.ofInt 2).toNatClampNeg) + v4) - (Int32.ofInt 1)) / (Int32.ofInt 24) * (Int32.ofInt 24)) (Int32.ofInt 0))))) (M1 := hp_mem X (S)) rfl rfl (by decide) (hk_90 (Or.inl rfl) S (i2) ((Int32.ofInt 0)) ((hq_84 S 48 (Int32.ofInt 0) ((((S 48 (Int32.ofInt 2).toNatClampNeg) + v4) - (Int32.ofInt 1)) - (((S 48 (Int32.ofInt 2).toNatClampNeg) + v4) - (Int32.ofInt 1)) / (Int32.ofInt 24) * (Int32.ofInt 24)) (Int32.ofInt 0)))) rfl rfl ?_
              show hp_T _ 150 131 _ [.int (hq_90 S 48 i2 (Int32.ofInt 0) (hq_84 S 48 (Int32.ofInt 0) ((((S 48 (Int32.ofInt 2).toNatClampNeg) + v4) - (Int32.ofInt 1)) - (((S 48 (Int32.ofInt 2).toNatClampNeg) + v4) - (Int32.ofInt 1)) / (Int32.ofInt 24) * (Int32.ofInt 24)) (Int32.ofInt 0))), .int (S 58 (((Int32.ofInt 100) * i1) + v4).toNatClampNeg)] _ _ _
              refine hp_ic (pc' := 134) rfl rfl (fun h7 => ?_) (fun h7 => ?_)
              · refine hp_sB 140 [26] (pc' := 26) (L' := [some (.ref 47), some (.int i1), some (.int i2), some (.int v3), some (.int (v4 + (Int32.ofInt 1))), some (.int (S 58 (((Int32.ofInt 100) * i1) + v4).toNatClampNeg)), some (.int (Int32.ofInt 0))]) (st' := []) rfl rfl ?_
                exact ih m (v3) ((v4 + (Int32.ofInt 1))) (some (.int (S 58 (((Int32.ofInt 100) * i1) + v4).toNatClampNeg))) (some (.int (Int32.ofInt 0))) (hp_up h1 hm)
              · refine hp_sN [136] (pc' := 136) (L' := [some (.ref 47), some (.int i1), some (.int i2), some (.int v3), some (.int v4), some (.int (S 58 (((Int32.ofInt 100) * i1) + v4).toNatClampNeg)), some (.int (Int32.ofInt 0))]) (st' := [.int v4]) rfl rfl ?_
                exact hp_Ri rfl
        · refine hp_sN [64] (pc' := 64) (L' := [some (.ref 47), some (.int i1), some (.int i2), some (.int v3), some (.int v4), some (.int (S 58 (((Int32.ofInt 100) * i1) + v4).toNatClampNeg)), x6]) (st' := [.int v4]) rfl rfl ?_
          exact hp_Ri rfl
set_option maxRecDepth 10000 in
theorem ht_150 {X : hp_X} (S : hp_S) (i1 : Int32) (i2 : Int32) (n : Nat) : hp_T n 150 0 [some (.ref 47), some (.int i1), some (.int i2), none, none, none, none] [] (hp_mem X S) (hp_i X S) (hq_150 S i1 i2) := by
  unfold hq_150
  refine hp_sN [1, 2] (pc' := 2) (L' := [some (.ref 47), some (.int i1), some (.int i2), none, none, none, none]) (st' := [.int i2, .ref 47]) rfl rfl ?_
  refine hp_iv (virt := true) (pc' := 5) (rv := some (.int (hq_77 S i2))) (M1 := hp_mem X (S)) rfl rfl (by decide) (hk_77 S (i2)) rfl rfl ?_
  show hp_T _ 150 5 _ [.int (hq_77 S i2)] _ _ _
  refine hp_if (pc' := 8) rfl rfl (fun h1 => ?_) (fun h1 => ?_)
  · refine hp_sN [11, 12, 13] (pc' := 13) (L' := [some (.ref 47), some (.int i1), some (.int i2), none, none, none, none]) (st' := [.int (Int32.ofInt (-1)), .int i1, .ref 47]) rfl rfl ?_
    refine hp_iv (virt := true) (pc' := 16) (rv := some (.int (hq_158 S i1 (Int32.ofInt (-1))))) (M1 := hp_mem X (S)) rfl rfl (by decide) (hk_158 S (i1) ((Int32.ofInt (-1)))) rfl rfl ?_
    show hp_T _ 150 16 _ [.int (hq_158 S i1 (Int32.ofInt (-1)))] _ _ _
    refine hp_sN [17, 18] (pc' := 18) (L' := [some (.ref 47), some (.int i1), some (.int i2), some (.int (hq_158 S i1 (Int32.ofInt (-1)))), none, none, none]) (st' := [.int (hq_158 S i1 (Int32.ofInt (-1)))]) rfl rfl ?_
    refine hp_if (pc' := 21) rfl rfl (fun h2 => ?_) (fun h2 => ?_)
    · refine hp_sN [24, 26] (pc' := 26) (L' := [some (.ref 47), some (.int i1), some (.int i2), some (.int (hq_158 S i1 (Int32.ofInt (-1)))), some (.int (Int32.ofInt 0)), none, none]) (st' := []) rfl rfl ?_
      exact ht_150_26 i1 i2 S n (((S 57 i1.toNatClampNeg).toInt - (Int32.ofInt 0).toInt).toNat + 1)  ((hq_158 S i1 (Int32.ofInt (-1)))) ((Int32.ofInt 0)) (none) (none) (Nat.lt_succ_self _)
    · refine hp_sN [22] (pc' := 22) (L' := [some (.ref 47), some (.int i1), some (.int i2), some (.int (hq_158 S i1 (Int32.ofInt (-1)))), none, none, none]) (st' := [.int (hq_158 S i1 (Int32.ofInt (-1)))]) rfl rfl ?_
      exact hp_Ri rfl
  · refine hp_sN [9] (pc' := 9) (L' := [some (.ref 47), some (.int i1), some (.int i2), none, none, none, none]) (st' := [.int (Int32.ofInt (-1))]) rfl rfl ?_
    exact hp_Ri rfl
theorem hk_150 {X : hp_X} (S : hp_S) (i1 : Int32) (i2 : Int32) : hp_K 150 [.ref 47, .int i1, .int i2] (hp_mem X S) (hp_i X S) (hq_150 S i1 i2) := by
  refine hp_mk (q := hzq_150) rfl (by decide) (L := [some (.ref 47), some (.int i1), some (.int i2), none, none, none, none]) rfl (fun n => ?_)
  exact ht_150 S i1 i2 n
/-! 151: HatsOfTheWindModel.judge(I)I -/
def hq_151_26 (i1 : Int32) : Nat → hp_S → Int32 → Int32 → Int32 × hp_S
  | 0, S, _, _ => (0, S)
  | m + 1, S, v2, v3 => (if hz_cmp .ge v3 (S 57 i1.toNatClampNeg) = true then ((Int32.ofInt (-4)), S) else (if hz_cmp .eq (S 58 (((Int32.ofInt 100) * i1) + v3).toNatClampNeg) (hq_140 S (S 56 i1.toNatClampNeg)) = true then hq_151_26 i1 m (hq_93 S 49 (Int32.ofInt 0)) v2 (v3 + (Int32.ofInt 1)) else (if hz_cmp .eq (S 58 (((Int32.ofInt 100) * i1) + v3).toNatClampNeg) (hq_80 S (hq_96 S 49)) = true then hq_151_26 i1 m (hq_93 S 49 (Int32.ofInt 0)) v2 (v3 + (Int32.ofInt 1)) else (v3, S))))
def hq_151 (S : hp_S) (i1 : Int32) : Int32 × hp_S := (if hz_cmp .eq (hq_158 S i1 (Int32.ofInt (-1))) 0 = true then (hq_151_26 i1 (((hq_73 S 48 49 57 i1.toNatClampNeg).toInt - (Int32.ofInt 0).toInt).toNat + 1) (hq_73 S 48 49) ((hq_158 S i1 (Int32.ofInt (-1)))) ((Int32.ofInt 0))) else ((hq_158 S i1 (Int32.ofInt (-1))), S))
theorem hf_151_26 {i1 : Int32} (j : Nat) (z0 : j ≠ 49) : ∀ (m : Nat) (S : hp_S) (v2 : Int32) (v3 : Int32), (hq_151_26 i1 m S v2 v3).2 j = S j := by
  intro m
  induction m with
  | zero => intros; rfl
  | succ m ih =>
    intro S v2 v3
    rw [hq_151_26]
    repeat' split
    all_goals simp [ih, hp_wo, hp_wgo, hp_cpo, hf_73, hf_93, z0]
theorem hf_151 (S : hp_S) (i1 : Int32) (j : Nat) (z0 : j ≠ 49) : (hq_151 S i1).2 j = S j := by
  unfold hq_151
  repeat' split
  all_goals simp [hp_wo, hp_wgo, hp_cpo, hf_73, hf_93, z0, hf_151_26]
set_option maxRecDepth 10000 in
theorem ht_151_26 {X : hp_X} (i1 : Int32) : ∀ (n m : Nat) (S : hp_S) (v2 : Int32) (v3 : Int32) (x4 : Option Value), ((S 57 i1.toNatClampNeg).toInt - v3.toInt).toNat < m → hp_T n 151 26 [some (.ref 47), some (.int i1), some (.int v2), some (.int v3), x4] [] (hp_mem X S) (hp_is X) (hq_151_26 i1 m S v2 v3) := by
  intro n
  induction n with
  | zero => intros; exact hp_0
  | succ n ih =>
    intro m S v2 v3 x4 hm
    cases m with
    | zero => exact absurd hm (Nat.not_lt_zero _)
    | succ m =>
      rw [hq_151_26]
      refine hp_sN [27, 28] (pc' := 28) (L' := [some (.ref 47), some (.int i1), some (.int v2), some (.int v3), x4]) (st' := [.ref 47, .int v3]) rfl rfl ?_
      refine hp_gf (pc' := 31) rfl (by decide) (hp_c47 X _) rfl rfl ?_
      refine hp_sN [32] (pc' := 32) (L' := [some (.ref 47), some (.int i1), some (.int v2), some (.int v3), x4]) (st' := [.int i1, .ref 57, .int v3]) rfl rfl ?_
      refine hp_al (pc' := 33) rfl (by decide) rfl rfl ?_
      refine hp_ic (pc' := 36) rfl rfl (fun h1 => ?_) (fun h1 => ?_)
      · refine hp_sN [96] (pc' := 96) (L' := [some (.ref 47), some (.int i1), some (.int v2), some (.int v3), x4]) (st' := [.int (Int32.ofInt (-4))]) rfl rfl ?_
        exact hp_Ris rfl
      · refine hp_sN [37] (pc' := 37) (L' := [some (.ref 47), some (.int i1), some (.int v2), some (.int v3), x4]) (st' := [.ref 47]) rfl rfl ?_
        refine hp_gf (pc' := 40) rfl (by decide) (hp_c47 X _) rfl rfl ?_
        refine hp_sN [42, 43, 44, 45, 46] (pc' := 46) (L' := [some (.ref 47), some (.int i1), some (.int v2), some (.int v3), x4]) (st' := [.int (((Int32.ofInt 100) * i1) + v3), .ref 58]) rfl rfl ?_
        refine hp_al (pc' := 47) rfl (by decide) rfl rfl ?_
        refine hp_sN [49, 51, 52] (pc' := 52) (L' := [some (.ref 47), some (.int i1), some (.int v2), some (.int v3), some (.int (S 58 (((Int32.ofInt 100) * i1) + v3).toNatClampNeg))]) (st' := [.ref 47, .int (S 58 (((Int32.ofInt 100) * i1) + v3).toNatClampNeg)]) rfl rfl ?_
        refine hp_gf (pc' := 55) rfl (by decide) (hp_c47 X _) rfl rfl ?_
        refine hp_sN [56] (pc' := 56) (L' := [some (.ref 47), some (.int i1), some (.int v2), some (.int v3), some (.int (S 58 (((Int32.ofInt 100) * i1) + v3).toNatClampNeg))]) (st' := [.int i1, .ref 56, .int (S 58 (((Int32.ofInt 100) * i1) + v3).toNatClampNeg)]) rfl rfl ?_
        refine hp_al (pc' := 57) rfl (by decide) rfl rfl ?_
        refine hp_iv (virt := false) (pc' := 60) (rv := some (.int (hq_140 S (S 56 i1.toNatClampNeg)))) (M1 := hp_mem X (S)) rfl rfl (by decide) (hk_140 S ((S 56 i1.toNatClampNeg))) rfl rfl ?_
        show hp_T _ 151 60 _ [.int (hq_140 S (S 56 i1.toNatClampNeg)), .int (S 58 (((Int32.ofInt 100) * i1) + v3).toNatClampNeg)] _ _ _
        refine hp_ic (pc' := 63) rfl rfl (fun h2 => ?_) (fun h2 => ?_)
        · refine hp_sN [81] (pc' := 81) (L' := [some (.ref 47), some (.int i1), some (.int v2), some (.int v3), some (.int (S 58 (((Int32.ofInt 100) * i1) + v3).toNatClampNeg))]) (st' := [.ref 47]) rfl rfl ?_
          refine hp_gf (pc' := 84) rfl (by decide) (hp_c47 X _) rfl rfl ?_
          refine hp_sN [85] (pc' := 85) (L' := [some (.ref 47), some (.int i1), some (.int v2), some (.int v3), some (.int (S 58 (((Int32.ofInt 100) * i1) + v3).toNatClampNeg))]) (st' := [.int (Int32.ofInt 0), .ref 49]) rfl rfl ?_
          refine hp_iv (virt := false) (pc' := 88) (rv := none) (M1 := hp_mem X (hq_93 S 49 (Int32.ofInt 0))) rfl rfl (by decide) (hk_93 (Or.inr (Or.inl rfl)) S ((Int32.ofInt 0))) rfl rfl ?_
          show hp_T _ 151 88 _ [] _ _ _
          refine hp_sB 91 [26] (pc' := 26) (L' := [some (.ref 47), some (.int i1), some (.int v2), some (.int (v3 + (Int32.ofInt 1))), some (.int (S 58 (((Int32.ofInt 100) * i1) + v3).toNatClampNeg))]) (st' := []) rfl rfl ?_
          exact ih m (hq_93 S 49 (Int32.ofInt 0)) (v2) ((v3 + (Int32.ofInt 1))) (some (.int (S 58 (((Int32.ofInt 100) * i1) + v3).toNatClampNeg))) (by rw [show ((hq_93 S 49 (Int32.ofInt 0)) 57 i1.toNatClampNeg) = (S 57 i1.toNatClampNeg) from by simp (disch := omega) [hp_wo, hp_wgo, hp_cpo, hf_73, hf_93]]; exact (hp_up h1 hm))
        · refine hp_sN [65, 66] (pc' := 66) (L' := [some (.ref 47), some (.int i1), some (.int v2), some (.int v3), some (.int (S 58 (((Int32.ofInt 100) * i1) + v3).toNatClampNeg))]) (st' := [.ref 47, .int (S 58 (((Int32.ofInt 100) * i1) + v3).toNatClampNeg)]) rfl rfl ?_
          refine hp_gf (pc' := 69) rfl (by decide) (hp_c47 X _) rfl rfl ?_
          refine hp_iv (virt := false) (pc' := 72) (rv := some (.int (hq_96 S 49))) (M1 := hp_mem X (S)) rfl rfl (by decide) (hk_96 (Or.inr (Or.inl rfl)) S) rfl rfl ?_
          show hp_T _ 151 72 _ [.int (hq_96 S 49), .int (S 58 (((Int32.ofInt 100) * i1) + v3).toNatClampNeg)] _ _ _
          refine hp_iv (virt := false) (pc' := 75) (rv := some (.int (hq_80 S (hq_96 S 49)))) (M1 := hp_mem X (S)) rfl rfl (by decide) (hk_80 S ((hq_96 S 49))) rfl rfl ?_
          show hp_T _ 151 75 _ [.int (hq_80 S (hq_96 S 49)), .int (S 58 (((Int32.ofInt 100) * i1) + v3).toNatClampNeg)] _ _ _
          refine hp_ic (pc' := 78) rfl rfl (fun h3 => ?_) (fun h3 => ?_)
          · refine hp_sN [81] (pc' := 81) (L' := [some (.ref 47), some (.int i1), some (.int v2), some (.int v3), some (.int (S 58 (((Int32.ofInt 100) * i1) + v3).toNatClampNeg))]) (st' := [.ref 47]) rfl rfl ?_
            refine hp_gf (pc' := 84) rfl (by decide) (hp_c47 X _) rfl rfl ?_
            refine hp_sN [85] (pc' := 85) (L' := [some (.ref 47), some (.int i1), some (.int v2), some (.int v3), some (.int (S 58 (((Int32.ofInt 100) * i1) + v3).toNatClampNeg))]) (st' := [.int (Int32.ofInt 0), .ref 49]) rfl rfl ?_
            refine hp_iv (virt := false) (pc' := 88) (rv := none) (M1 := hp_mem X (hq_93 S 49 (Int32.ofInt 0))) rfl rfl (by decide) (hk_93 (Or.inr (Or.inl rfl)) S ((Int32.ofInt 0))) rfl rfl ?_
            show hp_T _ 151 88 _ [] _ _ _
            refine hp_sB 91 [26] (pc' := 26) (L' := [some (.ref 47), some (.int i1), some (.int v2), some (.int (v3 + (Int32.ofInt 1))), some (.int (S 58 (((Int32.ofInt 100) * i1) + v3).toNatClampNeg))]) (st' := []) rfl rfl ?_
            exact ih m (hq_93 S 49 (Int32.ofInt 0)) (v2) ((v3 + (Int32.ofInt 1))) (some (.int (S 58 (((Int32.ofInt 100) * i1) + v3).toNatClampNeg))) (by rw [show ((hq_93 S 49 (Int32.ofInt 0)) 57 i1.toNatClampNeg) = (S 57 i1.toNatClampNeg) from by simp (disch := omega) [hp_wo, hp_wgo, hp_cpo, hf_73, hf_93]]; exact (hp_up h1 hm))
          · refine hp_sN [79] (pc' := 79) (L' := [some (.ref 47), some (.int i1), some (.int v2), some (.int v3), some (.int (S 58 (((Int32.ofInt 100) * i1) + v3).toNatClampNeg))]) (st' := [.int v3]) rfl rfl ?_
            exact hp_Ris rfl
set_option maxRecDepth 10000 in
theorem ht_151 {X : hp_X} (S : hp_S) (i1 : Int32) (n : Nat) : hp_T n 151 0 [some (.ref 47), some (.int i1), none, none, none] [] (hp_mem X S) (hp_is X) (hq_151 S i1) := by
  unfold hq_151
  refine hp_sN [1, 2, 3] (pc' := 3) (L' := [some (.ref 47), some (.int i1), none, none, none]) (st' := [.int (Int32.ofInt (-1)), .int i1, .ref 47]) rfl rfl ?_
  refine hp_iv (virt := true) (pc' := 6) (rv := some (.int (hq_158 S i1 (Int32.ofInt (-1))))) (M1 := hp_mem X (S)) rfl rfl (by decide) (hk_158 S (i1) ((Int32.ofInt (-1)))) rfl rfl ?_
  show hp_T _ 151 6 _ [.int (hq_158 S i1 (Int32.ofInt (-1)))] _ _ _
  refine hp_sN [7, 8] (pc' := 8) (L' := [some (.ref 47), some (.int i1), some (.int (hq_158 S i1 (Int32.ofInt (-1)))), none, none]) (st' := [.int (hq_158 S i1 (Int32.ofInt (-1)))]) rfl rfl ?_
  refine hp_if (pc' := 11) rfl rfl (fun h1 => ?_) (fun h1 => ?_)
  · refine hp_sN [14] (pc' := 14) (L' := [some (.ref 47), some (.int i1), some (.int (hq_158 S i1 (Int32.ofInt (-1)))), none, none]) (st' := [.ref 47]) rfl rfl ?_
    refine hp_gf (pc' := 17) rfl (by decide) (hp_c47 X _) rfl rfl ?_
    refine hp_sN [18] (pc' := 18) (L' := [some (.ref 47), some (.int i1), some (.int (hq_158 S i1 (Int32.ofInt (-1)))), none, none]) (st' := [.ref 47, .ref 48]) rfl rfl ?_
    refine hp_gf (pc' := 21) rfl (by decide) (hp_c47 X _) rfl rfl ?_
    refine hp_iv (virt := false) (pc' := 24) (rv := none) (M1 := hp_mem X (hq_73 S 48 49)) rfl rfl (by decide) (hk_73 (Or.inl rfl) (Or.inr (Or.inl rfl)) S) rfl rfl ?_
    show hp_T _ 151 24 _ [] _ _ _
    refine hp_sN [25, 26] (pc' := 26) (L' := [some (.ref 47), some (.int i1), some (.int (hq_158 S i1 (Int32.ofInt (-1)))), some (.int (Int32.ofInt 0)), none]) (st' := []) rfl rfl ?_
    exact ht_151_26 i1  n (((hq_73 S 48 49 57 i1.toNatClampNeg).toInt - (Int32.ofInt 0).toInt).toNat + 1) (hq_73 S 48 49) ((hq_158 S i1 (Int32.ofInt (-1)))) ((Int32.ofInt 0)) (none) (Nat.lt_succ_self _)
  · refine hp_sN [12] (pc' := 12) (L' := [some (.ref 47), some (.int i1), some (.int (hq_158 S i1 (Int32.ofInt (-1)))), none, none]) (st' := [.int (hq_158 S i1 (Int32.ofInt (-1)))]) rfl rfl ?_
    exact hp_Ris rfl
theorem hk_151 {X : hp_X} (S : hp_S) (i1 : Int32) : hp_K 151 [.ref 47, .int i1] (hp_mem X S) (hp_is X) (hq_151 S i1) := by
  refine hp_mk (q := hzq_151) rfl (by decide) (L := [some (.ref 47), some (.int i1), none, none, none]) rfl (fun n => ?_)
  exact ht_151 S i1 n

/-! 152: HatsOfTheWindModel.drawn(I)I -/
def hq_152 (S : hp_S) (i1 : Int32) : Int32 × hp_S := (((((hp_w S 47 9 (((S 47 9) * (Int32.ofInt 1103515245)) + (Int32.ofInt 12345)) 47 9) &&& (Int32.ofInt 2147483647)) / (Int32.ofInt 65536)) - (((hp_w S 47 9 (((S 47 9) * (Int32.ofInt 1103515245)) + (Int32.ofInt 12345)) 47 9) &&& (Int32.ofInt 2147483647)) / (Int32.ofInt 65536)) / i1 * i1), hp_w S 47 9 (((S 47 9) * (Int32.ofInt 1103515245)) + (Int32.ofInt 12345)))
theorem hf_152 (S : hp_S) (i1 : Int32) (j : Nat) (z0 : j ≠ 47) : (hq_152 S i1).2 j = S j := by
  unfold hq_152
  repeat' split
  all_goals simp [hp_wo, hp_wgo, hp_cpo, z0]
set_option maxRecDepth 10000 in
theorem ht_152 {X : hp_X} (S : hp_S) (i1 : Int32) (n : Nat) : hp_T n 152 0 [some (.ref 47), some (.int i1)] [] (hp_mem X S) (hp_is X) (hq_152 S i1) := by
  unfold hq_152
  refine hp_sN [1, 2] (pc' := 2) (L' := [some (.ref 47), some (.int i1)]) (st' := [.ref 47, .ref 47]) rfl rfl ?_
  refine hp_gf (pc' := 5) rfl (by decide) (hp_c47 X _) rfl rfl ?_
  refine hp_sN [7, 8, 11, 12] (pc' := 12) (L' := [some (.ref 47), some (.int i1)]) (st' := [.int (((S 47 9) * (Int32.ofInt 1103515245)) + (Int32.ofInt 12345)), .ref 47]) rfl rfl ?_
  refine hp_pf (pc' := 15) rfl (by decide) (hp_c47 X _) (hp_w47 X _ _ _ (by decide)) rfl ?_
  refine hp_sN [16] (pc' := 16) (L' := [some (.ref 47), some (.int i1)]) (st' := [.ref 47]) rfl rfl ?_
  refine hp_gf (pc' := 19) rfl (by decide) (hp_c47 X _) rfl rfl ?_
  refine hp_sN [21, 22, 24] (pc' := 24) (L' := [some (.ref 47), some (.int i1)]) (st' := [.int (Int32.ofInt 65536), .int ((hp_w S 47 9 (((S 47 9) * (Int32.ofInt 1103515245)) + (Int32.ofInt 12345)) 47 9) &&& (Int32.ofInt 2147483647))]) rfl rfl ?_
  refine hp_di (pc' := 25) rfl rfl ?_
  refine hp_sN [26] (pc' := 26) (L' := [some (.ref 47), some (.int i1)]) (st' := [.int i1, .int (((hp_w S 47 9 (((S 47 9) * (Int32.ofInt 1103515245)) + (Int32.ofInt 12345)) 47 9) &&& (Int32.ofInt 2147483647)) / (Int32.ofInt 65536))]) rfl rfl ?_
  refine hp_ri2 (pc' := 27) rfl rfl ?_
  exact hp_Ris rfl
theorem hk_152 {X : hp_X} (S : hp_S) (i1 : Int32) : hp_K 152 [.ref 47, .int i1] (hp_mem X S) (hp_is X) (hq_152 S i1) := by
  refine hp_mk (q := hzq_152) rfl (by decide) (L := [some (.ref 47), some (.int i1)]) rfl (fun n => ?_)
  exact ht_152 S i1 n
/-! 153: HatsOfTheWindModel.thursdays(III)I -/
def hq_153_52 (i1 : Int32) (i2 : Int32) (i3 : Int32) : Nat → hp_S → Int32 → Int32 → Int32 → hp_S
  | 0, S, _, _, _ => S
  | m + 1, S, v4, v5, v6 => (if hz_cmp .ge v6 (Int32.ofInt 24) = true then S else hq_153_52 i1 i2 i3 m (hp_wg 80 ((hq_152 S (Int32.ofInt 10)).2) 49 ((Int32.ofInt 6) + v6) (hq_152 S (Int32.ofInt 10)).1) v4 v5 (v6 + (Int32.ofInt 1)))
def hq_153_32 (i1 : Int32) (i2 : Int32) (i3 : Int32) : Nat → hp_S → Int32 → Int32 → hp_S × Int32
  | 0, S, _, _ => (S, 0)
  | m + 1, S, v4, v5 => (if hz_cmp .ge v5 i1 = true then (S, v4) else (if hz_cmp .ne i3 0 = true then hq_153_32 i1 i2 i3 m (hq_94 ((hq_153_52 i1 i2 i3 (((Int32.ofInt 24).toInt - (Int32.ofInt 0).toInt).toNat + 1) (hq_73 S 48 49) (v4) (v5) ((Int32.ofInt 0)))) 49 (Int32.ofInt 24)) (v4 + (hq_80 (hq_94 ((hq_153_52 i1 i2 i3 (((Int32.ofInt 24).toInt - (Int32.ofInt 0).toInt).toNat + 1) (hq_73 S 48 49) (v4) (v5) ((Int32.ofInt 0)))) 49 (Int32.ofInt 24)) (hq_96 (hq_94 ((hq_153_52 i1 i2 i3 (((Int32.ofInt 24).toInt - (Int32.ofInt 0).toInt).toNat + 1) (hq_73 S 48 49) (v4) (v5) ((Int32.ofInt 0)))) 49 (Int32.ofInt 24)) 49))) (v5 + (Int32.ofInt 1)) else hq_153_32 i1 i2 i3 m (hq_94 ((hq_153_52 i1 i2 i3 (((Int32.ofInt 24).toInt - (Int32.ofInt 0).toInt).toNat + 1) (hq_73 S 48 49) (v4) (v5) ((Int32.ofInt 0)))) 49 (Int32.ofInt 24)) (v4 + ((hq_80 (hq_94 ((hq_153_52 i1 i2 i3 (((Int32.ofInt 24).toInt - (Int32.ofInt 0).toInt).toNat + 1) (hq_73 S 48 49) (v4) (v5) ((Int32.ofInt 0)))) 49 (Int32.ofInt 24)) (hq_98 (hq_94 ((hq_153_52 i1 i2 i3 (((Int32.ofInt 24).toInt - (Int32.ofInt 0).toInt).toNat + 1) (hq_73 S 48 49) (v4) (v5) ((Int32.ofInt 0)))) 49 (Int32.ofInt 24)) 49)) - (hq_80 (hq_94 ((hq_153_52 i1 i2 i3 (((Int32.ofInt 24).toInt - (Int32.ofInt 0).toInt).toNat + 1) (hq_73 S 48 49) (v4) (v5) ((Int32.ofInt 0)))) 49 (Int32.ofInt 24)) (hq_98 (hq_94 ((hq_153_52 i1 i2 i3 (((Int32.ofInt 24).toInt - (Int32.ofInt 0).toInt).toNat + 1) (hq_73 S 48 49) (v4) (v5) ((Int32.ofInt 0)))) 49 (Int32.ofInt 24)) 48)))) (v5 + (Int32.ofInt 1))))
def hq_153 (S : hp_S) (i1 : Int32) (i2 : Int32) (i3 : Int32) : Int32 × hp_S := (if hz_cmp .eq (hq_70 S i1 (Int32.ofInt 1) (Int32.ofInt 20)) 0 = true then ((Int32.ofInt (-1)), S) else (if hz_cmp .ne (hq_70 S i3 (Int32.ofInt 0) (Int32.ofInt 1)) 0 = true then ((hq_153_32 i1 i2 i3 ((i1.toInt - (Int32.ofInt 0).toInt).toNat + 1) (hp_w S 47 9 i2) ((Int32.ofInt 0)) ((Int32.ofInt 0))).2, (hq_153_32 i1 i2 i3 ((i1.toInt - (Int32.ofInt 0).toInt).toNat + 1) (hp_w S 47 9 i2) ((Int32.ofInt 0)) ((Int32.ofInt 0))).1) else ((Int32.ofInt (-1)), S)))
theorem hf_153_52 {i1 : Int32} {i2 : Int32} {i3 : Int32} (j : Nat) (z0 : j ≠ 47) (z1 : j ≠ 49) : ∀ (m : Nat) (S : hp_S) (v4 : Int32) (v5 : Int32) (v6 : Int32), (hq_153_52 i1 i2 i3 m S v4 v5 v6) j = S j := by
  intro m
  induction m with
  | zero => intros; rfl
  | succ m ih =>
    intro S v4 v5 v6
    rw [hq_153_52]
    repeat' split
    all_goals simp [ih, hp_wo, hp_wgo, hp_cpo, hf_73, hf_94, hf_152, z0, z1]
theorem hf_153_32 {i1 : Int32} {i2 : Int32} {i3 : Int32} (j : Nat) (z0 : j ≠ 47) (z1 : j ≠ 49) : ∀ (m : Nat) (S : hp_S) (v4 : Int32) (v5 : Int32), (hq_153_32 i1 i2 i3 m S v4 v5).1 j = S j := by
  intro m
  induction m with
  | zero => intros; rfl
  | succ m ih =>
    intro S v4 v5
    rw [hq_153_32]
    repeat' split
    all_goals simp [ih, hp_wo, hp_wgo, hp_cpo, hf_73, hf_94, hf_152, z0, z1, hf_153_52]
theorem hf_153 (S : hp_S) (i1 : Int32) (i2 : Int32) (i3 : Int32) (j : Nat) (z0 : j ≠ 47) (z1 : j ≠ 49) : (hq_153 S i1 i2 i3).2 j = S j := by
  unfold hq_153
  repeat' split
  all_goals simp [hp_wo, hp_wgo, hp_cpo, hf_73, hf_94, hf_152, z0, z1, hf_153_52, hf_153_32]
set_option maxRecDepth 10000 in
theorem ht_153_52 {α : Type} {φ : α → Option Value × hzMem} {R : α} {X : hp_X} (N : Nat) (i1 : Int32) (i2 : Int32) (i3 : Int32) : ∀ (n : Nat), n ≤ N → ∀ (m : Nat) (S : hp_S) (v4 : Int32) (v5 : Int32) (v6 : Int32) (Z : hp_S), ((Int32.ofInt 24).toInt - v6.toInt).toNat < m → hq_153_52 i1 i2 i3 m S v4 v5 v6 = Z → (∀ (x6 : Option Value), hp_T N 153 81 [some (.ref 47), some (.int i1), some (.int i2), some (.int i3), some (.int v4), some (.int v5), x6] [] (hp_mem X Z) φ R) → hp_T n 153 52 [some (.ref 47), some (.int i1), some (.int i2), some (.int i3), some (.int v4), some (.int v5), some (.int v6)] [] (hp_mem X S) φ R := by
  intro n
  induction n with
  | zero => intros; exact hp_0
  | succ n ih =>
    intro hN m S v4 v5 v6 Z hm hZ kk
    cases m with
    | zero => exact absurd hm (Nat.not_lt_zero _)
    | succ m =>
      rw [hq_153_52] at hZ
      refine hp_sN [54, 56] (pc' := 56) (L' := [some (.ref 47), some (.int i1), some (.int i2), some (.int i3), some (.int v4), some (.int v5), some (.int v6)]) (st' := [.int (Int32.ofInt 24), .int v6]) rfl rfl ?_
      refine hp_ic2 (pc' := 59) rfl rfl (fun h1 => ?_) (fun h1 => ?_)
      · rw [if_pos h1] at hZ
        subst hZ
        exact hp_le hN (kk (some (.int v6)))
      · rw [if_neg (hp_nt h1)] at hZ
        refine hp_sN [60] (pc' := 60) (L' := [some (.ref 47), some (.int i1), some (.int i2), some (.int i3), some (.int v4), some (.int v5), some (.int v6)]) (st' := [.ref 47]) rfl rfl ?_
        refine hp_gf (pc' := 63) rfl (by decide) (hp_c47 X _) rfl rfl ?_
        refine hp_sN [65, 67, 68, 69, 71] (pc' := 71) (L' := [some (.ref 47), some (.int i1), some (.int i2), some (.int i3), some (.int v4), some (.int v5), some (.int v6)]) (st' := [.int (Int32.ofInt 10), .ref 47, .int ((Int32.ofInt 6) + v6), .ref 49]) rfl rfl ?_
        refine hp_iv (virt := true) (pc' := 74) (rv := some (.int (hq_152 S (Int32.ofInt 10)).1)) (M1 := hp_mem X ((hq_152 S (Int32.ofInt 10)).2)) rfl rfl (by decide) (hk_152 S ((Int32.ofInt 10))) rfl rfl ?_
        show hp_T _ 153 74 _ [.int (hq_152 S (Int32.ofInt 10)).1, .int ((Int32.ofInt 6) + v6), .ref 49] _ _ _
        refine hp_asg (pc' := 75) rfl (hp_cl (Or.inr (Or.inl rfl))) (fun _ => (hp_cc (Or.inr (Or.inl rfl)) X _)) rfl ?_
        refine hp_sB 78 [52] (pc' := 52) (L' := [some (.ref 47), some (.int i1), some (.int i2), some (.int i3), some (.int v4), some (.int v5), some (.int (v6 + (Int32.ofInt 1)))]) (st' := []) rfl rfl ?_
        exact ih (Nat.le_trans (Nat.le_succ n) hN) m (hp_wg 80 ((hq_152 S (Int32.ofInt 10)).2) 49 ((Int32.ofInt 6) + v6) (hq_152 S (Int32.ofInt 10)).1) (v4) (v5) ((v6 + (Int32.ofInt 1))) Z (hp_up h1 hm) hZ kk
set_option maxRecDepth 10000 in
theorem ht_153_32 {α : Type} {φ : α → Option Value × hzMem} {R : α} {X : hp_X} (N : Nat) (i1 : Int32) (i2 : Int32) (i3 : Int32) : ∀ (n : Nat), n ≤ N → ∀ (m : Nat) (S : hp_S) (v4 : Int32) (v5 : Int32) (x6 : Option Value) (Z : hp_S × Int32), (i1.toInt - v5.toInt).toNat < m → hq_153_32 i1 i2 i3 m S v4 v5 = Z → (∀ (x6 : Option Value) (x5 : Option Value), hp_T N 153 139 [some (.ref 47), some (.int i1), some (.int i2), some (.int i3), some (.int Z.2), x5, x6] [] (hp_mem X Z.1) φ R) → hp_T n 153 32 [some (.ref 47), some (.int i1), some (.int i2), some (.int i3), some (.int v4), some (.int v5), x6] [] (hp_mem X S) φ R := by
  intro n
  induction n with
  | zero => intros; exact hp_0
  | succ n ih =>
    intro hN m S v4 v5 x6 Z hm hZ kk
    cases m with
    | zero => exact absurd hm (Nat.not_lt_zero _)
    | succ m =>
      rw [hq_153_32] at hZ
      refine hp_sN [34, 35] (pc' := 35) (L' := [some (.ref 47), some (.int i1), some (.int i2), some (.int i3), some (.int v4), some (.int v5), x6]) (st' := [.int i1, .int v5]) rfl rfl ?_
      refine hp_ic2 (pc' := 38) rfl rfl (fun h1 => ?_) (fun h1 => ?_)
      · rw [if_pos h1] at hZ
        subst hZ
        exact hp_le hN (kk (x6) (some (.int v5)))
      · rw [if_neg (hp_nt h1)] at hZ
        refine hp_sN [39] (pc' := 39) (L' := [some (.ref 47), some (.int i1), some (.int i2), some (.int i3), some (.int v4), some (.int v5), x6]) (st' := [.ref 47]) rfl rfl ?_
        refine hp_gf (pc' := 42) rfl (by decide) (hp_c47 X _) rfl rfl ?_
        refine hp_sN [43] (pc' := 43) (L' := [some (.ref 47), some (.int i1), some (.int i2), some (.int i3), some (.int v4), some (.int v5), x6]) (st' := [.ref 47, .ref 48]) rfl rfl ?_
        refine hp_gf (pc' := 46) rfl (by decide) (hp_c47 X _) rfl rfl ?_
        refine hp_iv (virt := false) (pc' := 49) (rv := none) (M1 := hp_mem X (hq_73 S 48 49)) rfl rfl (by decide) (hk_73 (Or.inl rfl) (Or.inr (Or.inl rfl)) S) rfl rfl ?_
        show hp_T _ 153 49 _ [] _ _ _
        refine hp_sN [50, 52] (pc' := 52) (L' := [some (.ref 47), some (.int i1), some (.int i2), some (.int i3), some (.int v4), some (.int v5), some (.int (Int32.ofInt 0))]) (st' := []) rfl rfl ?_
        refine ht_153_52 (n + 1) i1 i2 i3  (n + 1) (Nat.le_refl _) (((Int32.ofInt 24).toInt - (Int32.ofInt 0).toInt).toNat + 1) (hq_73 S 48 49) (v4) (v5) ((Int32.ofInt 0))  _ (Nat.lt_succ_self _) rfl (fun x6_52 => ?_)
        show hp_T _ 153 81 [some (.ref 47), some (.int i1), some (.int i2), some (.int i3), some (.int v4), some (.int v5), x6_52] _ (hp_mem X ((hq_153_52 i1 i2 i3 (((Int32.ofInt 24).toInt - (Int32.ofInt 0).toInt).toNat + 1) (hq_73 S 48 49) (v4) (v5) ((Int32.ofInt 0))))) _ _
        refine hp_sN [82] (pc' := 82) (L' := [some (.ref 47), some (.int i1), some (.int i2), some (.int i3), some (.int v4), some (.int v5), x6_52]) (st' := [.ref 47]) rfl rfl ?_
        refine hp_gf (pc' := 85) rfl (by decide) (hp_c47 X _) rfl rfl ?_
        refine hp_sN [87] (pc' := 87) (L' := [some (.ref 47), some (.int i1), some (.int i2), some (.int i3), some (.int v4), some (.int v5), x6_52]) (st' := [.int (Int32.ofInt 24), .ref 49]) rfl rfl ?_
        refine hp_iv (virt := false) (pc' := 90) (rv := none) (M1 := hp_mem X (hq_94 ((hq_153_52 i1 i2 i3 (((Int32.ofInt 24).toInt - (Int32.ofInt 0).toInt).toNat + 1) (hq_73 S 48 49) (v4) (v5) ((Int32.ofInt 0)))) 49 (Int32.ofInt 24))) rfl rfl (by decide) (hk_94 (Or.inr (Or.inl rfl)) ((hq_153_52 i1 i2 i3 (((Int32.ofInt 24).toInt - (Int32.ofInt 0).toInt).toNat + 1) (hq_73 S 48 49) (v4) (v5) ((Int32.ofInt 0)))) ((Int32.ofInt 24))) rfl rfl ?_
        show hp_T _ 153 90 _ [] _ _ _
        refine hp_sN [92, 93] (pc' := 93) (L' := [some (.ref 47), some (.int i1), some (.int i2), some (.int i3), some (.int v4), some (.int v5), x6_52]) (st' := [.int i3, .int v4]) rfl rfl ?_
        refine hp_if2 (pc' := 96) rfl rfl (fun h2 => ?_) (fun h2 => ?_)
        · rw [if_pos h2] at hZ
          refine hp_sN [121] (pc' := 121) (L' := [some (.ref 47), some (.int i1), some (.int i2), some (.int i3), some (.int v4), some (.int v5), x6_52]) (st' := [.ref 47, .int v4]) rfl rfl ?_
          refine hp_gf (pc' := 124) rfl (by decide) (hp_c47 X _) rfl rfl ?_
          refine hp_iv (virt := false) (pc' := 127) (rv := some (.int (hq_96 (hq_94 ((hq_153_52 i1 i2 i3 (((Int32.ofInt 24).toInt - (Int32.ofInt 0).toInt).toNat + 1) (hq_73 S 48 49) (v4) (v5) ((Int32.ofInt 0)))) 49 (Int32.ofInt 24)) 49))) (M1 := hp_mem X (hq_94 ((hq_153_52 i1 i2 i3 (((Int32.ofInt 24).toInt - (Int32.ofInt 0).toInt).toNat + 1) (hq_73 S 48 49) (v4) (v5) ((Int32.ofInt 0)))) 49 (Int32.ofInt 24))) rfl rfl (by decide) (hk_96 (Or.inr (Or.inl rfl)) (hq_94 ((hq_153_52 i1 i2 i3 (((Int32.ofInt 24).toInt - (Int32.ofInt 0).toInt).toNat + 1) (hq_73 S 48 49) (v4) (v5) ((Int32.ofInt 0)))) 49 (Int32.ofInt 24))) rfl rfl ?_
          show hp_T _ 153 127 _ [.int (hq_96 (hq_94 ((hq_153_52 i1 i2 i3 (((Int32.ofInt 24).toInt - (Int32.ofInt 0).toInt).toNat + 1) (hq_73 S 48 49) (v4) (v5) ((Int32.ofInt 0)))) 49 (Int32.ofInt 24)) 49), .int v4] _ _ _
          refine hp_iv (virt := false) (pc' := 130) (rv := some (.int (hq_80 (hq_94 ((hq_153_52 i1 i2 i3 (((Int32.ofInt 24).toInt - (Int32.ofInt 0).toInt).toNat + 1) (hq_73 S 48 49) (v4) (v5) ((Int32.ofInt 0)))) 49 (Int32.ofInt 24)) (hq_96 (hq_94 ((hq_153_52 i1 i2 i3 (((Int32.ofInt 24).toInt - (Int32.ofInt 0).toInt).toNat + 1) (hq_73 S 48 49) (v4) (v5) ((Int32.ofInt 0)))) 49 (Int32.ofInt 24)) 49)))) (M1 := hp_mem X (hq_94 ((hq_153_52 i1 i2 i3 (((Int32.ofInt 24).toInt - (Int32.ofInt 0).toInt).toNat + 1) (hq_73 S 48 49) (v4) (v5) ((Int32.ofInt 0)))) 49 (Int32.ofInt 24))) rfl rfl (by decide) (hk_80 (hq_94 ((hq_153_52 i1 i2 i3 (((Int32.ofInt 24).toInt - (Int32.ofInt 0).toInt).toNat + 1) (hq_73 S 48 49) (v4) (v5) ((Int32.ofInt 0)))) 49 (Int32.ofInt 24)) ((hq_96 (hq_94 ((hq_153_52 i1 i2 i3 (((Int32.ofInt 24).toInt - (Int32.ofInt 0).toInt).toNat + 1) (hq_73 S 48 49) (v4) (v5) ((Int32.ofInt 0)))) 49 (Int32.ofInt 24)) 49))) rfl rfl ?_
          show hp_T _ 153 130 _ [.int (hq_80 (hq_94 ((hq_153_52 i1 i2 i3 (((Int32.ofInt 24).toInt - (Int32.ofInt 0).toInt).toNat + 1) (hq_73 S 48 49) (v4) (v5) ((Int32.ofInt 0)))) 49 (Int32.ofInt 24)) (hq_96 (hq_94 ((hq_153_52 i1 i2 i3 (((Int32.ofInt 24).toInt - (Int32.ofInt 0).toInt).toNat + 1) (hq_73 S 48 49) (v4) (v5) ((Int32.ofInt 0)))) 49 (Int32.ofInt 24)) 49)), .int v4] _ _ _
          refine hp_sB 131 [133, 136, 32] (pc' := 32) (L' := [some (.ref 47), some (.int i1), some (.int i2), some (.int i3), some (.int (v4 + (hq_80 (hq_94 ((hq_153_52 i1 i2 i3 (((Int32.ofInt 24).toInt - (Int32.ofInt 0).toInt).toNat + 1) (hq_73 S 48 49) (v4) (v5) ((Int32.ofInt 0)))) 49 (Int32.ofInt 24)) (hq_96 (hq_94 ((hq_153_52 i1 i2 i3 (((Int32.ofInt 24).toInt - (Int32.ofInt 0).toInt).toNat + 1) (hq_73 S 48 49) (v4) (v5) ((Int32.ofInt 0)))) 49 (Int32.ofInt 24)) 49)))), some (.int (v5 + (Int32.ofInt 1))), x6_52]) (st' := []) rfl rfl ?_
          exact ih (Nat.le_trans (Nat.le_succ n) hN) m (hq_94 ((hq_153_52 i1 i2 i3 (((Int32.ofInt 24).toInt - (Int32.ofInt 0).toInt).toNat + 1) (hq_73 S 48 49) (v4) (v5) ((Int32.ofInt 0)))) 49 (Int32.ofInt 24)) ((v4 + (hq_80 (hq_94 ((hq_153_52 i1 i2 i3 (((Int32.ofInt 24).toInt - (Int32.ofInt 0).toInt).toNat + 1) (hq_73 S 48 49) (v4) (v5) ((Int32.ofInt 0)))) 49 (Int32.ofInt 24)) (hq_96 (hq_94 ((hq_153_52 i1 i2 i3 (((Int32.ofInt 24).toInt - (Int32.ofInt 0).toInt).toNat + 1) (hq_73 S 48 49) (v4) (v5) ((Int32.ofInt 0)))) 49 (Int32.ofInt 24)) 49)))) ((v5 + (Int32.ofInt 1))) (x6_52) Z (hp_up h1 hm) hZ kk
        · rw [if_neg (hp_nt h2)] at hZ
          refine hp_sN [97] (pc' := 97) (L' := [some (.ref 47), some (.int i1), some (.int i2), some (.int i3), some (.int v4), some (.int v5), x6_52]) (st' := [.ref 47, .int v4]) rfl rfl ?_
          refine hp_gf (pc' := 100) rfl (by decide) (hp_c47 X _) rfl rfl ?_
          refine hp_iv (virt := false) (pc' := 103) (rv := some (.int (hq_98 (hq_94 ((hq_153_52 i1 i2 i3 (((Int32.ofInt 24).toInt - (Int32.ofInt 0).toInt).toNat + 1) (hq_73 S 48 49) (v4) (v5) ((Int32.ofInt 0)))) 49 (Int32.ofInt 24)) 49))) (M1 := hp_mem X (hq_94 ((hq_153_52 i1 i2 i3 (((Int32.ofInt 24).toInt - (Int32.ofInt 0).toInt).toNat + 1) (hq_73 S 48 49) (v4) (v5) ((Int32.ofInt 0)))) 49 (Int32.ofInt 24))) rfl rfl (by decide) (hk_98 (Or.inr (Or.inl rfl)) (hq_94 ((hq_153_52 i1 i2 i3 (((Int32.ofInt 24).toInt - (Int32.ofInt 0).toInt).toNat + 1) (hq_73 S 48 49) (v4) (v5) ((Int32.ofInt 0)))) 49 (Int32.ofInt 24))) rfl rfl ?_
          show hp_T _ 153 103 _ [.int (hq_98 (hq_94 ((hq_153_52 i1 i2 i3 (((Int32.ofInt 24).toInt - (Int32.ofInt 0).toInt).toNat + 1) (hq_73 S 48 49) (v4) (v5) ((Int32.ofInt 0)))) 49 (Int32.ofInt 24)) 49), .int v4] _ _ _
          refine hp_iv (virt := false) (pc' := 106) (rv := some (.int (hq_80 (hq_94 ((hq_153_52 i1 i2 i3 (((Int32.ofInt 24).toInt - (Int32.ofInt 0).toInt).toNat + 1) (hq_73 S 48 49) (v4) (v5) ((Int32.ofInt 0)))) 49 (Int32.ofInt 24)) (hq_98 (hq_94 ((hq_153_52 i1 i2 i3 (((Int32.ofInt 24).toInt - (Int32.ofInt 0).toInt).toNat + 1) (hq_73 S 48 49) (v4) (v5) ((Int32.ofInt 0)))) 49 (Int32.ofInt 24)) 49)))) (M1 := hp_mem X (hq_94 ((hq_153_52 i1 i2 i3 (((Int32.ofInt 24).toInt - (Int32.ofInt 0).toInt).toNat + 1) (hq_73 S 48 49) (v4) (v5) ((Int32.ofInt 0)))) 49 (Int32.ofInt 24))) rfl rfl (by decide) (hk_80 (hq_94 ((hq_153_52 i1 i2 i3 (((Int32.ofInt 24).toInt - (Int32.ofInt 0).toInt).toNat + 1) (hq_73 S 48 49) (v4) (v5) ((Int32.ofInt 0)))) 49 (Int32.ofInt 24)) ((hq_98 (hq_94 ((hq_153_52 i1 i2 i3 (((Int32.ofInt 24).toInt - (Int32.ofInt 0).toInt).toNat + 1) (hq_73 S 48 49) (v4) (v5) ((Int32.ofInt 0)))) 49 (Int32.ofInt 24)) 49))) rfl rfl ?_
          show hp_T _ 153 106 _ [.int (hq_80 (hq_94 ((hq_153_52 i1 i2 i3 (((Int32.ofInt 24).toInt - (Int32.ofInt 0).toInt).toNat + 1) (hq_73 S 48 49) (v4) (v5) ((Int32.ofInt 0)))) 49 (Int32.ofInt 24)) (hq_98 (hq_94 ((hq_153_52 i1 i2 i3 (((Int32.ofInt 24).toInt - (Int32.ofInt 0).toInt).toNat + 1) (hq_73 S 48 49) (v4) (v5) ((Int32.ofInt 0)))) 49 (Int32.ofInt 24)) 49)), .int v4] _ _ _
          refine hp_sN [107] (pc' := 107) (L' := [some (.ref 47), some (.int i1), some (.int i2), some (.int i3), some (.int v4), some (.int v5), x6_52]) (st' := [.ref 47, .int (hq_80 (hq_94 ((hq_153_52 i1 i2 i3 (((Int32.ofInt 24).toInt - (Int32.ofInt 0).toInt).toNat + 1) (hq_73 S 48 49) (v4) (v5) ((Int32.ofInt 0)))) 49 (Int32.ofInt 24)) (hq_98 (hq_94 ((hq_153_52 i1 i2 i3 (((Int32.ofInt 24).toInt - (Int32.ofInt 0).toInt).toNat + 1) (hq_73 S 48 49) (v4) (v5) ((Int32.ofInt 0)))) 49 (Int32.ofInt 24)) 49)), .int v4]) rfl rfl ?_
          refine hp_gf (pc' := 110) rfl (by decide) (hp_c47 X _) rfl rfl ?_
          refine hp_iv (virt := false) (pc' := 113) (rv := some (.int (hq_98 (hq_94 ((hq_153_52 i1 i2 i3 (((Int32.ofInt 24).toInt - (Int32.ofInt 0).toInt).toNat + 1) (hq_73 S 48 49) (v4) (v5) ((Int32.ofInt 0)))) 49 (Int32.ofInt 24)) 48))) (M1 := hp_mem X (hq_94 ((hq_153_52 i1 i2 i3 (((Int32.ofInt 24).toInt - (Int32.ofInt 0).toInt).toNat + 1) (hq_73 S 48 49) (v4) (v5) ((Int32.ofInt 0)))) 49 (Int32.ofInt 24))) rfl rfl (by decide) (hk_98 (Or.inl rfl) (hq_94 ((hq_153_52 i1 i2 i3 (((Int32.ofInt 24).toInt - (Int32.ofInt 0).toInt).toNat + 1) (hq_73 S 48 49) (v4) (v5) ((Int32.ofInt 0)))) 49 (Int32.ofInt 24))) rfl rfl ?_
          show hp_T _ 153 113 _ [.int (hq_98 (hq_94 ((hq_153_52 i1 i2 i3 (((Int32.ofInt 24).toInt - (Int32.ofInt 0).toInt).toNat + 1) (hq_73 S 48 49) (v4) (v5) ((Int32.ofInt 0)))) 49 (Int32.ofInt 24)) 48), .int (hq_80 (hq_94 ((hq_153_52 i1 i2 i3 (((Int32.ofInt 24).toInt - (Int32.ofInt 0).toInt).toNat + 1) (hq_73 S 48 49) (v4) (v5) ((Int32.ofInt 0)))) 49 (Int32.ofInt 24)) (hq_98 (hq_94 ((hq_153_52 i1 i2 i3 (((Int32.ofInt 24).toInt - (Int32.ofInt 0).toInt).toNat + 1) (hq_73 S 48 49) (v4) (v5) ((Int32.ofInt 0)))) 49 (Int32.ofInt 24)) 49)), .int v4] _ _ _
          refine hp_iv (virt := false) (pc' := 116) (rv := some (.int (hq_80 (hq_94 ((hq_153_52 i1 i2 i3 (((Int32.ofInt 24).toInt - (Int32.ofInt 0).toInt).toNat + 1) (hq_73 S 48 49) (v4) (v5) ((Int32.ofInt 0)))) 49 (Int32.ofInt 24)) (hq_98 (hq_94 ((hq_153_52 i1 i2 i3 (((Int32.ofInt 24).toInt - (Int32.ofInt 0).toInt).toNat + 1) (hq_73 S 48 49) (v4) (v5) ((Int32.ofInt 0)))) 49 (Int32.ofInt 24)) 48)))) (M1 := hp_mem X (hq_94 ((hq_153_52 i1 i2 i3 (((Int32.ofInt 24).toInt - (Int32.ofInt 0).toInt).toNat + 1) (hq_73 S 48 49) (v4) (v5) ((Int32.ofInt 0)))) 49 (Int32.ofInt 24))) rfl rfl (by decide) (hk_80 (hq_94 ((hq_153_52 i1 i2 i3 (((Int32.ofInt 24).toInt - (Int32.ofInt 0).toInt).toNat + 1) (hq_73 S 48 49) (v4) (v5) ((Int32.ofInt 0)))) 49 (Int32.ofInt 24)) ((hq_98 (hq_94 ((hq_153_52 i1 i2 i3 (((Int32.ofInt 24).toInt - (Int32.ofInt 0).toInt).toNat + 1) (hq_73 S 48 49) (v4) (v5) ((Int32.ofInt 0)))) 49 (Int32.ofInt 24)) 48))) rfl rfl ?_
          show hp_T _ 153 116 _ [.int (hq_80 (hq_94 ((hq_153_52 i1 i2 i3 (((Int32.ofInt 24).toInt - (Int32.ofInt 0).toInt).toNat + 1) (hq_73 S 48 49) (v4) (v5) ((Int32.ofInt 0)))) 49 (Int32.ofInt 24)) (hq_98 (hq_94 ((hq_153_52 i1 i2 i3 (((Int32.ofInt 24).toInt - (Int32.ofInt 0).toInt).toNat + 1) (hq_73 S 48 49) (v4) (v5) ((Int32.ofInt 0)))) 49 (Int32.ofInt 24)) 48)), .int (hq_80 (hq_94 ((hq_153_52 i1 i2 i3 (((Int32.ofInt 24).toInt - (Int32.ofInt 0).toInt).toNat + 1) (hq_73 S 48 49) (v4) (v5) ((Int32.ofInt 0)))) 49 (Int32.ofInt 24)) (hq_98 (hq_94 ((hq_153_52 i1 i2 i3 (((Int32.ofInt 24).toInt - (Int32.ofInt 0).toInt).toNat + 1) (hq_73 S 48 49) (v4) (v5) ((Int32.ofInt 0)))) 49 (Int32.ofInt 24)) 49)), .int v4] _ _ _
          refine hp_sB 117 [130, 131, 133, 136, 32] (pc' := 32) (L' := [some (.ref 47), some (.int i1), some (.int i2), some (.int i3), some (.int (v4 + ((hq_80 (hq_94 ((hq_153_52 i1 i2 i3 (((Int32.ofInt 24).toInt - (Int32.ofInt 0).toInt).toNat + 1) (hq_73 S 48 49) (v4) (v5) ((Int32.ofInt 0)))) 49 (Int32.ofInt 24)) (hq_98 (hq_94 ((hq_153_52 i1 i2 i3 (((Int32.ofInt 24).toInt - (Int32.ofInt 0).toInt).toNat + 1) (hq_73 S 48 49) (v4) (v5) ((Int32.ofInt 0)))) 49 (Int32.ofInt 24)) 49)) - (hq_80 (hq_94 ((hq_153_52 i1 i2 i3 (((Int32.ofInt 24).toInt - (Int32.ofInt 0).toInt).toNat + 1) (hq_73 S 48 49) (v4) (v5) ((Int32.ofInt 0)))) 49 (Int32.ofInt 24)) (hq_98 (hq_94 ((hq_153_52 i1 i2 i3 (((Int32.ofInt 24).toInt - (Int32.ofInt 0).toInt).toNat + 1) (hq_73 S 48 49) (v4) (v5) ((Int32.ofInt 0)))) 49 (Int32.ofInt 24)) 48))))), some (.int (v5 + (Int32.ofInt 1))), x6_52]) (st' := []) rfl rfl ?_
          exact ih (Nat.le_trans (Nat.le_succ n) hN) m (hq_94 ((hq_153_52 i1 i2 i3 (((Int32.ofInt 24).toInt - (Int32.ofInt 0).toInt).toNat + 1) (hq_73 S 48 49) (v4) (v5) ((Int32.ofInt 0)))) 49 (Int32.ofInt 24)) ((v4 + ((hq_80 (hq_94 ((hq_153_52 i1 i2 i3 (((Int32.ofInt 24).toInt - (Int32.ofInt 0).toInt).toNat + 1) (hq_73 S 48 49) (v4) (v5) ((Int32.ofInt 0)))) 49 (Int32.ofInt 24)) (hq_98 (hq_94 ((hq_153_52 i1 i2 i3 (((Int32.ofInt 24).toInt - (Int32.ofInt 0).toInt).toNat + 1) (hq_73 S 48 49) (v4) (v5) ((Int32.ofInt 0)))) 49 (Int32.ofInt 24)) 49)) - (hq_80 (hq_94 ((hq_153_52 i1 i2 i3 (((Int32.ofInt 24).toInt - (Int32.ofInt 0).toInt).toNat + 1) (hq_73 S 48 49) (v4) (v5) ((Int32.ofInt 0)))) 49 (Int32.ofInt 24)) (hq_98 (hq_94 ((hq_153_52 i1 i2 i3 (((Int32.ofInt 24).toInt - (Int32.ofInt 0).toInt).toNat + 1) (hq_73 S 48 49) (v4) (v5) ((Int32.ofInt 0)))) 49 (Int32.ofInt 24)) 48))))) ((v5 + (Int32.ofInt 1))) (x6_52) Z (hp_up h1 hm) hZ kk
set_option maxRecDepth 10000 in
theorem ht_153 {X : hp_X} (S : hp_S) (i1 : Int32) (i2 : Int32) (i3 : Int32) (n : Nat) : hp_T n 153 0 [some (.ref 47), some (.int i1), some (.int i2), some (.int i3), none, none, none] [] (hp_mem X S) (hp_is X) (hq_153 S i1 i2 i3) := by
  unfold hq_153
  refine hp_sN [1, 2, 4] (pc' := 4) (L' := [some (.ref 47), some (.int i1), some (.int i2), some (.int i3), none, none, none]) (st' := [.int (Int32.ofInt 20), .int (Int32.ofInt 1), .int i1]) rfl rfl ?_
  refine hp_iv (virt := false) (pc' := 7) (rv := some (.int (hq_70 S i1 (Int32.ofInt 1) (Int32.ofInt 20)))) (M1 := hp_mem X (S)) rfl rfl (by decide) (hk_70 S (i1) ((Int32.ofInt 1)) ((Int32.ofInt 20))) rfl rfl ?_
  show hp_T _ 153 7 _ [.int (hq_70 S i1 (Int32.ofInt 1) (Int32.ofInt 20))] _ _ _
  refine hp_if (pc' := 10) rfl rfl (fun h1 => ?_) (fun h1 => ?_)
  · refine hp_sN [20] (pc' := 20) (L' := [some (.ref 47), some (.int i1), some (.int i2), some (.int i3), none, none, none]) (st' := [.int (Int32.ofInt (-1))]) rfl rfl ?_
    exact hp_Ris rfl
  · refine hp_sN [11, 12, 13] (pc' := 13) (L' := [some (.ref 47), some (.int i1), some (.int i2), some (.int i3), none, none, none]) (st' := [.int (Int32.ofInt 1), .int (Int32.ofInt 0), .int i3]) rfl rfl ?_
    refine hp_iv (virt := false) (pc' := 16) (rv := some (.int (hq_70 S i3 (Int32.ofInt 0) (Int32.ofInt 1)))) (M1 := hp_mem X (S)) rfl rfl (by decide) (hk_70 S (i3) ((Int32.ofInt 0)) ((Int32.ofInt 1))) rfl rfl ?_
    show hp_T _ 153 16 _ [.int (hq_70 S i3 (Int32.ofInt 0) (Int32.ofInt 1))] _ _ _
    refine hp_if (pc' := 19) rfl rfl (fun h2 => ?_) (fun h2 => ?_)
    · refine hp_sN [22, 23] (pc' := 23) (L' := [some (.ref 47), some (.int i1), some (.int i2), some (.int i3), none, none, none]) (st' := [.int i2, .ref 47]) rfl rfl ?_
      refine hp_pf (pc' := 26) rfl (by decide) (hp_c47 X _) (hp_w47 X _ _ _ (by decide)) rfl ?_
      refine hp_sN [27, 29, 30, 32] (pc' := 32) (L' := [some (.ref 47), some (.int i1), some (.int i2), some (.int i3), some (.int (Int32.ofInt 0)), some (.int (Int32.ofInt 0)), none]) (st' := []) rfl rfl ?_
      refine ht_153_32 n i1 i2 i3  n (Nat.le_refl _) ((i1.toInt - (Int32.ofInt 0).toInt).toNat + 1) (hp_w S 47 9 i2) ((Int32.ofInt 0)) ((Int32.ofInt 0)) (none) _ (Nat.lt_succ_self _) rfl (fun x6_32 x5_32 => ?_)
      show hp_T _ 153 139 [some (.ref 47), some (.int i1), some (.int i2), some (.int i3), some (.int (hq_153_32 i1 i2 i3 ((i1.toInt - (Int32.ofInt 0).toInt).toNat + 1) (hp_w S 47 9 i2) ((Int32.ofInt 0)) ((Int32.ofInt 0))).2), x5_32, x6_32] _ (hp_mem X ((hq_153_32 i1 i2 i3 ((i1.toInt - (Int32.ofInt 0).toInt).toNat + 1) (hp_w S 47 9 i2) ((Int32.ofInt 0)) ((Int32.ofInt 0))).1)) _ _
      refine hp_sN [141] (pc' := 141) (L' := [some (.ref 47), some (.int i1), some (.int i2), some (.int i3), some (.int (hq_153_32 i1 i2 i3 ((i1.toInt - (Int32.ofInt 0).toInt).toNat + 1) (hp_w S 47 9 i2) ((Int32.ofInt 0)) ((Int32.ofInt 0))).2), x5_32, x6_32]) (st' := [.int (hq_153_32 i1 i2 i3 ((i1.toInt - (Int32.ofInt 0).toInt).toNat + 1) (hp_w S 47 9 i2) ((Int32.ofInt 0)) ((Int32.ofInt 0))).2]) rfl rfl ?_
      exact hp_Ris rfl
    · refine hp_sN [20] (pc' := 20) (L' := [some (.ref 47), some (.int i1), some (.int i2), some (.int i3), none, none, none]) (st' := [.int (Int32.ofInt (-1))]) rfl rfl ?_
      exact hp_Ris rfl
theorem hk_153 {X : hp_X} (S : hp_S) (i1 : Int32) (i2 : Int32) (i3 : Int32) : hp_K 153 [.ref 47, .int i1, .int i2, .int i3] (hp_mem X S) (hp_is X) (hq_153 S i1 i2 i3) := by
  refine hp_mk (q := hzq_153) rfl (by decide) (L := [some (.ref 47), some (.int i1), some (.int i2), some (.int i3), none, none, none]) rfl (fun n => ?_)
  exact ht_153 S i1 i2 i3 n
/-! 154: HatsOfTheWindModel.image()I -/
def hq_154_16 (S : hp_S) : Int32 × hp_S := ((S 48 (Int32.ofInt 3).toNatClampNeg), S)
def hq_154_11 (S : hp_S) : Int32 × hp_S := (hq_154_16 (hp_w S 47 4 (Int32.ofInt 1)) )
def hq_154 (S : hp_S) : Int32 × hp_S := (hq_154_11 (hq_73 S 48 50) )
theorem hf_154_16 (S : hp_S) (j : Nat) (z0 : j ≠ 50) (z1 : j ≠ 47) : (hq_154_16 S).2 j = S j := by
  unfold hq_154_16
  repeat' split
  all_goals simp [hp_wo, hp_wgo, hp_cpo, hf_73, z0, z1]
theorem hf_154_11 (S : hp_S) (j : Nat) (z0 : j ≠ 50) (z1 : j ≠ 47) : (hq_154_11 S).2 j = S j := by
  unfold hq_154_11
  repeat' split
  all_goals simp [hp_wo, hp_wgo, hp_cpo, hf_73, z0, z1, hf_154_16]
theorem hf_154 (S : hp_S) (j : Nat) (z0 : j ≠ 50) (z1 : j ≠ 47) : (hq_154 S).2 j = S j := by
  unfold hq_154
  repeat' split
  all_goals simp [hp_wo, hp_wgo, hp_cpo, hf_73, z0, z1, hf_154_16, hf_154_11]
set_option maxRecDepth 10000 in
theorem ht_154_16 {X : hp_X} (S : hp_S) (n : Nat) : hp_T n 154 16 [some (.ref 47)] [] (hp_mem X S) (hp_is X) (hq_154_16 S) := by
  unfold hq_154_16
  refine hp_sN [17] (pc' := 17) (L' := [some (.ref 47)]) (st' := [.ref 47]) rfl rfl ?_
  refine hp_gf (pc' := 20) rfl (by decide) (hp_c47 X _) rfl rfl ?_
  refine hp_sN [21] (pc' := 21) (L' := [some (.ref 47)]) (st' := [.int (Int32.ofInt 3), .ref 48]) rfl rfl ?_
  refine hp_al (pc' := 22) rfl (hp_cl (Or.inl rfl)) (hp_cc (Or.inl rfl) X _) rfl ?_
  exact hp_Ris rfl
set_option maxRecDepth 10000 in
theorem ht_154_11 {X : hp_X} (S : hp_S) (n : Nat) : hp_T n 154 11 [some (.ref 47)] [] (hp_mem X S) (hp_is X) (hq_154_11 S) := by
  unfold hq_154_11
  refine hp_sN [12, 13] (pc' := 13) (L' := [some (.ref 47)]) (st' := [.int (Int32.ofInt 1), .ref 47]) rfl rfl ?_
  refine hp_pf (pc' := 16) rfl (by decide) (hp_c47 X _) (hp_w47 X _ _ _ (by decide)) rfl ?_
  exact ht_154_16 (hp_w S 47 4 (Int32.ofInt 1))   n
set_option maxRecDepth 10000 in
theorem ht_154 {X : hp_X} (S : hp_S) (n : Nat) : hp_T n 154 0 [some (.ref 47)] [] (hp_mem X S) (hp_is X) (hq_154 S) := by
  unfold hq_154
  refine hp_sN [1] (pc' := 1) (L' := [some (.ref 47)]) (st' := [.ref 47]) rfl rfl ?_
  refine hp_gf (pc' := 4) rfl (by decide) (hp_c47 X _) rfl rfl ?_
  refine hp_sN [5] (pc' := 5) (L' := [some (.ref 47)]) (st' := [.ref 47, .ref 48]) rfl rfl ?_
  refine hp_gf (pc' := 8) rfl (by decide) (hp_c47 X _) rfl rfl ?_
  refine hp_iv (virt := false) (pc' := 11) (rv := none) (M1 := hp_mem X (hq_73 S 48 50)) rfl rfl (by decide) (hk_73 (Or.inl rfl) (Or.inr (Or.inr (Or.inl rfl))) S) rfl rfl ?_
  show hp_T _ 154 11 _ [] _ _ _
  exact ht_154_11 (hq_73 S 48 50)   n
theorem hk_154 {X : hp_X} (S : hp_S) : hp_K 154 [.ref 47] (hp_mem X S) (hp_is X) (hq_154 S) := by
  refine hp_mk (q := hzq_154) rfl (by decide) (L := [some (.ref 47)]) rfl (fun n => ?_)
  exact ht_154 S n
/-! 155: HatsOfTheWindModel.restore()I -/
def hq_155_21 (S : hp_S) : Int32 × hp_S := ((S 48 (Int32.ofInt 3).toNatClampNeg), S)
def hq_155 (S : hp_S) : Int32 × hp_S := (if hz_cmp .ne (S 47 4) 0 = true then (hq_155_21 (hq_73 S 50 48) ) else ((Int32.ofInt (-3)), S))
theorem hf_155_21 (S : hp_S) (j : Nat) (z0 : j ≠ 48) : (hq_155_21 S).2 j = S j := by
  unfold hq_155_21
  repeat' split
  all_goals simp [hp_wo, hp_wgo, hp_cpo, hf_73, z0]
theorem hf_155 (S : hp_S) (j : Nat) (z0 : j ≠ 48) : (hq_155 S).2 j = S j := by
  unfold hq_155
  repeat' split
  all_goals simp [hp_wo, hp_wgo, hp_cpo, hf_73, z0, hf_155_21]
set_option maxRecDepth 10000 in
theorem ht_155_21 {X : hp_X} (S : hp_S) (n : Nat) : hp_T n 155 21 [some (.ref 47)] [] (hp_mem X S) (hp_is X) (hq_155_21 S) := by
  unfold hq_155_21
  refine hp_sN [22] (pc' := 22) (L' := [some (.ref 47)]) (st' := [.ref 47]) rfl rfl ?_
  refine hp_gf (pc' := 25) rfl (by decide) (hp_c47 X _) rfl rfl ?_
  refine hp_sN [26] (pc' := 26) (L' := [some (.ref 47)]) (st' := [.int (Int32.ofInt 3), .ref 48]) rfl rfl ?_
  refine hp_al (pc' := 27) rfl (hp_cl (Or.inl rfl)) (hp_cc (Or.inl rfl) X _) rfl ?_
  exact hp_Ris rfl
set_option maxRecDepth 10000 in
theorem ht_155 {X : hp_X} (S : hp_S) (n : Nat) : hp_T n 155 0 [some (.ref 47)] [] (hp_mem X S) (hp_is X) (hq_155 S) := by
  unfold hq_155
  refine hp_sN [1] (pc' := 1) (L' := [some (.ref 47)]) (st' := [.ref 47]) rfl rfl ?_
  refine hp_gf (pc' := 4) rfl (by decide) (hp_c47 X _) rfl rfl ?_
  refine hp_if (pc' := 7) rfl rfl (fun h1 => ?_) (fun h1 => ?_)
  · refine hp_sN [11] (pc' := 11) (L' := [some (.ref 47)]) (st' := [.ref 47]) rfl rfl ?_
    refine hp_gf (pc' := 14) rfl (by decide) (hp_c47 X _) rfl rfl ?_
    refine hp_sN [15] (pc' := 15) (L' := [some (.ref 47)]) (st' := [.ref 47, .ref 50]) rfl rfl ?_
    refine hp_gf (pc' := 18) rfl (by decide) (hp_c47 X _) rfl rfl ?_
    refine hp_iv (virt := false) (pc' := 21) (rv := none) (M1 := hp_mem X (hq_73 S 50 48)) rfl rfl (by decide) (hk_73 (Or.inr (Or.inr (Or.inl rfl))) (Or.inl rfl) S) rfl rfl ?_
    show hp_T _ 155 21 _ [] _ _ _
    exact ht_155_21 (hq_73 S 50 48)   n
  · refine hp_sN [9] (pc' := 9) (L' := [some (.ref 47)]) (st' := [.int (Int32.ofInt (-3))]) rfl rfl ?_
    exact hp_Ris rfl
theorem hk_155 {X : hp_X} (S : hp_S) : hp_K 155 [.ref 47] (hp_mem X S) (hp_is X) (hq_155 S) := by
  refine hp_mk (q := hzq_155) rfl (by decide) (L := [some (.ref 47)]) rfl (fun n => ?_)
  exact ht_155 S n
/-! 156: HatsOfTheWindModel.count(I)I -/
def hq_156 (S : hp_S) (i1 : Int32) : Int32 := (if i1 = (Int32.ofInt 0) then (S 48 i1.toNatClampNeg) else (if i1 = (Int32.ofInt 1) then (S 48 i1.toNatClampNeg) else (if i1 = (Int32.ofInt 2) then (S 48 i1.toNatClampNeg) else (if i1 = (Int32.ofInt 3) then (S 48 i1.toNatClampNeg) else (if i1 = (Int32.ofInt 4) then (hq_96 S 48) else (if i1 = (Int32.ofInt 5) then (hq_98 S 48) else (if i1 = (Int32.ofInt 6) then (S 48 (Int32.ofInt 4).toNatClampNeg) else (Int32.ofInt (-1)))))))))
set_option maxRecDepth 10000 in
theorem ht_156 {X : hp_X} (S : hp_S) (i1 : Int32) (n : Nat) : hp_T n 156 0 [some (.ref 47), some (.int i1)] [] (hp_mem X S) (hp_i X S) (hq_156 S i1) := by
  unfold hq_156
  refine hp_sN [1] (pc' := 1) (L' := [some (.ref 47), some (.int i1)]) (st' := [.int i1]) rfl rfl ?_
  refine hp_st (c := 0) (t := 44) rfl (by decide) (by decide) rfl (fun h1 => ?_) (fun h2 => ?_)
  · refine hp_sN [45] (pc' := 45) (L' := [some (.ref 47), some (.int i1)]) (st' := [.ref 47]) rfl rfl ?_
    refine hp_gf (pc' := 48) rfl (by decide) (hp_c47 X _) rfl rfl ?_
    refine hp_sN [49] (pc' := 49) (L' := [some (.ref 47), some (.int i1)]) (st' := [.int i1, .ref 48]) rfl rfl ?_
    refine hp_al (pc' := 50) rfl (hp_cl (Or.inl rfl)) (hp_cc (Or.inl rfl) X _) rfl ?_
    exact hp_Ri rfl
  refine hp_st (c := 1) (t := 44) rfl (by decide) (by decide) rfl (fun h3 => ?_) (fun h4 => ?_)
  · refine hp_sN [45] (pc' := 45) (L' := [some (.ref 47), some (.int i1)]) (st' := [.ref 47]) rfl rfl ?_
    refine hp_gf (pc' := 48) rfl (by decide) (hp_c47 X _) rfl rfl ?_
    refine hp_sN [49] (pc' := 49) (L' := [some (.ref 47), some (.int i1)]) (st' := [.int i1, .ref 48]) rfl rfl ?_
    refine hp_al (pc' := 50) rfl (hp_cl (Or.inl rfl)) (hp_cc (Or.inl rfl) X _) rfl ?_
    exact hp_Ri rfl
  refine hp_st (c := 2) (t := 44) rfl (by decide) (by decide) rfl (fun h5 => ?_) (fun h6 => ?_)
  · refine hp_sN [45] (pc' := 45) (L' := [some (.ref 47), some (.int i1)]) (st' := [.ref 47]) rfl rfl ?_
    refine hp_gf (pc' := 48) rfl (by decide) (hp_c47 X _) rfl rfl ?_
    refine hp_sN [49] (pc' := 49) (L' := [some (.ref 47), some (.int i1)]) (st' := [.int i1, .ref 48]) rfl rfl ?_
    refine hp_al (pc' := 50) rfl (hp_cl (Or.inl rfl)) (hp_cc (Or.inl rfl) X _) rfl ?_
    exact hp_Ri rfl
  refine hp_st (c := 3) (t := 44) rfl (by decide) (by decide) rfl (fun h7 => ?_) (fun h8 => ?_)
  · refine hp_sN [45] (pc' := 45) (L' := [some (.ref 47), some (.int i1)]) (st' := [.ref 47]) rfl rfl ?_
    refine hp_gf (pc' := 48) rfl (by decide) (hp_c47 X _) rfl rfl ?_
    refine hp_sN [49] (pc' := 49) (L' := [some (.ref 47), some (.int i1)]) (st' := [.int i1, .ref 48]) rfl rfl ?_
    refine hp_al (pc' := 50) rfl (hp_cl (Or.inl rfl)) (hp_cc (Or.inl rfl) X _) rfl ?_
    exact hp_Ri rfl
  refine hp_st (c := 4) (t := 51) rfl (by decide) (by decide) rfl (fun h9 => ?_) (fun h10 => ?_)
  · refine hp_sN [52] (pc' := 52) (L' := [some (.ref 47), some (.int i1)]) (st' := [.ref 47]) rfl rfl ?_
    refine hp_gf (pc' := 55) rfl (by decide) (hp_c47 X _) rfl rfl ?_
    refine hp_iv (virt := false) (pc' := 58) (rv := some (.int (hq_96 S 48))) (M1 := hp_mem X (S)) rfl rfl (by decide) (hk_96 (Or.inl rfl) S) rfl rfl ?_
    show hp_T _ 156 58 _ [.int (hq_96 S 48)] _ _ _
    exact hp_Ri rfl
  refine hp_st (c := 5) (t := 59) rfl (by decide) (by decide) rfl (fun h11 => ?_) (fun h12 => ?_)
  · refine hp_sN [60] (pc' := 60) (L' := [some (.ref 47), some (.int i1)]) (st' := [.ref 47]) rfl rfl ?_
    refine hp_gf (pc' := 63) rfl (by decide) (hp_c47 X _) rfl rfl ?_
    refine hp_iv (virt := false) (pc' := 66) (rv := some (.int (hq_98 S 48))) (M1 := hp_mem X (S)) rfl rfl (by decide) (hk_98 (Or.inl rfl) S) rfl rfl ?_
    show hp_T _ 156 66 _ [.int (hq_98 S 48)] _ _ _
    exact hp_Ri rfl
  refine hp_st (c := 6) (t := 67) rfl (by decide) (by decide) rfl (fun h13 => ?_) (fun h14 => ?_)
  · refine hp_sN [68] (pc' := 68) (L' := [some (.ref 47), some (.int i1)]) (st' := [.ref 47]) rfl rfl ?_
    refine hp_gf (pc' := 71) rfl (by decide) (hp_c47 X _) rfl rfl ?_
    refine hp_sN [72] (pc' := 72) (L' := [some (.ref 47), some (.int i1)]) (st' := [.int (Int32.ofInt 4), .ref 48]) rfl rfl ?_
    refine hp_al (pc' := 73) rfl (hp_cl (Or.inl rfl)) (hp_cc (Or.inl rfl) X _) rfl ?_
    exact hp_Ri rfl
  refine hp_td (t := 74) [0, 1, 2, 3, 4, 5, 6] rfl rfl rfl (by decide) (fun c q => ?_) ?_
  · simp only [List.mem_cons, List.not_mem_nil, or_false] at q
    omega
  refine hp_sN [75] (pc' := 75) (L' := [some (.ref 47), some (.int i1)]) (st' := [.int (Int32.ofInt (-1))]) rfl rfl ?_
  exact hp_Ri rfl
theorem hk_156 {X : hp_X} (S : hp_S) (i1 : Int32) : hp_K 156 [.ref 47, .int i1] (hp_mem X S) (hp_i X S) (hq_156 S i1) := by
  refine hp_mk (q := hzq_156) rfl (by decide) (L := [some (.ref 47), some (.int i1)]) rfl (fun n => ?_)
  exact ht_156 S i1 n
/-! 170: HatsOfTheWind$Shelf.clear()V -/
def hq_170 (S : hp_S) (e : Nat) : hp_S := hp_w S (29 + 2 * e) 0 (Int32.ofInt 0)
theorem hf_170 {e : Nat} (S : hp_S) (j : Nat) (z0 : j ≠ (29 + 2 * e)) : (hq_170 S e) j = S j := by
  unfold hq_170
  repeat' split
  all_goals simp [hp_wo, hp_wgo, hp_cpo, z0]
set_option maxRecDepth 10000 in
theorem ht_170 {X : hp_X} {e : Nat} (he : e < 8) (S : hp_S) (n : Nat) : hp_T n 170 0 [some (.ref (29 + 2 * e))] [] (hp_mem X S) (hp_v X) (hq_170 S e) := by
  unfold hq_170
  refine hp_sN [1, 2] (pc' := 2) (L' := [some (.ref (29 + 2 * e))]) (st' := [.int (Int32.ofInt 0), .ref (29 + 2 * e)]) rfl rfl ?_
  refine hp_pf (pc' := 5) rfl (hp_sl0 he) (hp_s0 he X _) (hp_we he X _ _ _ (by decide)) rfl ?_
  exact hp_Rv rfl
theorem hk_170 {X : hp_X} {e : Nat} (he : e < 8) (S : hp_S) : hp_K 170 [.ref (29 + 2 * e)] (hp_mem X S) (hp_v X) (hq_170 S e) := by
  refine hp_mk (q := hzq_170) rfl (by decide) (L := [some (.ref (29 + 2 * e))]) rfl (fun n => ?_)
  exact ht_170 he S n
/-! 171: HatsOfTheWind$Shelf.takeHat(II)V -/
def hq_171 (S : hp_S) (e : Nat) (i1 : Int32) (i2 : Int32) : hp_S := hp_w (hp_w (hp_w S (29 + 2 * e) 0 (Int32.ofInt 1)) (29 + 2 * e) 1 i1) (29 + 2 * e) 2 i2
theorem hf_171 {e : Nat} (S : hp_S) (i1 : Int32) (i2 : Int32) (j : Nat) (z0 : j ≠ (29 + 2 * e)) : (hq_171 S e i1 i2) j = S j := by
  unfold hq_171
  repeat' split
  all_goals simp [hp_wo, hp_wgo, hp_cpo, z0]
set_option maxRecDepth 10000 in
theorem ht_171 {X : hp_X} {e : Nat} (he : e < 8) (S : hp_S) (i1 : Int32) (i2 : Int32) (n : Nat) : hp_T n 171 0 [some (.ref (29 + 2 * e)), some (.int i1), some (.int i2)] [] (hp_mem X S) (hp_v X) (hq_171 S e i1 i2) := by
  unfold hq_171
  refine hp_sN [1, 2] (pc' := 2) (L' := [some (.ref (29 + 2 * e)), some (.int i1), some (.int i2)]) (st' := [.int (Int32.ofInt 1), .ref (29 + 2 * e)]) rfl rfl ?_
  refine hp_pf (pc' := 5) rfl (hp_sl0 he) (hp_s0 he X _) (hp_we he X _ _ _ (by decide)) rfl ?_
  refine hp_sN [6, 7] (pc' := 7) (L' := [some (.ref (29 + 2 * e)), some (.int i1), some (.int i2)]) (st' := [.int i1, .ref (29 + 2 * e)]) rfl rfl ?_
  refine hp_pf (pc' := 10) rfl (hp_sl0 he) (hp_s0 he X _) (hp_we he X _ _ _ (by decide)) rfl ?_
  refine hp_sN [11, 12] (pc' := 12) (L' := [some (.ref (29 + 2 * e)), some (.int i1), some (.int i2)]) (st' := [.int i2, .ref (29 + 2 * e)]) rfl rfl ?_
  refine hp_pf (pc' := 15) rfl (hp_sl0 he) (hp_s0 he X _) (hp_we he X _ _ _ (by decide)) rfl ?_
  exact hp_Rv rfl
theorem hk_171 {X : hp_X} {e : Nat} (he : e < 8) (S : hp_S) (i1 : Int32) (i2 : Int32) : hp_K 171 [.ref (29 + 2 * e), .int i1, .int i2] (hp_mem X S) (hp_v X) (hq_171 S e i1 i2) := by
  refine hp_mk (q := hzq_171) rfl (by decide) (L := [some (.ref (29 + 2 * e)), some (.int i1), some (.int i2)]) rfl (fun n => ?_)
  exact ht_171 he S i1 i2 n
/-! 172: HatsOfTheWind$Shelf.takeRow(II)V -/
def hq_172_17 (e : Nat) (i1 : Int32) (i2 : Int32) : Nat → hp_S → Int32 → hp_S
  | 0, S, _ => S
  | m + 1, S, v3 => (if hz_cmp .ge v3 (Int32.ofInt 100) = true then S else hq_172_17 e i1 i2 m (hp_w S (30 + 2 * e) v3.toNatClampNeg (Int32.ofInt 0)) (v3 + (Int32.ofInt 1)))
def hq_172 (S : hp_S) (e : Nat) (i1 : Int32) (i2 : Int32) : hp_S := (hq_172_17 e i1 i2 (((Int32.ofInt 100).toInt - (Int32.ofInt 0).toInt).toNat + 1) (hp_w (hp_w (hp_w S (29 + 2 * e) 0 (Int32.ofInt 2)) (29 + 2 * e) 3 i1) (29 + 2 * e) 4 i2) ((Int32.ofInt 0)))
theorem hf_172_17 {e : Nat} {i1 : Int32} {i2 : Int32} (j : Nat) (z0 : j ≠ (29 + 2 * e)) (z1 : j ≠ (30 + 2 * e)) : ∀ (m : Nat) (S : hp_S) (v3 : Int32), (hq_172_17 e i1 i2 m S v3) j = S j := by
  intro m
  induction m with
  | zero => intros; rfl
  | succ m ih =>
    intro S v3
    rw [hq_172_17]
    repeat' split
    all_goals simp [ih, hp_wo, hp_wgo, hp_cpo, z0, z1]
theorem hf_172 {e : Nat} (S : hp_S) (i1 : Int32) (i2 : Int32) (j : Nat) (z0 : j ≠ (29 + 2 * e)) (z1 : j ≠ (30 + 2 * e)) : (hq_172 S e i1 i2) j = S j := by
  unfold hq_172
  repeat' split
  all_goals simp [hp_wo, hp_wgo, hp_cpo, z0, z1, hf_172_17]
set_option maxRecDepth 10000 in
theorem ht_172_17 {α : Type} {φ : α → Option Value × hzMem} {R : α} {X : hp_X} (N : Nat) {e : Nat} (he : e < 8) (i1 : Int32) (i2 : Int32) : ∀ (n : Nat), n ≤ N → ∀ (m : Nat) (S : hp_S) (v3 : Int32) (Z : hp_S), ((Int32.ofInt 100).toInt - v3.toInt).toNat < m → hq_172_17 e i1 i2 m S v3 = Z → (∀ (x3 : Option Value), hp_T N 172 36 [some (.ref (29 + 2 * e)), some (.int i1), some (.int i2), x3] [] (hp_mem X Z) φ R) → hp_T n 172 17 [some (.ref (29 + 2 * e)), some (.int i1), some (.int i2), some (.int v3)] [] (hp_mem X S) φ R := by
  intro n
  induction n with
  | zero => intros; exact hp_0
  | succ n ih =>
    intro hN m S v3 Z hm hZ kk
    cases m with
    | zero => exact absurd hm (Nat.not_lt_zero _)
    | succ m =>
      rw [hq_172_17] at hZ
      refine hp_sN [18, 20] (pc' := 20) (L' := [some (.ref (29 + 2 * e)), some (.int i1), some (.int i2), some (.int v3)]) (st' := [.int (Int32.ofInt 100), .int v3]) rfl rfl ?_
      refine hp_ic2 (pc' := 23) rfl rfl (fun h1 => ?_) (fun h1 => ?_)
      · rw [if_pos h1] at hZ
        subst hZ
        exact hp_le hN (kk (some (.int v3)))
      · rw [if_neg (hp_nt h1)] at hZ
        refine hp_sN [24] (pc' := 24) (L' := [some (.ref (29 + 2 * e)), some (.int i1), some (.int i2), some (.int v3)]) (st' := [.ref (29 + 2 * e)]) rfl rfl ?_
        refine hp_gf (pc' := 27) rfl (hp_sl0 he) (hp_s0 he X _) rfl rfl ?_
        refine hp_sN [28, 29] (pc' := 29) (L' := [some (.ref (29 + 2 * e)), some (.int i1), some (.int i2), some (.int v3)]) (st' := [.int (Int32.ofInt 0), .int v3, .ref (30 + 2 * e)]) rfl rfl ?_
        refine hp_as (pc' := 30) rfl (hp_sl1 he) (fun _ => (hp_s1 he X _)) rfl ?_
        refine hp_sB 33 [17] (pc' := 17) (L' := [some (.ref (29 + 2 * e)), some (.int i1), some (.int i2), some (.int (v3 + (Int32.ofInt 1)))]) (st' := []) rfl rfl ?_
        exact ih (Nat.le_trans (Nat.le_succ n) hN) m (hp_w S (30 + 2 * e) v3.toNatClampNeg (Int32.ofInt 0)) ((v3 + (Int32.ofInt 1))) Z (hp_up h1 hm) hZ kk
set_option maxRecDepth 10000 in
theorem ht_172 {X : hp_X} {e : Nat} (he : e < 8) (S : hp_S) (i1 : Int32) (i2 : Int32) (n : Nat) : hp_T n 172 0 [some (.ref (29 + 2 * e)), some (.int i1), some (.int i2), none] [] (hp_mem X S) (hp_v X) (hq_172 S e i1 i2) := by
  unfold hq_172
  refine hp_sN [1, 2] (pc' := 2) (L' := [some (.ref (29 + 2 * e)), some (.int i1), some (.int i2), none]) (st' := [.int (Int32.ofInt 2), .ref (29 + 2 * e)]) rfl rfl ?_
  refine hp_pf (pc' := 5) rfl (hp_sl0 he) (hp_s0 he X _) (hp_we he X _ _ _ (by decide)) rfl ?_
  refine hp_sN [6, 7] (pc' := 7) (L' := [some (.ref (29 + 2 * e)), some (.int i1), some (.int i2), none]) (st' := [.int i1, .ref (29 + 2 * e)]) rfl rfl ?_
  refine hp_pf (pc' := 10) rfl (hp_sl0 he) (hp_s0 he X _) (hp_we he X _ _ _ (by decide)) rfl ?_
  refine hp_sN [11, 12] (pc' := 12) (L' := [some (.ref (29 + 2 * e)), some (.int i1), some (.int i2), none]) (st' := [.int i2, .ref (29 + 2 * e)]) rfl rfl ?_
  refine hp_pf (pc' := 15) rfl (hp_sl0 he) (hp_s0 he X _) (hp_we he X _ _ _ (by decide)) rfl ?_
  refine hp_sN [16, 17] (pc' := 17) (L' := [some (.ref (29 + 2 * e)), some (.int i1), some (.int i2), some (.int (Int32.ofInt 0))]) (st' := []) rfl rfl ?_
  refine ht_172_17 n he i1 i2  n (Nat.le_refl _) (((Int32.ofInt 100).toInt - (Int32.ofInt 0).toInt).toNat + 1) (hp_w (hp_w (hp_w S (29 + 2 * e) 0 (Int32.ofInt 2)) (29 + 2 * e) 3 i1) (29 + 2 * e) 4 i2) ((Int32.ofInt 0))  _ (Nat.lt_succ_self _) rfl (fun x3_17 => ?_)
  show hp_T _ 172 36 [some (.ref (29 + 2 * e)), some (.int i1), some (.int i2), x3_17] _ (hp_mem X ((hq_172_17 e i1 i2 (((Int32.ofInt 100).toInt - (Int32.ofInt 0).toInt).toNat + 1) (hp_w (hp_w (hp_w S (29 + 2 * e) 0 (Int32.ofInt 2)) (29 + 2 * e) 3 i1) (29 + 2 * e) 4 i2) ((Int32.ofInt 0))))) _ _
  exact hp_Rv rfl
theorem hk_172 {X : hp_X} {e : Nat} (he : e < 8) (S : hp_S) (i1 : Int32) (i2 : Int32) : hp_K 172 [.ref (29 + 2 * e), .int i1, .int i2] (hp_mem X S) (hp_v X) (hq_172 S e i1 i2) := by
  refine hp_mk (q := hzq_172) rfl (by decide) (L := [some (.ref (29 + 2 * e)), some (.int i1), some (.int i2), none]) rfl (fun n => ?_)
  exact ht_172 he S i1 i2 n
/-! 174: HatsOfTheWind$Shelf.isStretch(II)Z -/
def hq_174 (S : hp_S) (e : Nat) (i1 : Int32) (i2 : Int32) : Int32 := (if hz_cmp .lt i2 0 = true then (Int32.ofInt 0) else (if hz_cmp .lt i1 0 = true then (Int32.ofInt 0) else (if hz_cmp .gt i1 ((S (29 + 2 * e) 4) - i2) = true then (Int32.ofInt 0) else (Int32.ofInt 1))))
set_option maxRecDepth 10000 in
theorem ht_174 {X : hp_X} {e : Nat} (he : e < 8) (S : hp_S) (i1 : Int32) (i2 : Int32) (n : Nat) : hp_T n 174 0 [some (.ref (29 + 2 * e)), some (.int i1), some (.int i2)] [] (hp_mem X S) (hp_i X S) (hq_174 S e i1 i2) := by
  unfold hq_174
  refine hp_sN [1] (pc' := 1) (L' := [some (.ref (29 + 2 * e)), some (.int i1), some (.int i2)]) (st' := [.int i2]) rfl rfl ?_
  refine hp_if (pc' := 4) rfl rfl (fun h1 => ?_) (fun h1 => ?_)
  · refine hp_sN [23] (pc' := 23) (L' := [some (.ref (29 + 2 * e)), some (.int i1), some (.int i2)]) (st' := [.int (Int32.ofInt 0)]) rfl rfl ?_
    exact hp_Ri rfl
  · refine hp_sN [5] (pc' := 5) (L' := [some (.ref (29 + 2 * e)), some (.int i1), some (.int i2)]) (st' := [.int i1]) rfl rfl ?_
    refine hp_if (pc' := 8) rfl rfl (fun h2 => ?_) (fun h2 => ?_)
    · refine hp_sN [23] (pc' := 23) (L' := [some (.ref (29 + 2 * e)), some (.int i1), some (.int i2)]) (st' := [.int (Int32.ofInt 0)]) rfl rfl ?_
      exact hp_Ri rfl
    · refine hp_sN [9, 10] (pc' := 10) (L' := [some (.ref (29 + 2 * e)), some (.int i1), some (.int i2)]) (st' := [.ref (29 + 2 * e), .int i1]) rfl rfl ?_
      refine hp_gf (pc' := 13) rfl (hp_sl0 he) (hp_s0 he X _) rfl rfl ?_
      refine hp_sN [14, 15] (pc' := 15) (L' := [some (.ref (29 + 2 * e)), some (.int i1), some (.int i2)]) (st' := [.int ((S (29 + 2 * e) 4) - i2), .int i1]) rfl rfl ?_
      refine hp_ic (pc' := 18) rfl rfl (fun h3 => ?_) (fun h3 => ?_)
      · refine hp_sN [23] (pc' := 23) (L' := [some (.ref (29 + 2 * e)), some (.int i1), some (.int i2)]) (st' := [.int (Int32.ofInt 0)]) rfl rfl ?_
        exact hp_Ri rfl
      · refine hp_sN [19, 23] (pc' := 23) (L' := [some (.ref (29 + 2 * e)), some (.int i1), some (.int i2)]) (st' := [.int (Int32.ofInt 1)]) rfl rfl ?_
        exact hp_Ri rfl
theorem hk_174 {X : hp_X} {e : Nat} (he : e < 8) (S : hp_S) (i1 : Int32) (i2 : Int32) : hp_K 174 [.ref (29 + 2 * e), .int i1, .int i2] (hp_mem X S) (hp_i X S) (hq_174 S e i1 i2) := by
  refine hp_mk (q := hzq_174) rfl (by decide) (L := [some (.ref (29 + 2 * e)), some (.int i1), some (.int i2)]) rfl (fun n => ?_)
  exact ht_174 he S i1 i2 n
/-! 175: HatsOfTheWind$Shelf.lowestBits(I)I -/
def hq_175 (S : hp_S) (e : Nat) (i1 : Int32) : Int32 := (if hz_cmp .ne (S (29 + 2 * e) 3) 0 = true then (if hz_cmp .ne (S (29 + 2 * e) 3) (Int32.ofInt 1) = true then i1 else i1.toInt16.toInt32) else i1.toInt8.toInt32)
set_option maxRecDepth 10000 in
theorem ht_175 {X : hp_X} {e : Nat} (he : e < 8) (S : hp_S) (i1 : Int32) (n : Nat) : hp_T n 175 0 [some (.ref (29 + 2 * e)), some (.int i1)] [] (hp_mem X S) (hp_i X S) (hq_175 S e i1) := by
  unfold hq_175
  refine hp_sN [1] (pc' := 1) (L' := [some (.ref (29 + 2 * e)), some (.int i1)]) (st' := [.ref (29 + 2 * e)]) rfl rfl ?_
  refine hp_gf (pc' := 4) rfl (hp_sl0 he) (hp_s0 he X _) rfl rfl ?_
  refine hp_if (pc' := 7) rfl rfl (fun h1 => ?_) (fun h1 => ?_)
  · refine hp_sN [11] (pc' := 11) (L' := [some (.ref (29 + 2 * e)), some (.int i1)]) (st' := [.ref (29 + 2 * e)]) rfl rfl ?_
    refine hp_gf (pc' := 14) rfl (hp_sl0 he) (hp_s0 he X _) rfl rfl ?_
    refine hp_sN [15] (pc' := 15) (L' := [some (.ref (29 + 2 * e)), some (.int i1)]) (st' := [.int (Int32.ofInt 1), .int (S (29 + 2 * e) 3)]) rfl rfl ?_
    refine hp_ic (pc' := 18) rfl rfl (fun h2 => ?_) (fun h2 => ?_)
    · refine hp_sN [24] (pc' := 24) (L' := [some (.ref (29 + 2 * e)), some (.int i1)]) (st' := [.int i1]) rfl rfl ?_
      exact hp_Ri rfl
    · refine hp_sN [19, 20, 24] (pc' := 24) (L' := [some (.ref (29 + 2 * e)), some (.int i1)]) (st' := [.int i1.toInt16.toInt32]) rfl rfl ?_
      exact hp_Ri rfl
  · refine hp_sN [8, 9] (pc' := 9) (L' := [some (.ref (29 + 2 * e)), some (.int i1)]) (st' := [.int i1.toInt8.toInt32]) rfl rfl ?_
    exact hp_Ri rfl
theorem hk_175 {X : hp_X} {e : Nat} (he : e < 8) (S : hp_S) (i1 : Int32) : hp_K 175 [.ref (29 + 2 * e), .int i1] (hp_mem X S) (hp_i X S) (hq_175 S e i1) := by
  refine hp_mk (q := hzq_175) rfl (by decide) (L := [some (.ref (29 + 2 * e)), some (.int i1)]) rfl (fun n => ?_)
  exact ht_175 he S i1 n

