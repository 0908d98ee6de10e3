/-! 44: HatsOfTheWind.isWithin(III)Z -/
def hq_44 (S : hp_S) (i1 : Int32) (i2 : Int32) (i3 : Int32) : Int32 := (if hz_cmp .lt i1 i2 = true then (Int32.ofInt 0) else (if hz_cmp .gt i1 i3 = true then (Int32.ofInt 0) else (Int32.ofInt 1)))
set_option maxRecDepth 10000 in
theorem ht_44 {X : hp_X} (S : hp_S) (i1 : Int32) (i2 : Int32) (i3 : Int32) (n : Nat) : hp_T n 44 0 [some (.int i1), some (.int i2), some (.int i3)] [] (hp_mem X S) (hp_i X S) (hq_44 S i1 i2 i3) := by
  unfold hq_44
  refine hp_sN [1, 2] (pc' := 2) (L' := [some (.int i1), some (.int i2), some (.int i3)]) (st' := [.int i2, .int i1]) rfl rfl ?_
  refine hp_ic (pc' := 5) rfl rfl (fun h1 => ?_) (fun h1 => ?_)
  · refine hp_sN [15] (pc' := 15) (L' := [some (.int i1), some (.int i2), some (.int i3)]) (st' := [.int (Int32.ofInt 0)]) rfl rfl ?_
    exact hp_Ri rfl
  · refine hp_sN [6, 7] (pc' := 7) (L' := [some (.int i1), some (.int i2), some (.int i3)]) (st' := [.int i3, .int i1]) rfl rfl ?_
    refine hp_ic (pc' := 10) rfl rfl (fun h2 => ?_) (fun h2 => ?_)
    · refine hp_sN [15] (pc' := 15) (L' := [some (.int i1), some (.int i2), some (.int i3)]) (st' := [.int (Int32.ofInt 0)]) rfl rfl ?_
      exact hp_Ri rfl
    · refine hp_sN [11, 15] (pc' := 15) (L' := [some (.int i1), some (.int i2), some (.int i3)]) (st' := [.int (Int32.ofInt 1)]) rfl rfl ?_
      exact hp_Ri rfl
theorem hk_44 {X : hp_X} (S : hp_S) (i1 : Int32) (i2 : Int32) (i3 : Int32) : hp_K 44 [.int i1, .int i2, .int i3] (hp_mem X S) (hp_i X S) (hq_44 S i1 i2 i3) := by
  refine hp_mk (q := hzq_44) rfl (by decide) (L := [some (.int i1), some (.int i2), some (.int i3)]) rfl (fun n => ?_)
  exact ht_44 S i1 i2 i3 n
/-! 51: HatsOfTheWind.isShelf(I)Z -/
def hq_51 (S : hp_S) (i1 : Int32) : Int32 := (hq_44 S i1 (Int32.ofInt 0) (Int32.ofInt 7))
set_option maxRecDepth 10000 in
theorem ht_51 {X : hp_X} (S : hp_S) (i1 : Int32) (n : Nat) : hp_T n 51 0 [some (.int i1)] [] (hp_mem X S) (hp_i X S) (hq_51 S i1) := by
  unfold hq_51
  refine hp_sN [1, 2, 4] (pc' := 4) (L' := [some (.int i1)]) (st' := [.int (Int32.ofInt 7), .int (Int32.ofInt 0), .int i1]) rfl rfl ?_
  refine hp_iv (virt := false) (pc' := 7) (rv := some (.int (hq_44 S i1 (Int32.ofInt 0) (Int32.ofInt 7)))) (M1 := hp_mem X (S)) rfl rfl (by decide) (hk_44 S (i1) ((Int32.ofInt 0)) ((Int32.ofInt 7))) rfl rfl ?_
  show hp_T _ 51 7 _ [.int (hq_44 S i1 (Int32.ofInt 0) (Int32.ofInt 7))] _ _ _
  exact hp_Ri rfl
theorem hk_51 {X : hp_X} (S : hp_S) (i1 : Int32) : hp_K 51 [.int i1] (hp_mem X S) (hp_i X S) (hq_51 S i1) := by
  refine hp_mk (q := hzq_51) rfl (by decide) (L := [some (.int i1)]) rfl (fun n => ?_)
  exact ht_51 S i1 n
/-! 54: HatsOfTheWind.refusalUnless(II)I -/
def hq_54 (S : hp_S) (i1 : Int32) (i2 : Int32) : Int32 := (if hz_cmp .ne (hq_51 S i1) 0 = true then (if hz_cmp .ne (S (29 + 2 * i1.toNatClampNeg) 0) 0 = true then (if hz_cmp .ne (S (29 + 2 * i1.toNatClampNeg) 0) i2 = true then (Int32.ofInt (-12)) else (Int32.ofInt 0)) else (Int32.ofInt (-11))) else (Int32.ofInt (-1)))
set_option maxRecDepth 10000 in
theorem ht_54 {X : hp_X} (S : hp_S) (i1 : Int32) (i2 : Int32) (n : Nat) : hp_T n 54 0 [some (.ref 0), some (.int i1), some (.int i2)] [] (hp_mem X S) (hp_i X S) (hq_54 S i1 i2) := by
  unfold hq_54
  refine hp_sN [1] (pc' := 1) (L' := [some (.ref 0), some (.int i1), some (.int i2)]) (st' := [.int i1]) rfl rfl ?_
  refine hp_iv (virt := false) (pc' := 4) (rv := some (.int (hq_51 S i1))) (M1 := hp_mem X (S)) rfl rfl (by decide) (hk_51 S (i1)) rfl rfl ?_
  show hp_T _ 54 4 _ [.int (hq_51 S i1)] _ _ _
  refine hp_if (pc' := 7) rfl rfl (fun h1 => ?_) (fun h1 => ?_)
  · refine hp_sN [10] (pc' := 10) (L' := [some (.ref 0), some (.int i1), some (.int i2)]) (st' := [.ref 0]) rfl rfl ?_
    refine hp_gf (pc' := 13) rfl (by decide) (hp_c0 X _) rfl rfl ?_
    refine hp_sN [14] (pc' := 14) (L' := [some (.ref 0), some (.int i1), some (.int i2)]) (st' := [.int i1, .ref 28]) rfl rfl ?_
    refine hp_aa (pc' := 15) rfl rfl (fun h2 => ?_)
    refine hp_gf (pc' := 18) rfl (hp_sl0 h2) (hp_s0 h2 X _) rfl rfl ?_
    refine hp_if (pc' := 21) rfl rfl (fun h3 => ?_) (fun h3 => ?_)
    · refine hp_sN [25] (pc' := 25) (L' := [some (.ref 0), some (.int i1), some (.int i2)]) (st' := [.ref 0]) rfl rfl ?_
      refine hp_gf (pc' := 28) rfl (by decide) (hp_c0 X _) rfl rfl ?_
      refine hp_sN [29] (pc' := 29) (L' := [some (.ref 0), some (.int i1), some (.int i2)]) (st' := [.int i1, .ref 28]) rfl rfl ?_
      refine hp_aa (pc' := 30) rfl rfl (fun h4 => ?_)
      refine hp_gf (pc' := 33) rfl (hp_sl0 h4) (hp_s0 h4 X _) rfl rfl ?_
      refine hp_sN [34] (pc' := 34) (L' := [some (.ref 0), some (.int i1), some (.int i2)]) (st' := [.int i2, .int (S (29 + 2 * i1.toNatClampNeg) 0)]) rfl rfl ?_
      refine hp_ic (pc' := 37) rfl rfl (fun h5 => ?_) (fun h5 => ?_)
      · refine hp_sN [43] (pc' := 43) (L' := [some (.ref 0), some (.int i1), some (.int i2)]) (st' := [.int (Int32.ofInt (-12))]) rfl rfl ?_
        exact hp_Ri rfl
      · refine hp_sN [38, 43] (pc' := 43) (L' := [some (.ref 0), some (.int i1), some (.int i2)]) (st' := [.int (Int32.ofInt 0)]) rfl rfl ?_
        exact hp_Ri rfl
    · refine hp_sN [23] (pc' := 23) (L' := [some (.ref 0), some (.int i1), some (.int i2)]) (st' := [.int (Int32.ofInt (-11))]) rfl rfl ?_
      exact hp_Ri rfl
  · refine hp_sN [8] (pc' := 8) (L' := [some (.ref 0), some (.int i1), some (.int i2)]) (st' := [.int (Int32.ofInt (-1))]) rfl rfl ?_
    exact hp_Ri rfl
theorem hk_54 {X : hp_X} (S : hp_S) (i1 : Int32) (i2 : Int32) : hp_K 54 [.ref 0, .int i1, .int i2] (hp_mem X S) (hp_i X S) (hq_54 S i1 i2) := by
  refine hp_mk (q := hzq_54) rfl (by decide) (L := [some (.ref 0), some (.int i1), some (.int i2)]) rfl (fun n => ?_)
  exact ht_54 S i1 i2 n
/-! 52: HatsOfTheWind.refusalOfRow(I)I -/
def hq_52 (S : hp_S) (i1 : Int32) : Int32 := (hq_54 S i1 (Int32.ofInt 2))
set_option maxRecDepth 10000 in
theorem ht_52 {X : hp_X} (S : hp_S) (i1 : Int32) (n : Nat) : hp_T n 52 0 [some (.ref 0), some (.int i1)] [] (hp_mem X S) (hp_i X S) (hq_52 S i1) := by
  unfold hq_52
  refine hp_sN [1, 2, 3] (pc' := 3) (L' := [some (.ref 0), some (.int i1)]) (st' := [.int (Int32.ofInt 2), .int i1, .ref 0]) rfl rfl ?_
  refine hp_iv (virt := true) (pc' := 6) (rv := some (.int (hq_54 S i1 (Int32.ofInt 2)))) (M1 := hp_mem X (S)) rfl rfl (by decide) (hk_54 S (i1) ((Int32.ofInt 2))) rfl rfl ?_
  show hp_T _ 52 6 _ [.int (hq_54 S i1 (Int32.ofInt 2))] _ _ _
  exact hp_Ri rfl
theorem hk_52 {X : hp_X} (S : hp_S) (i1 : Int32) : hp_K 52 [.ref 0, .int i1] (hp_mem X S) (hp_i X S) (hq_52 S i1) := by
  refine hp_mk (q := hzq_52) rfl (by decide) (L := [some (.ref 0), some (.int i1)]) rfl (fun n => ?_)
  exact ht_52 S i1 n
/-! 208: HatsOfTheWind$Text.digitsBehind(I)I -/
def hq_208 (S : hp_S) (i1 : Int32) : Int32 := (if i1 = (Int32.ofInt 104) then (Int32.ofInt 3) else (if i1 = (Int32.ofInt 105) then (Int32.ofInt 2) else (if i1 = (Int32.ofInt 108) then (Int32.ofInt 2) else (if i1 = (Int32.ofInt 112) then (Int32.ofInt 3) else (if i1 = (Int32.ofInt 116) then (Int32.ofInt 2) else (if i1 = (Int32.ofInt 119) then (Int32.ofInt 3) else (Int32.ofInt 0)))))))
set_option maxRecDepth 10000 in
theorem ht_208 {X : hp_X} (S : hp_S) (i1 : Int32) (n : Nat) : hp_T n 208 0 [some (.int i1)] [] (hp_mem X S) (hp_i X S) (hq_208 S i1) := by
  unfold hq_208
  refine hp_sN [1] (pc' := 1) (L' := [some (.int i1)]) (st' := [.int i1]) rfl rfl ?_
  refine hp_st (c := 104) (t := 80) rfl (by decide) (by decide) rfl (fun h1 => ?_) (fun h2 => ?_)
  · refine hp_sN [81] (pc' := 81) (L' := [some (.int i1)]) (st' := [.int (Int32.ofInt 3)]) rfl rfl ?_
    exact hp_Ri rfl
  refine hp_st (c := 105) (t := 82) rfl (by decide) (by decide) rfl (fun h3 => ?_) (fun h4 => ?_)
  · refine hp_sN [83] (pc' := 83) (L' := [some (.int i1)]) (st' := [.int (Int32.ofInt 2)]) rfl rfl ?_
    exact hp_Ri rfl
  refine hp_st (c := 108) (t := 82) rfl (by decide) (by decide) rfl (fun h5 => ?_) (fun h6 => ?_)
  · refine hp_sN [83] (pc' := 83) (L' := [some (.int i1)]) (st' := [.int (Int32.ofInt 2)]) rfl rfl ?_
    exact hp_Ri rfl
  refine hp_st (c := 112) (t := 80) rfl (by decide) (by decide) rfl (fun h7 => ?_) (fun h8 => ?_)
  · refine hp_sN [81] (pc' := 81) (L' := [some (.int i1)]) (st' := [.int (Int32.ofInt 3)]) rfl rfl ?_
    exact hp_Ri rfl
  refine hp_st (c := 116) (t := 82) rfl (by decide) (by decide) rfl (fun h9 => ?_) (fun h10 => ?_)
  · refine hp_sN [83] (pc' := 83) (L' := [some (.int i1)]) (st' := [.int (Int32.ofInt 2)]) rfl rfl ?_
    exact hp_Ri rfl
  refine hp_st (c := 119) (t := 80) rfl (by decide) (by decide) rfl (fun h11 => ?_) (fun h12 => ?_)
  · refine hp_sN [81] (pc' := 81) (L' := [some (.int i1)]) (st' := [.int (Int32.ofInt 3)]) rfl rfl ?_
    exact hp_Ri rfl
  refine hp_td (t := 84) [104, 105, 108, 112, 116, 119] rfl rfl rfl (by decide) (fun c q => ?_) ?_
  · simp only [List.mem_cons, List.not_mem_nil, or_false] at q
    omega
  refine hp_sN [85] (pc' := 85) (L' := [some (.int i1)]) (st' := [.int (Int32.ofInt 0)]) rfl rfl ?_
  exact hp_Ri rfl
theorem hk_208 {X : hp_X} (S : hp_S) (i1 : Int32) : hp_K 208 [.int i1] (hp_mem X S) (hp_i X S) (hq_208 S i1) := by
  refine hp_mk (q := hzq_208) rfl (by decide) (L := [some (.int i1)]) rfl (fun n => ?_)
  exact ht_208 S i1 n
/-! 209: HatsOfTheWind$Text.firstWrongByte(LHatsOfTheWind$Shelf;)I -/
def hq_209_4 (e : Nat) : Nat → hp_S → Int32 → Int32 → Int32
  | 0, S, _, _ => 0
  | m + 1, S, v1, v2 => (if hz_cmp .ge v2 (S (29 + 2 * e) 4) = true then (if hz_cmp .ne v1 (Int32.ofInt (-1)) = true then (S (29 + 2 * e) 4) else (if hz_cmp .le (S (29 + 2 * e) 4) 0 = true then (S (29 + 2 * e) 4) else (Int32.ofInt (-1)))) else (if hz_cmp .ne v1 (Int32.ofInt (-1)) = true then (if hz_cmp .le v1 0 = true then (if hz_cmp .eq (S (30 + 2 * e) v2.toNatClampNeg) (Int32.ofInt 59) = true then hq_209_4 e m S (Int32.ofInt (-1)) (v2 + (Int32.ofInt 1)) else v2) else (if hz_cmp .lt (S (30 + 2 * e) v2.toNatClampNeg) (Int32.ofInt 48) = true then v2 else (if hz_cmp .le (S (30 + 2 * e) v2.toNatClampNeg) (Int32.ofInt 57) = true then hq_209_4 e m S (v1 + (Int32.ofInt (-1))) (v2 + (Int32.ofInt 1)) else v2))) else (if hz_cmp .ne (hq_208 S (S (30 + 2 * e) v2.toNatClampNeg)) 0 = true then hq_209_4 e m S (hq_208 S (S (30 + 2 * e) v2.toNatClampNeg)) (v2 + (Int32.ofInt 1)) else v2)))
def hq_209 (S : hp_S) (e : Nat) : Int32 := (hq_209_4 e (((S (29 + 2 * e) 4).toInt - (Int32.ofInt 0).toInt).toNat + 1) S ((Int32.ofInt (-1))) ((Int32.ofInt 0)))
set_option maxRecDepth 10000 in
theorem ht_209_4 {X : hp_X} {e : Nat} (he : e < 8) (S : hp_S) : ∀ (n m : Nat) (v1 : Int32) (v2 : Int32) (x3 : Option Value), ((S (29 + 2 * e) 4).toInt - v2.toInt).toNat < m → hp_T n 209 4 [some (.ref (29 + 2 * e)), some (.int v1), some (.int v2), x3] [] (hp_mem X S) (hp_i X S) (hq_209_4 e m S v1 v2) := by
  intro n
  induction n with
  | zero => intros; exact hp_0
  | succ n ih =>
    intro m v1 v2 x3 hm
    cases m with
    | zero => exact absurd hm (Nat.not_lt_zero _)
    | succ m =>
      rw [hq_209_4]
      refine hp_sN [5, 6] (pc' := 6) (L' := [some (.ref (29 + 2 * e)), some (.int v1), some (.int v2), x3]) (st' := [.ref (29 + 2 * e), .int v2]) rfl rfl ?_
      refine hp_gf (pc' := 9) rfl (hp_sl0 he) (hp_s0 he X _) rfl rfl ?_
      refine hp_ic (pc' := 12) rfl rfl (fun h1 => ?_) (fun h1 => ?_)
      · refine hp_sN [76, 77] (pc' := 77) (L' := [some (.ref (29 + 2 * e)), some (.int v1), some (.int v2), x3]) (st' := [.int (Int32.ofInt (-1)), .int v1]) rfl rfl ?_
        refine hp_ic (pc' := 80) rfl rfl (fun h2 => ?_) (fun h2 => ?_)
        · refine hp_sN [92] (pc' := 92) (L' := [some (.ref (29 + 2 * e)), some (.int v1), some (.int v2), x3]) (st' := [.ref (29 + 2 * e)]) rfl rfl ?_
          refine hp_gf (pc' := 95) rfl (hp_sl0 he) (hp_s0 he X _) rfl rfl ?_
          exact hp_Ri rfl
        · refine hp_sN [81] (pc' := 81) (L' := [some (.ref (29 + 2 * e)), some (.int v1), some (.int v2), x3]) (st' := [.ref (29 + 2 * e)]) rfl rfl ?_
          refine hp_gf (pc' := 84) rfl (hp_sl0 he) (hp_s0 he X _) rfl rfl ?_
          refine hp_if (pc' := 87) rfl rfl (fun h3 => ?_) (fun h3 => ?_)
          · refine hp_sN [92] (pc' := 92) (L' := [some (.ref (29 + 2 * e)), some (.int v1), some (.int v2), x3]) (st' := [.ref (29 + 2 * e)]) rfl rfl ?_
            refine hp_gf (pc' := 95) rfl (hp_sl0 he) (hp_s0 he X _) rfl rfl ?_
            exact hp_Ri rfl
          · refine hp_sN [88, 95] (pc' := 95) (L' := [some (.ref (29 + 2 * e)), some (.int v1), some (.int v2), x3]) (st' := [.int (Int32.ofInt (-1))]) rfl rfl ?_
            exact hp_Ri rfl
      · refine hp_sN [13] (pc' := 13) (L' := [some (.ref (29 + 2 * e)), some (.int v1), some (.int v2), x3]) (st' := [.ref (29 + 2 * e)]) rfl rfl ?_
        refine hp_gf (pc' := 16) rfl (hp_sl0 he) (hp_s0 he X _) rfl rfl ?_
        refine hp_sN [17] (pc' := 17) (L' := [some (.ref (29 + 2 * e)), some (.int v1), some (.int v2), x3]) (st' := [.int v2, .ref (30 + 2 * e)]) rfl rfl ?_
        refine hp_al (pc' := 18) rfl (hp_sl1 he) (hp_s1 he X _) rfl ?_
        refine hp_sN [19, 20, 21] (pc' := 21) (L' := [some (.ref (29 + 2 * e)), some (.int v1), some (.int v2), some (.int (S (30 + 2 * e) v2.toNatClampNeg))]) (st' := [.int (Int32.ofInt (-1)), .int v1]) rfl rfl ?_
        refine hp_ic (pc' := 24) rfl rfl (fun h4 => ?_) (fun h4 => ?_)
        · refine hp_sN [36] (pc' := 36) (L' := [some (.ref (29 + 2 * e)), some (.int v1), some (.int v2), some (.int (S (30 + 2 * e) v2.toNatClampNeg))]) (st' := [.int v1]) rfl rfl ?_
          refine hp_if (pc' := 39) rfl rfl (fun h5 => ?_) (fun h5 => ?_)
          · refine hp_sN [60, 62] (pc' := 62) (L' := [some (.ref (29 + 2 * e)), some (.int v1), some (.int v2), some (.int (S (30 + 2 * e) v2.toNatClampNeg))]) (st' := [.int (Int32.ofInt 59), .int (S (30 + 2 * e) v2.toNatClampNeg)]) rfl rfl ?_
            refine hp_ic (pc' := 65) rfl rfl (fun h6 => ?_) (fun h6 => ?_)
            · refine hp_sB 68 [69, 72, 4] (pc' := 4) (L' := [some (.ref (29 + 2 * e)), some (.int (Int32.ofInt (-1))), some (.int (v2 + (Int32.ofInt 1))), some (.int (S (30 + 2 * e) v2.toNatClampNeg))]) (st' := []) rfl rfl ?_
              exact ih m ((Int32.ofInt (-1))) ((v2 + (Int32.ofInt 1))) (some (.int (S (30 + 2 * e) v2.toNatClampNeg))) (hp_up h1 hm)
            · refine hp_sN [66] (pc' := 66) (L' := [some (.ref (29 + 2 * e)), some (.int v1), some (.int v2), some (.int (S (30 + 2 * e) v2.toNatClampNeg))]) (st' := [.int v2]) rfl rfl ?_
              exact hp_Ri rfl
          · refine hp_sN [40, 42] (pc' := 42) (L' := [some (.ref (29 + 2 * e)), some (.int v1), some (.int v2), some (.int (S (30 + 2 * e) v2.toNatClampNeg))]) (st' := [.int (Int32.ofInt 48), .int (S (30 + 2 * e) v2.toNatClampNeg)]) rfl rfl ?_
            refine hp_ic (pc' := 45) rfl rfl (fun h7 => ?_) (fun h7 => ?_)
            · refine hp_sN [52] (pc' := 52) (L' := [some (.ref (29 + 2 * e)), some (.int v1), some (.int v2), some (.int (S (30 + 2 * e) v2.toNatClampNeg))]) (st' := [.int v2]) rfl rfl ?_
              exact hp_Ri rfl
            · refine hp_sN [46, 48] (pc' := 48) (L' := [some (.ref (29 + 2 * e)), some (.int v1), some (.int v2), some (.int (S (30 + 2 * e) v2.toNatClampNeg))]) (st' := [.int (Int32.ofInt 57), .int (S (30 + 2 * e) v2.toNatClampNeg)]) rfl rfl ?_
              refine hp_ic (pc' := 51) rfl rfl (fun h8 => ?_) (fun h8 => ?_)
              · refine hp_sB 56 [69, 72, 4] (pc' := 4) (L' := [some (.ref (29 + 2 * e)), some (.int (v1 + (Int32.ofInt (-1)))), some (.int (v2 + (Int32.ofInt 1))), some (.int (S (30 + 2 * e) v2.toNatClampNeg))]) (st' := []) rfl rfl ?_
                exact ih m ((v1 + (Int32.ofInt (-1)))) ((v2 + (Int32.ofInt 1))) (some (.int (S (30 + 2 * e) v2.toNatClampNeg))) (hp_up h1 hm)
              · refine hp_sN [52] (pc' := 52) (L' := [some (.ref (29 + 2 * e)), some (.int v1), some (.int v2), some (.int (S (30 + 2 * e) v2.toNatClampNeg))]) (st' := [.int v2]) rfl rfl ?_
                exact hp_Ri rfl
        · refine hp_sN [25] (pc' := 25) (L' := [some (.ref (29 + 2 * e)), some (.int v1), some (.int v2), some (.int (S (30 + 2 * e) v2.toNatClampNeg))]) (st' := [.int (S (30 + 2 * e) v2.toNatClampNeg)]) rfl rfl ?_
          refine hp_iv (virt := false) (pc' := 28) (rv := some (.int (hq_208 S (S (30 + 2 * e) v2.toNatClampNeg)))) (M1 := hp_mem X (S)) rfl rfl (by decide) (hk_208 S ((S (30 + 2 * e) v2.toNatClampNeg))) rfl rfl ?_
          show hp_T _ 209 28 _ [.int (hq_208 S (S (30 + 2 * e) v2.toNatClampNeg))] _ _ _
          refine hp_sN [29, 30] (pc' := 30) (L' := [some (.ref (29 + 2 * e)), some (.int (hq_208 S (S (30 + 2 * e) v2.toNatClampNeg))), some (.int v2), some (.int (S (30 + 2 * e) v2.toNatClampNeg))]) (st' := [.int (hq_208 S (S (30 + 2 * e) v2.toNatClampNeg))]) rfl rfl ?_
          refine hp_if (pc' := 33) rfl rfl (fun h9 => ?_) (fun h9 => ?_)
          · refine hp_sB 72 [4] (pc' := 4) (L' := [some (.ref (29 + 2 * e)), some (.int (hq_208 S (S (30 + 2 * e) v2.toNatClampNeg))), some (.int (v2 + (Int32.ofInt 1))), some (.int (S (30 + 2 * e) v2.toNatClampNeg))]) (st' := []) rfl rfl ?_
            exact ih m ((hq_208 S (S (30 + 2 * e) v2.toNatClampNeg))) ((v2 + (Int32.ofInt 1))) (some (.int (S (30 + 2 * e) v2.toNatClampNeg))) (hp_up h1 hm)
          · refine hp_sN [34] (pc' := 34) (L' := [some (.ref (29 + 2 * e)), some (.int (hq_208 S (S (30 + 2 * e) v2.toNatClampNeg))), some (.int v2), some (.int (S (30 + 2 * e) v2.toNatClampNeg))]) (st' := [.int v2]) rfl rfl ?_
            exact hp_Ri rfl
set_option maxRecDepth 10000 in
theorem ht_209 {X : hp_X} {e : Nat} (he : e < 8) (S : hp_S) (n : Nat) : hp_T n 209 0 [some (.ref (29 + 2 * e)), none, none, none] [] (hp_mem X S) (hp_i X S) (hq_209 S e) := by
  unfold hq_209
  refine hp_sN [1, 2, 3, 4] (pc' := 4) (L' := [some (.ref (29 + 2 * e)), some (.int (Int32.ofInt (-1))), some (.int (Int32.ofInt 0)), none]) (st' := []) rfl rfl ?_
  exact ht_209_4 he S n (((S (29 + 2 * e) 4).toInt - (Int32.ofInt 0).toInt).toNat + 1)  ((Int32.ofInt (-1))) ((Int32.ofInt 0)) (none) (Nat.lt_succ_self _)
theorem hk_209 {X : hp_X} {e : Nat} (he : e < 8) (S : hp_S) : hp_K 209 [.ref (29 + 2 * e)] (hp_mem X S) (hp_i X S) (hq_209 S e) := by
  refine hp_mk (q := hzq_209) rfl (by decide) (L := [some (.ref (29 + 2 * e)), none, none, none]) rfl (fun n => ?_)
  exact ht_209 he S n
/-! 180: HatsOfTheWind$Street.become(LHatsOfTheWind$Street;)V -/
def hq_180_160 (b : Nat) (b2 : Nat) (S : hp_S) : hp_S := S
def hq_180_145 (b : Nat) (b2 : Nat) (S : hp_S) : hp_S := (hq_180_160 b b2 (hp_cp S (b2 + 8) (b + 8) (Int32.ofInt 8).toNatClampNeg) )
def hq_180_130 (b : Nat) (b2 : Nat) (S : hp_S) : hp_S := (hq_180_145 b b2 (hp_cp S (b2 + 7) (b + 7) (Int32.ofInt 8).toNatClampNeg) )
def hq_180_115 (b : Nat) (b2 : Nat) (S : hp_S) : hp_S := (hq_180_130 b b2 (hp_cp S (b2 + 6) (b + 6) (Int32.ofInt 8).toNatClampNeg) )
def hq_180_100 (b : Nat) (b2 : Nat) (S : hp_S) : hp_S := (hq_180_115 b b2 (hp_cp S (b2 + 5) (b + 5) (Int32.ofInt 8).toNatClampNeg) )
def hq_180_92 (b : Nat) (b2 : Nat) (S : hp_S) : hp_S := (hq_180_100 b b2 (hp_w S b 8 (S b2 8)) )
def hq_180_77 (b : Nat) (b2 : Nat) (S : hp_S) : hp_S := (hq_180_92 b b2 (hp_cp S (b2 + 4) (b + 4) (Int32.ofInt 6).toNatClampNeg) )
def hq_180_62 (b : Nat) (b2 : Nat) (S : hp_S) : hp_S := (hq_180_77 b b2 (hp_cp S (b2 + 3) (b + 3) (Int32.ofInt 6).toNatClampNeg) )
def hq_180_47 (b : Nat) (b2 : Nat) (S : hp_S) : hp_S := (hq_180_62 b b2 (hp_cp S (b2 + 2) (b + 2) (Int32.ofInt 6).toNatClampNeg) )
def hq_180_39 (b : Nat) (b2 : Nat) (S : hp_S) : hp_S := (hq_180_47 b b2 (hp_w S b 4 (S b2 4)) )
def hq_180_31 (b : Nat) (b2 : Nat) (S : hp_S) : hp_S := (hq_180_39 b b2 (hp_w S b 3 (S b2 3)) )
def hq_180_23 (b : Nat) (b2 : Nat) (S : hp_S) : hp_S := (hq_180_31 b b2 (hp_w S b 2 (S b2 2)) )
def hq_180_15 (b : Nat) (b2 : Nat) (S : hp_S) : hp_S := (hq_180_23 b b2 (hp_w S b 1 (S b2 1)) )
def hq_180 (S : hp_S) (b : Nat) (b2 : Nat) : hp_S := (hq_180_15 b b2 (hp_cp S (b2 + 1) (b + 1) (Int32.ofInt 24).toNatClampNeg) )
theorem hf_180_160 {b : Nat} {b2 : Nat} (S : hp_S) (j : Nat) (z0 : j ≠ (b + 1)) (z1 : j ≠ b) (z2 : j ≠ (b + 2)) (z3 : j ≠ (b + 3)) (z4 : j ≠ (b + 4)) (z5 : j ≠ (b + 5)) (z6 : j ≠ (b + 6)) (z7 : j ≠ (b + 7)) (z8 : j ≠ (b + 8)) : (hq_180_160 b b2 S) j = S j := by
  unfold hq_180_160
  repeat' split
  all_goals simp [hp_wo, hp_wgo, hp_cpo, z0, z1, z2, z3, z4, z5, z6, z7, z8]
theorem hf_180_145 {b : Nat} {b2 : Nat} (S : hp_S) (j : Nat) (z0 : j ≠ (b + 1)) (z1 : j ≠ b) (z2 : j ≠ (b + 2)) (z3 : j ≠ (b + 3)) (z4 : j ≠ (b + 4)) (z5 : j ≠ (b + 5)) (z6 : j ≠ (b + 6)) (z7 : j ≠ (b + 7)) (z8 : j ≠ (b + 8)) : (hq_180_145 b b2 S) j = S j := by
  unfold hq_180_145
  repeat' split
  all_goals simp [hp_wo, hp_wgo, hp_cpo, z0, z1, z2, z3, z4, z5, z6, z7, z8, hf_180_160]
theorem hf_180_130 {b : Nat} {b2 : Nat} (S : hp_S) (j : Nat) (z0 : j ≠ (b + 1)) (z1 : j ≠ b) (z2 : j ≠ (b + 2)) (z3 : j ≠ (b + 3)) (z4 : j ≠ (b + 4)) (z5 : j ≠ (b + 5)) (z6 : j ≠ (b + 6)) (z7 : j ≠ (b + 7)) (z8 : j ≠ (b + 8)) : (hq_180_130 b b2 S) j = S j := by
  unfold hq_180_130
  repeat' split
  all_goals simp [hp_wo, hp_wgo, hp_cpo, z0, z1, z2, z3, z4, z5, z6, z7, z8, hf_180_160, hf_180_145]
theorem hf_180_115 {b : Nat} {b2 : Nat} (S : hp_S) (j : Nat) (z0 : j ≠ (b + 1)) (z1 : j ≠ b) (z2 : j ≠ (b + 2)) (z3 : j ≠ (b + 3)) (z4 : j ≠ (b + 4)) (z5 : j ≠ (b + 5)) (z6 : j ≠ (b + 6)) (z7 : j ≠ (b + 7)) (z8 : j ≠ (b + 8)) : (hq_180_115 b b2 S) j = S j := by
  unfold hq_180_115
  repeat' split
  all_goals simp [hp_wo, hp_wgo, hp_cpo, z0, z1, z2, z3, z4, z5, z6, z7, z8, hf_180_160, hf_180_145, hf_180_130]
theorem hf_180_100 {b : Nat} {b2 : Nat} (S : hp_S) (j : Nat) (z0 : j ≠ (b + 1)) (z1 : j ≠ b) (z2 : j ≠ (b + 2)) (z3 : j ≠ (b + 3)) (z4 : j ≠ (b + 4)) (z5 : j ≠ (b + 5)) (z6 : j ≠ (b + 6)) (z7 : j ≠ (b + 7)) (z8 : j ≠ (b + 8)) : (hq_180_100 b b2 S) j = S j := by
  unfold hq_180_100
  repeat' split
  all_goals simp [hp_wo, hp_wgo, hp_cpo, z0, z1, z2, z3, z4, z5, z6, z7, z8, hf_180_160, hf_180_145, hf_180_130, hf_180_115]
theorem hf_180_92 {b : Nat} {b2 : Nat} (S : hp_S) (j : Nat) (z0 : j ≠ (b + 1)) (z1 : j ≠ b) (z2 : j ≠ (b + 2)) (z3 : j ≠ (b + 3)) (z4 : j ≠ (b + 4)) (z5 : j ≠ (b + 5)) (z6 : j ≠ (b + 6)) (z7 : j ≠ (b + 7)) (z8 : j ≠ (b + 8)) : (hq_180_92 b b2 S) j = S j := by
  unfold hq_180_92
  repeat' split
  all_goals simp [hp_wo, hp_wgo, hp_cpo, z0, z1, z2, z3, z4, z5, z6, z7, z8, hf_180_160, hf_180_145, hf_180_130, hf_180_115, hf_180_100]
theorem hf_180_77 {b : Nat} {b2 : Nat} (S : hp_S) (j : Nat) (z0 : j ≠ (b + 1)) (z1 : j ≠ b) (z2 : j ≠ (b + 2)) (z3 : j ≠ (b + 3)) (z4 : j ≠ (b + 4)) (z5 : j ≠ (b + 5)) (z6 : j ≠ (b + 6)) (z7 : j ≠ (b + 7)) (z8 : j ≠ (b + 8)) : (hq_180_77 b b2 S) j = S j := by
  unfold hq_180_77
  repeat' split
  all_goals simp [hp_wo, hp_wgo, hp_cpo, z0, z1, z2, z3, z4, z5, z6, z7, z8, hf_180_160, hf_180_145, hf_180_130, hf_180_115, hf_180_100, hf_180_92]
theorem hf_180_62 {b : Nat} {b2 : Nat} (S : hp_S) (j : Nat) (z0 : j ≠ (b + 1)) (z1 : j ≠ b) (z2 : j ≠ (b + 2)) (z3 : j ≠ (b + 3)) (z4 : j ≠ (b + 4)) (z5 : j ≠ (b + 5)) (z6 : j ≠ (b + 6)) (z7 : j ≠ (b + 7)) (z8 : j ≠ (b + 8)) : (hq_180_62 b b2 S) j = S j := by
  unfold hq_180_62
  repeat' split
  all_goals simp [hp_wo, hp_wgo, hp_cpo, z0, z1, z2, z3, z4, z5, z6, z7, z8, hf_180_160, hf_180_145, hf_180_130, hf_180_115, hf_180_100, hf_180_92, hf_180_77]
theorem hf_180_47 {b : Nat} {b2 : Nat} (S : hp_S) (j : Nat) (z0 : j ≠ (b + 1)) (z1 : j ≠ b) (z2 : j ≠ (b + 2)) (z3 : j ≠ (b + 3)) (z4 : j ≠ (b + 4)) (z5 : j ≠ (b + 5)) (z6 : j ≠ (b + 6)) (z7 : j ≠ (b + 7)) (z8 : j ≠ (b + 8)) : (hq_180_47 b b2 S) j = S j := by
  unfold hq_180_47
  repeat' split
  all_goals simp [hp_wo, hp_wgo, hp_cpo, z0, z1, z2, z3, z4, z5, z6, z7, z8, hf_180_160, hf_180_145, hf_180_130, hf_180_115, hf_180_100, hf_180_92, hf_180_77, hf_180_62]
theorem hf_180_39 {b : Nat} {b2 : Nat} (S : hp_S) (j : Nat) (z0 : j ≠ (b + 1)) (z1 : j ≠ b) (z2 : j ≠ (b + 2)) (z3 : j ≠ (b + 3)) (z4 : j ≠ (b + 4)) (z5 : j ≠ (b + 5)) (z6 : j ≠ (b + 6)) (z7 : j ≠ (b + 7)) (z8 : j ≠ (b + 8)) : (hq_180_39 b b2 S) j = S j := by
  unfold hq_180_39
  repeat' split
  all_goals simp [hp_wo, hp_wgo, hp_cpo, z0, z1, z2, z3, z4, z5, z6, z7, z8, hf_180_160, hf_180_145, hf_180_130, hf_180_115, hf_180_100, hf_180_92, hf_180_77, hf_180_62, hf_180_47]
theorem hf_180_31 {b : Nat} {b2 : Nat} (S : hp_S) (j : Nat) (z0 : j ≠ (b + 1)) (z1 : j ≠ b) (z2 : j ≠ (b + 2)) (z3 : j ≠ (b + 3)) (z4 : j ≠ (b + 4)) (z5 : j ≠ (b + 5)) (z6 : j ≠ (b + 6)) (z7 : j ≠ (b + 7)) (z8 : j ≠ (b + 8)) : (hq_180_31 b b2 S) j = S j := by
  unfold hq_180_31
  repeat' split
  all_goals simp [hp_wo, hp_wgo, hp_cpo, z0, z1, z2, z3, z4, z5, z6, z7, z8, hf_180_160, hf_180_145, hf_180_130, hf_180_115, hf_180_100, hf_180_92, hf_180_77, hf_180_62, hf_180_47, hf_180_39]
theorem hf_180_23 {b : Nat} {b2 : Nat} (S : hp_S) (j : Nat) (z0 : j ≠ (b + 1)) (z1 : j ≠ b) (z2 : j ≠ (b + 2)) (z3 : j ≠ (b + 3)) (z4 : j ≠ (b + 4)) (z5 : j ≠ (b + 5)) (z6 : j ≠ (b + 6)) (z7 : j ≠ (b + 7)) (z8 : j ≠ (b + 8)) : (hq_180_23 b b2 S) j = S j := by
  unfold hq_180_23
  repeat' split
  all_goals simp [hp_wo, hp_wgo, hp_cpo, z0, z1, z2, z3, z4, z5, z6, z7, z8, hf_180_160, hf_180_145, hf_180_130, hf_180_115, hf_180_100, hf_180_92, hf_180_77, hf_180_62, hf_180_47, hf_180_39, hf_180_31]
theorem hf_180_15 {b : Nat} {b2 : Nat} (S : hp_S) (j : Nat) (z0 : j ≠ (b + 1)) (z1 : j ≠ b) (z2 : j ≠ (b + 2)) (z3 : j ≠ (b + 3)) (z4 : j ≠ (b + 4)) (z5 : j ≠ (b + 5)) (z6 : j ≠ (b + 6)) (z7 : j ≠ (b + 7)) (z8 : j ≠ (b + 8)) : (hq_180_15 b b2 S) j = S j := by
  unfold hq_180_15
  repeat' split
  all_goals simp [hp_wo, hp_wgo, hp_cpo, z0, z1, z2, z3, z4, z5, z6, z7, z8, hf_180_160, hf_180_145, hf_180_130, hf_180_115, hf_180_100, hf_180_92, hf_180_77, hf_180_62, hf_180_47, hf_180_39, hf_180_31, hf_180_23]
theorem hf_180 {b : Nat} {b2 : Nat} (S : hp_S) (j : Nat) (z0 : j ≠ (b + 1)) (z1 : j ≠ b) (z2 : j ≠ (b + 2)) (z3 : j ≠ (b + 3)) (z4 : j ≠ (b + 4)) (z5 : j ≠ (b + 5)) (z6 : j ≠ (b + 6)) (z7 : j ≠ (b + 7)) (z8 : j ≠ (b + 8)) : (hq_180 S b b2) j = S j := by
  unfold hq_180
  repeat' split
  all_goals simp [hp_wo, hp_wgo, hp_cpo, z0, z1, z2, z3, z4, z5, z6, z7, z8, hf_180_160, hf_180_145, hf_180_130, hf_180_115, hf_180_100, hf_180_92, hf_180_77, hf_180_62, hf_180_47, hf_180_39, hf_180_31, hf_180_23, hf_180_15]
set_option maxRecDepth 10000 in
theorem ht_180_160 {X : hp_X} {b : Nat} {b2 : Nat} (hb : hp_b b) (hb2 : hp_b b2) (S : hp_S) (n : Nat) : hp_T n 180 160 [some (.ref b), some (.ref b2)] [] (hp_mem X S) (hp_v X) (hq_180_160 b b2 S) := by
  unfold hq_180_160
  exact hp_Rv rfl
set_option maxRecDepth 10000 in
theorem ht_180_145 {X : hp_X} {b : Nat} {b2 : Nat} (hb : hp_b b) (hb2 : hp_b b2) (S : hp_S) (n : Nat) : hp_T n 180 145 [some (.ref b), some (.ref b2)] [] (hp_mem X S) (hp_v X) (hq_180_145 b b2 S) := by
  unfold hq_180_145
  refine hp_sN [146] (pc' := 146) (L' := [some (.ref b), some (.ref b2)]) (st' := [.ref b2]) rfl rfl ?_
  refine hp_gf (pc' := 149) rfl (hp_bl hb2 0 (by decide)) (hp_b0 hb2 X _) rfl rfl ?_
  refine hp_sN [150, 151] (pc' := 151) (L' := [some (.ref b), some (.ref b2)]) (st' := [.ref b, .int (Int32.ofInt 0), .ref (b2 + 8)]) rfl rfl ?_
  refine hp_gf (pc' := 154) rfl (hp_bl hb 0 (by decide)) (hp_b0 hb X _) rfl rfl ?_
  refine hp_sN [155, 157] (pc' := 157) (L' := [some (.ref b), some (.ref b2)]) (st' := [.int (Int32.ofInt 8), .int (Int32.ofInt 0), .ref (b + 8), .int (Int32.ofInt 0), .ref (b2 + 8)]) rfl rfl ?_
  refine hp_ac (virt := false) (pc' := 160) rfl rfl rfl (hp_bl hb2 8 (by decide)) (hp_bl hb 8 (by decide)) (hp_b8 hb2 X _) (fun _ => (hp_b8 hb X _)) rfl ?_
  exact ht_180_160 hb hb2 (hp_cp S (b2 + 8) (b + 8) (Int32.ofInt 8).toNatClampNeg)   n
set_option maxRecDepth 10000 in
theorem ht_180_130 {X : hp_X} {b : Nat} {b2 : Nat} (hb : hp_b b) (hb2 : hp_b b2) (S : hp_S) (n : Nat) : hp_T n 180 130 [some (.ref b), some (.ref b2)] [] (hp_mem X S) (hp_v X) (hq_180_130 b b2 S) := by
  unfold hq_180_130
  refine hp_sN [131] (pc' := 131) (L' := [some (.ref b), some (.ref b2)]) (st' := [.ref b2]) rfl rfl ?_
  refine hp_gf (pc' := 134) rfl (hp_bl hb2 0 (by decide)) (hp_b0 hb2 X _) rfl rfl ?_
  refine hp_sN [135, 136] (pc' := 136) (L' := [some (.ref b), some (.ref b2)]) (st' := [.ref b, .int (Int32.ofInt 0), .ref (b2 + 7)]) rfl rfl ?_
  refine hp_gf (pc' := 139) rfl (hp_bl hb 0 (by decide)) (hp_b0 hb X _) rfl rfl ?_
  refine hp_sN [140, 142] (pc' := 142) (L' := [some (.ref b), some (.ref b2)]) (st' := [.int (Int32.ofInt 8), .int (Int32.ofInt 0), .ref (b + 7), .int (Int32.ofInt 0), .ref (b2 + 7)]) rfl rfl ?_
  refine hp_ac (virt := false) (pc' := 145) rfl rfl rfl (hp_bl hb2 7 (by decide)) (hp_bl hb 7 (by decide)) (hp_b7 hb2 X _) (fun _ => (hp_b7 hb X _)) rfl ?_
  exact ht_180_145 hb hb2 (hp_cp S (b2 + 7) (b + 7) (Int32.ofInt 8).toNatClampNeg)   n
set_option maxRecDepth 10000 in
theorem ht_180_115 {X : hp_X} {b : Nat} {b2 : Nat} (hb : hp_b b) (hb2 : hp_b b2) (S : hp_S) (n : Nat) : hp_T n 180 115 [some (.ref b), some (.ref b2)] [] (hp_mem X S) (hp_v X) (hq_180_115 b b2 S) := by
  unfold hq_180_115
  refine hp_sN [116] (pc' := 116) (L' := [some (.ref b), some (.ref b2)]) (st' := [.ref b2]) rfl rfl ?_
  refine hp_gf (pc' := 119) rfl (hp_bl hb2 0 (by decide)) (hp_b0 hb2 X _) rfl rfl ?_
  refine hp_sN [120, 121] (pc' := 121) (L' := [some (.ref b), some (.ref b2)]) (st' := [.ref b, .int (Int32.ofInt 0), .ref (b2 + 6)]) rfl rfl ?_
  refine hp_gf (pc' := 124) rfl (hp_bl hb 0 (by decide)) (hp_b0 hb X _) rfl rfl ?_
  refine hp_sN [125, 127] (pc' := 127) (L' := [some (.ref b), some (.ref b2)]) (st' := [.int (Int32.ofInt 8), .int (Int32.ofInt 0), .ref (b + 6), .int (Int32.ofInt 0), .ref (b2 + 6)]) rfl rfl ?_
  refine hp_ac (virt := false) (pc' := 130) rfl rfl rfl (hp_bl hb2 6 (by decide)) (hp_bl hb 6 (by decide)) (hp_b6 hb2 X _) (fun _ => (hp_b6 hb X _)) rfl ?_
  exact ht_180_130 hb hb2 (hp_cp S (b2 + 6) (b + 6) (Int32.ofInt 8).toNatClampNeg)   n
set_option maxRecDepth 10000 in
theorem ht_180_100 {X : hp_X} {b : Nat} {b2 : Nat} (hb : hp_b b) (hb2 : hp_b b2) (S : hp_S) (n : Nat) : hp_T n 180 100 [some (.ref b), some (.ref b2)] [] (hp_mem X S) (hp_v X) (hq_180_100 b b2 S) := by
  unfold hq_180_100
  refine hp_sN [101] (pc' := 101) (L' := [some (.ref b), some (.ref b2)]) (st' := [.ref b2]) rfl rfl ?_
  refine hp_gf (pc' := 104) rfl (hp_bl hb2 0 (by decide)) (hp_b0 hb2 X _) rfl rfl ?_
  refine hp_sN [105, 106] (pc' := 106) (L' := [some (.ref b), some (.ref b2)]) (st' := [.ref b, .int (Int32.ofInt 0), .ref (b2 + 5)]) rfl rfl ?_
  refine hp_gf (pc' := 109) rfl (hp_bl hb 0 (by decide)) (hp_b0 hb X _) rfl rfl ?_
  refine hp_sN [110, 112] (pc' := 112) (L' := [some (.ref b), some (.ref b2)]) (st' := [.int (Int32.ofInt 8), .int (Int32.ofInt 0), .ref (b + 5), .int (Int32.ofInt 0), .ref (b2 + 5)]) rfl rfl ?_
  refine hp_ac (virt := false) (pc' := 115) rfl rfl rfl (hp_bl hb2 5 (by decide)) (hp_bl hb 5 (by decide)) (hp_b5 hb2 X _) (fun _ => (hp_b5 hb X _)) rfl ?_
  exact ht_180_115 hb hb2 (hp_cp S (b2 + 5) (b + 5) (Int32.ofInt 8).toNatClampNeg)   n
set_option maxRecDepth 10000 in
theorem ht_180_92 {X : hp_X} {b : Nat} {b2 : Nat} (hb : hp_b b) (hb2 : hp_b b2) (S : hp_S) (n : Nat) : hp_T n 180 92 [some (.ref b), some (.ref b2)] [] (hp_mem X S) (hp_v X) (hq_180_92 b b2 S) := by
  unfold hq_180_92
  refine hp_sN [93, 94] (pc' := 94) (L' := [some (.ref b), some (.ref b2)]) (st' := [.ref b2, .ref b]) rfl rfl ?_
  refine hp_gf (pc' := 97) rfl (hp_bl hb2 0 (by decide)) (hp_b0 hb2 X _) rfl rfl ?_
  refine hp_pf (pc' := 100) rfl (hp_bl hb 0 (by decide)) (hp_b0 hb X _) (hp_wb hb X _ _ _ (by decide)) rfl ?_
  exact ht_180_100 hb hb2 (hp_w S b 8 (S b2 8))   n
set_option maxRecDepth 10000 in
theorem ht_180_77 {X : hp_X} {b : Nat} {b2 : Nat} (hb : hp_b b) (hb2 : hp_b b2) (S : hp_S) (n : Nat) : hp_T n 180 77 [some (.ref b), some (.ref b2)] [] (hp_mem X S) (hp_v X) (hq_180_77 b b2 S) := by
  unfold hq_180_77
  refine hp_sN [78] (pc' := 78) (L' := [some (.ref b), some (.ref b2)]) (st' := [.ref b2]) rfl rfl ?_
  refine hp_gf (pc' := 81) rfl (hp_bl hb2 0 (by decide)) (hp_b0 hb2 X _) rfl rfl ?_
  refine hp_sN [82, 83] (pc' := 83) (L' := [some (.ref b), some (.ref b2)]) (st' := [.ref b, .int (Int32.ofInt 0), .ref (b2 + 4)]) rfl rfl ?_
  refine hp_gf (pc' := 86) rfl (hp_bl hb 0 (by decide)) (hp_b0 hb X _) rfl rfl ?_
  refine hp_sN [87, 89] (pc' := 89) (L' := [some (.ref b), some (.ref b2)]) (st' := [.int (Int32.ofInt 6), .int (Int32.ofInt 0), .ref (b + 4), .int (Int32.ofInt 0), .ref (b2 + 4)]) rfl rfl ?_
  refine hp_ac (virt := false) (pc' := 92) rfl rfl rfl (hp_bl hb2 4 (by decide)) (hp_bl hb 4 (by decide)) (hp_b4 hb2 X _) (fun _ => (hp_b4 hb X _)) rfl ?_
  exact ht_180_92 hb hb2 (hp_cp S (b2 + 4) (b + 4) (Int32.ofInt 6).toNatClampNeg)   n
set_option maxRecDepth 10000 in
theorem ht_180_62 {X : hp_X} {b : Nat} {b2 : Nat} (hb : hp_b b) (hb2 : hp_b b2) (S : hp_S) (n : Nat) : hp_T n 180 62 [some (.ref b), some (.ref b2)] [] (hp_mem X S) (hp_v X) (hq_180_62 b b2 S) := by
  unfold hq_180_62
  refine hp_sN [63] (pc' := 63) (L' := [some (.ref b), some (.ref b2)]) (st' := [.ref b2]) rfl rfl ?_
  refine hp_gf (pc' := 66) rfl (hp_bl hb2 0 (by decide)) (hp_b0 hb2 X _) rfl rfl ?_
  refine hp_sN [67, 68] (pc' := 68) (L' := [some (.ref b), some (.ref b2)]) (st' := [.ref b, .int (Int32.ofInt 0), .ref (b2 + 3)]) rfl rfl ?_
  refine hp_gf (pc' := 71) rfl (hp_bl hb 0 (by decide)) (hp_b0 hb X _) rfl rfl ?_
  refine hp_sN [72, 74] (pc' := 74) (L' := [some (.ref b), some (.ref b2)]) (st' := [.int (Int32.ofInt 6), .int (Int32.ofInt 0), .ref (b + 3), .int (Int32.ofInt 0), .ref (b2 + 3)]) rfl rfl ?_
  refine hp_ac (virt := false) (pc' := 77) rfl rfl rfl (hp_bl hb2 3 (by decide)) (hp_bl hb 3 (by decide)) (hp_b3 hb2 X _) (fun _ => (hp_b3 hb X _)) rfl ?_
  exact ht_180_77 hb hb2 (hp_cp S (b2 + 3) (b + 3) (Int32.ofInt 6).toNatClampNeg)   n
set_option maxRecDepth 10000 in
theorem ht_180_47 {X : hp_X} {b : Nat} {b2 : Nat} (hb : hp_b b) (hb2 : hp_b b2) (S : hp_S) (n : Nat) : hp_T n 180 47 [some (.ref b), some (.ref b2)] [] (hp_mem X S) (hp_v X) (hq_180_47 b b2 S) := by
  unfold hq_180_47
  refine hp_sN [48] (pc' := 48) (L' := [some (.ref b), some (.ref b2)]) (st' := [.ref b2]) rfl rfl ?_
  refine hp_gf (pc' := 51) rfl (hp_bl hb2 0 (by decide)) (hp_b0 hb2 X _) rfl rfl ?_
  refine hp_sN [52, 53] (pc' := 53) (L' := [some (.ref b), some (.ref b2)]) (st' := [.ref b, .int (Int32.ofInt 0), .ref (b2 + 2)]) rfl rfl ?_
  refine hp_gf (pc' := 56) rfl (hp_bl hb 0 (by decide)) (hp_b0 hb X _) rfl rfl ?_
  refine hp_sN [57, 59] (pc' := 59) (L' := [some (.ref b), some (.ref b2)]) (st' := [.int (Int32.ofInt 6), .int (Int32.ofInt 0), .ref (b + 2), .int (Int32.ofInt 0), .ref (b2 + 2)]) rfl rfl ?_
  refine hp_ac (virt := false) (pc' := 62) rfl rfl rfl (hp_bl hb2 2 (by decide)) (hp_bl hb 2 (by decide)) (hp_b2 hb2 X _) (fun _ => (hp_b2 hb X _)) rfl ?_
  exact ht_180_62 hb hb2 (hp_cp S (b2 + 2) (b + 2) (Int32.ofInt 6).toNatClampNeg)   n
set_option maxRecDepth 10000 in
theorem ht_180_39 {X : hp_X} {b : Nat} {b2 : Nat} (hb : hp_b b) (hb2 : hp_b b2) (S : hp_S) (n : Nat) : hp_T n 180 39 [some (.ref b), some (.ref b2)] [] (hp_mem X S) (hp_v X) (hq_180_39 b b2 S) := by
  unfold hq_180_39
  refine hp_sN [40, 41] (pc' := 41) (L' := [some (.ref b), some (.ref b2)]) (st' := [.ref b2, .ref b]) rfl rfl ?_
  refine hp_gf (pc' := 44) rfl (hp_bl hb2 0 (by decide)) (hp_b0 hb2 X _) rfl rfl ?_
  refine hp_pf (pc' := 47) rfl (hp_bl hb 0 (by decide)) (hp_b0 hb X _) (hp_wb hb X _ _ _ (by decide)) rfl ?_
  exact ht_180_47 hb hb2 (hp_w S b 4 (S b2 4))   n
set_option maxRecDepth 10000 in
theorem ht_180_31 {X : hp_X} {b : Nat} {b2 : Nat} (hb : hp_b b) (hb2 : hp_b b2) (S : hp_S) (n : Nat) : hp_T n 180 31 [some (.ref b), some (.ref b2)] [] (hp_mem X S) (hp_v X) (hq_180_31 b b2 S) := by
  unfold hq_180_31
  refine hp_sN [32, 33] (pc' := 33) (L' := [some (.ref b), some (.ref b2)]) (st' := [.ref b2, .ref b]) rfl rfl ?_
  refine hp_gf (pc' := 36) rfl (hp_bl hb2 0 (by decide)) (hp_b0 hb2 X _) rfl rfl ?_
  refine hp_pf (pc' := 39) rfl (hp_bl hb 0 (by decide)) (hp_b0 hb X _) (hp_wb hb X _ _ _ (by decide)) rfl ?_
  exact ht_180_39 hb hb2 (hp_w S b 3 (S b2 3))   n
set_option maxRecDepth 10000 in
theorem ht_180_23 {X : hp_X} {b : Nat} {b2 : Nat} (hb : hp_b b) (hb2 : hp_b b2) (S : hp_S) (n : Nat) : hp_T n 180 23 [some (.ref b), some (.ref b2)] [] (hp_mem X S) (hp_v X) (hq_180_23 b b2 S) := by
  unfold hq_180_23
  refine hp_sN [24, 25] (pc' := 25) (L' := [some (.ref b), some (.ref b2)]) (st' := [.ref b2, .ref b]) rfl rfl ?_
  refine hp_gf (pc' := 28) rfl (hp_bl hb2 0 (by decide)) (hp_b0 hb2 X _) rfl rfl ?_
  refine hp_pf (pc' := 31) rfl (hp_bl hb 0 (by decide)) (hp_b0 hb X _) (hp_wb hb X _ _ _ (by decide)) rfl ?_
  exact ht_180_31 hb hb2 (hp_w S b 2 (S b2 2))   n
set_option maxRecDepth 10000 in
theorem ht_180_15 {X : hp_X} {b : Nat} {b2 : Nat} (hb : hp_b b) (hb2 : hp_b b2) (S : hp_S) (n : Nat) : hp_T n 180 15 [some (.ref b), some (.ref b2)] [] (hp_mem X S) (hp_v X) (hq_180_15 b b2 S) := by
  unfold hq_180_15
  refine hp_sN [16, 17] (pc' := 17) (L' := [some (.ref b), some (.ref b2)]) (st' := [.ref b2, .ref b]) rfl rfl ?_
  refine hp_gf (pc' := 20) rfl (hp_bl hb2 0 (by decide)) (hp_b0 hb2 X _) rfl rfl ?_
  refine hp_pf (pc' := 23) rfl (hp_bl hb 0 (by decide)) (hp_b0 hb X _) (hp_wb hb X _ _ _ (by decide)) rfl ?_
  exact ht_180_23 hb hb2 (hp_w S b 1 (S b2 1))   n
set_option maxRecDepth 10000 in
theorem ht_180 {X : hp_X} {b : Nat} {b2 : Nat} (hb : hp_b b) (hb2 : hp_b b2) (S : hp_S) (n : Nat) : hp_T n 180 0 [some (.ref b), some (.ref b2)] [] (hp_mem X S) (hp_v X) (hq_180 S b b2) := by
  unfold hq_180
  refine hp_sN [1] (pc' := 1) (L' := [some (.ref b), some (.ref b2)]) (st' := [.ref b2]) rfl rfl ?_
  refine hp_gf (pc' := 4) rfl (hp_bl hb2 0 (by decide)) (hp_b0 hb2 X _) rfl rfl ?_
  refine hp_sN [5, 6] (pc' := 6) (L' := [some (.ref b), some (.ref b2)]) (st' := [.ref b, .int (Int32.ofInt 0), .ref (b2 + 1)]) rfl rfl ?_
  refine hp_gf (pc' := 9) rfl (hp_bl hb 0 (by decide)) (hp_b0 hb X _) rfl rfl ?_
  refine hp_sN [10, 12] (pc' := 12) (L' := [some (.ref b), some (.ref b2)]) (st' := [.int (Int32.ofInt 24), .int (Int32.ofInt 0), .ref (b + 1), .int (Int32.ofInt 0), .ref (b2 + 1)]) rfl rfl ?_
  refine hp_ac (virt := false) (pc' := 15) rfl rfl rfl (hp_bl hb2 1 (by decide)) (hp_bl hb 1 (by decide)) (hp_b1 hb2 X _) (fun _ => (hp_b1 hb X _)) rfl ?_
  exact ht_180_15 hb hb2 (hp_cp S (b2 + 1) (b + 1) (Int32.ofInt 24).toNatClampNeg)   n
theorem hk_180 {X : hp_X} {b : Nat} {b2 : Nat} (hb : hp_b b) (hb2 : hp_b b2) (S : hp_S) : hp_K 180 [.ref b, .ref b2] (hp_mem X S) (hp_v X) (hq_180 S b b2) := by
  refine hp_mk (q := hzq_180) rfl (by decide) (L := [some (.ref b), some (.ref b2)]) rfl (fun n => ?_)
  exact ht_180 hb hb2 S n
/-! 173: HatsOfTheWind$Shelf.isElement(I)Z -/
def hq_173 (S : hp_S) (e : Nat) (i1 : Int32) : Int32 := (if hz_cmp .lt i1 0 = true then (Int32.ofInt 0) else (if hz_cmp .ge i1 (S (29 + 2 * e) 4) = true then (Int32.ofInt 0) else (Int32.ofInt 1)))
set_option maxRecDepth 10000 in
theorem ht_173 {X : hp_X} {e : Nat} (he : e < 8) (S : hp_S) (i1 : Int32) (n : Nat) : hp_T n 173 0 [some (.ref (29 + 2 * e)), some (.int i1)] [] (hp_mem X S) (hp_i X S) (hq_173 S e i1) := by
  unfold hq_173
  refine hp_sN [1] (pc' := 1) (L' := [some (.ref (29 + 2 * e)), some (.int i1)]) (st' := [.int i1]) rfl rfl ?_
  refine hp_if (pc' := 4) rfl rfl (fun h1 => ?_) (fun h1 => ?_)
  · refine hp_sN [17] (pc' := 17) (L' := [some (.ref (29 + 2 * e)), some (.int i1)]) (st' := [.int (Int32.ofInt 0)]) rfl rfl ?_
    exact hp_Ri rfl
  · refine hp_sN [5, 6] (pc' := 6) (L' := [some (.ref (29 + 2 * e)), some (.int i1)]) (st' := [.ref (29 + 2 * e), .int i1]) rfl rfl ?_
    refine hp_gf (pc' := 9) rfl (hp_sl0 he) (hp_s0 he X _) rfl rfl ?_
    refine hp_ic (pc' := 12) rfl rfl (fun h2 => ?_) (fun h2 => ?_)
    · refine hp_sN [17] (pc' := 17) (L' := [some (.ref (29 + 2 * e)), some (.int i1)]) (st' := [.int (Int32.ofInt 0)]) rfl rfl ?_
      exact hp_Ri rfl
    · refine hp_sN [13, 17] (pc' := 17) (L' := [some (.ref (29 + 2 * e)), some (.int i1)]) (st' := [.int (Int32.ofInt 1)]) rfl rfl ?_
      exact hp_Ri rfl
theorem hk_173 {X : hp_X} {e : Nat} (he : e < 8) (S : hp_S) (i1 : Int32) : hp_K 173 [.ref (29 + 2 * e), .int i1] (hp_mem X S) (hp_i X S) (hq_173 S e i1) := by
  refine hp_mk (q := hzq_173) rfl (by decide) (L := [some (.ref (29 + 2 * e)), some (.int i1)]) rfl (fun n => ?_)
  exact ht_173 he S i1 n
/-! 213: HatsOfTheWind$Text.digit(LHatsOfTheWind$Shelf;I)I -/
def hq_213 (S : hp_S) (e : Nat) (i2 : Int32) : Int32 := (if hz_cmp .eq (hq_173 S e i2) 0 = true then (Int32.ofInt 0) else ((S (30 + 2 * e) i2.toNatClampNeg) - (Int32.ofInt 48)))
set_option maxRecDepth 10000 in
theorem ht_213 {X : hp_X} {e : Nat} (he : e < 8) (S : hp_S) (i2 : Int32) (n : Nat) : hp_T n 213 0 [some (.ref (29 + 2 * e)), some (.int i2)] [] (hp_mem X S) (hp_i X S) (hq_213 S e i2) := by
  unfold hq_213
  refine hp_sN [1, 2] (pc' := 2) (L' := [some (.ref (29 + 2 * e)), some (.int i2)]) (st' := [.int i2, .ref (29 + 2 * e)]) rfl rfl ?_
  refine hp_iv (virt := true) (pc' := 5) (rv := some (.int (hq_173 S e i2))) (M1 := hp_mem X (S)) rfl rfl (by decide) (hk_173 he S (i2)) rfl rfl ?_
  show hp_T _ 213 5 _ [.int (hq_173 S e i2)] _ _ _
  refine hp_if (pc' := 8) rfl rfl (fun h1 => ?_) (fun h1 => ?_)
  · refine hp_sN [21] (pc' := 21) (L' := [some (.ref (29 + 2 * e)), some (.int i2)]) (st' := [.int (Int32.ofInt 0)]) rfl rfl ?_
    exact hp_Ri rfl
  · refine hp_sN [9] (pc' := 9) (L' := [some (.ref (29 + 2 * e)), some (.int i2)]) (st' := [.ref (29 + 2 * e)]) rfl rfl ?_
    refine hp_gf (pc' := 12) rfl (hp_sl0 he) (hp_s0 he X _) rfl rfl ?_
    refine hp_sN [13] (pc' := 13) (L' := [some (.ref (29 + 2 * e)), some (.int i2)]) (st' := [.int i2, .ref (30 + 2 * e)]) rfl rfl ?_
    refine hp_al (pc' := 14) rfl (hp_sl1 he) (hp_s1 he X _) rfl ?_
    refine hp_sN [16, 17, 21] (pc' := 21) (L' := [some (.ref (29 + 2 * e)), some (.int i2)]) (st' := [.int ((S (30 + 2 * e) i2.toNatClampNeg) - (Int32.ofInt 48))]) rfl rfl ?_
    exact hp_Ri rfl
theorem hk_213 {X : hp_X} {e : Nat} (he : e < 8) (S : hp_S) (i2 : Int32) : hp_K 213 [.ref (29 + 2 * e), .int i2] (hp_mem X S) (hp_i X S) (hq_213 S e i2) := by
  refine hp_mk (q := hzq_213) rfl (by decide) (L := [some (.ref (29 + 2 * e)), some (.int i2)]) rfl (fun n => ?_)
  exact ht_213 he S i2 n
/-! 46: HatsOfTheWind.isPlace(I)Z -/
def hq_46 (S : hp_S) (i1 : Int32) : Int32 := (hq_44 S i1 (Int32.ofInt 0) (Int32.ofInt 20))
set_option maxRecDepth 10000 in
theorem ht_46 {X : hp_X} (S : hp_S) (i1 : Int32) (n : Nat) : hp_T n 46 0 [some (.int i1)] [] (hp_mem X S) (hp_i X S) (hq_46 S i1) := by
  unfold hq_46
  refine hp_sN [1, 2, 4] (pc' := 4) (L' := [some (.int i1)]) (st' := [.int (Int32.ofInt 20), .int (Int32.ofInt 0), .int i1]) rfl rfl ?_
  refine hp_iv (virt := false) (pc' := 7) (rv := some (.int (hq_44 S i1 (Int32.ofInt 0) (Int32.ofInt 20)))) (M1 := hp_mem X (S)) rfl rfl (by decide) (hk_44 S (i1) ((Int32.ofInt 0)) ((Int32.ofInt 20))) rfl rfl ?_
  show hp_T _ 46 7 _ [.int (hq_44 S i1 (Int32.ofInt 0) (Int32.ofInt 20))] _ _ _
  exact hp_Ri rfl
theorem hk_46 {X : hp_X} (S : hp_S) (i1 : Int32) : hp_K 46 [.int i1] (hp_mem X S) (hp_i X S) (hq_46 S i1) := by
  refine hp_mk (q := hzq_46) rfl (by decide) (L := [some (.int i1)]) rfl (fun n => ?_)
  exact ht_46 S i1 n
/-! 192: HatsOfTheWind$Street.addPerson(II)I -/
def hq_192_70 (b : Nat) (i1 : Int32) (i2 : Int32) (S : hp_S) : Int32 × hp_S := (((S b 4) - (Int32.ofInt 1)), S)
def hq_192_60 (b : Nat) (i1 : Int32) (i2 : Int32) (S : hp_S) : Int32 × hp_S := (hq_192_70 b i1 i2 (hp_w S b 4 ((S b 4) + (Int32.ofInt 1))) )
def hq_192_50 (b : Nat) (i1 : Int32) (i2 : Int32) (S : hp_S) : Int32 × hp_S := (hq_192_60 b i1 i2 (hp_w S (b + 4) (S b 4).toNatClampNeg (Int32.ofInt 0)) )
def hq_192_40 (b : Nat) (i1 : Int32) (i2 : Int32) (S : hp_S) : Int32 × hp_S := (hq_192_50 b i1 i2 (hp_w S (b + 3) (S b 4).toNatClampNeg i2) )
def hq_192 (S : hp_S) (b : Nat) (i1 : Int32) (i2 : Int32) : Int32 × hp_S := (if hz_cmp .eq (hq_46 S i1) 0 = true then ((Int32.ofInt (-1)), S) else (if hz_cmp .ne (hq_44 S i2 (Int32.ofInt 1) (Int32.ofInt 5)) 0 = true then (if hz_cmp .lt (S b 4) (Int32.ofInt 6) = true then (hq_192_40 b i1 i2 (hp_w S (b + 2) (S b 4).toNatClampNeg i1) ) else ((Int32.ofInt (-2)), S)) else ((Int32.ofInt (-1)), S)))
theorem hf_192_70 {b : Nat} {i1 : Int32} {i2 : Int32} (S : hp_S) (j : Nat) (z0 : j ≠ (b + 2)) (z1 : j ≠ (b + 3)) (z2 : j ≠ (b + 4)) (z3 : j ≠ b) : (hq_192_70 b i1 i2 S).2 j = S j := by
  unfold hq_192_70
  repeat' split
  all_goals simp [hp_wo, hp_wgo, hp_cpo, z0, z1, z2, z3]
theorem hf_192_60 {b : Nat} {i1 : Int32} {i2 : Int32} (S : hp_S) (j : Nat) (z0 : j ≠ (b + 2)) (z1 : j ≠ (b + 3)) (z2 : j ≠ (b + 4)) (z3 : j ≠ b) : (hq_192_60 b i1 i2 S).2 j = S j := by
  unfold hq_192_60
  repeat' split
  all_goals simp [hp_wo, hp_wgo, hp_cpo, z0, z1, z2, z3, hf_192_70]
theorem hf_192_50 {b : Nat} {i1 : Int32} {i2 : Int32} (S : hp_S) (j : Nat) (z0 : j ≠ (b + 2)) (z1 : j ≠ (b + 3)) (z2 : j ≠ (b + 4)) (z3 : j ≠ b) : (hq_192_50 b i1 i2 S).2 j = S j := by
  unfold hq_192_50
  repeat' split
  all_goals simp [hp_wo, hp_wgo, hp_cpo, z0, z1, z2, z3, hf_192_70, hf_192_60]
theorem hf_192_40 {b : Nat} {i1 : Int32} {i2 : Int32} (S : hp_S) (j : Nat) (z0 : j ≠ (b + 2)) (z1 : j ≠ (b + 3)) (z2 : j ≠ (b + 4)) (z3 : j ≠ b) : (hq_192_40 b i1 i2 S).2 j = S j := by
  unfold hq_192_40
  repeat' split
  all_goals simp [hp_wo, hp_wgo, hp_cpo, z0, z1, z2, z3, hf_192_70, hf_192_60, hf_192_50]
theorem hf_192 {b : Nat} (S : hp_S) (i1 : Int32) (i2 : Int32) (j : Nat) (z0 : j ≠ (b + 2)) (z1 : j ≠ (b + 3)) (z2 : j ≠ (b + 4)) (z3 : j ≠ b) : (hq_192 S b i1 i2).2 j = S j := by
  unfold hq_192
  repeat' split
  all_goals simp [hp_wo, hp_wgo, hp_cpo, z0, z1, z2, z3, hf_192_70, hf_192_60, hf_192_50, hf_192_40]
set_option maxRecDepth 10000 in
theorem ht_192_70 {X : hp_X} {b : Nat} (hb : hp_b b) (i1 : Int32) (i2 : Int32) (S : hp_S) (n : Nat) : hp_T n 192 70 [some (.ref b), some (.int i1), some (.int i2)] [] (hp_mem X S) (hp_is X) (hq_192_70 b i1 i2 S) := by
  unfold hq_192_70
  refine hp_sN [71] (pc' := 71) (L' := [some (.ref b), some (.int i1), some (.int i2)]) (st' := [.ref b]) rfl rfl ?_
  refine hp_gf (pc' := 74) rfl (hp_bl hb 0 (by decide)) (hp_b0 hb X _) rfl rfl ?_
  refine hp_sN [75, 76] (pc' := 76) (L' := [some (.ref b), some (.int i1), some (.int i2)]) (st' := [.int ((S b 4) - (Int32.ofInt 1))]) rfl rfl ?_
  exact hp_Ris rfl
set_option maxRecDepth 10000 in
theorem ht_192_60 {X : hp_X} {b : Nat} (hb : hp_b b) (i1 : Int32) (i2 : Int32) (S : hp_S) (n : Nat) : hp_T n 192 60 [some (.ref b), some (.int i1), some (.int i2)] [] (hp_mem X S) (hp_is X) (hq_192_60 b i1 i2 S) := by
  unfold hq_192_60
  refine hp_sN [61, 62] (pc' := 62) (L' := [some (.ref b), some (.int i1), some (.int i2)]) (st' := [.ref b, .ref b]) rfl rfl ?_
  refine hp_gf (pc' := 65) rfl (hp_bl hb 0 (by decide)) (hp_b0 hb X _) rfl rfl ?_
  refine hp_sN [66, 67] (pc' := 67) (L' := [some (.ref b), some (.int i1), some (.int i2)]) (st' := [.int ((S b 4) + (Int32.ofInt 1)), .ref b]) rfl rfl ?_
  refine hp_pf (pc' := 70) rfl (hp_bl hb 0 (by decide)) (hp_b0 hb X _) (hp_wb hb X _ _ _ (by decide)) rfl ?_
  exact ht_192_70 hb i1 i2 (hp_w S b 4 ((S b 4) + (Int32.ofInt 1)))   n
set_option maxRecDepth 10000 in
theorem ht_192_50 {X : hp_X} {b : Nat} (hb : hp_b b) (i1 : Int32) (i2 : Int32) (S : hp_S) (n : Nat) : hp_T n 192 50 [some (.ref b), some (.int i1), some (.int i2)] [] (hp_mem X S) (hp_is X) (hq_192_50 b i1 i2 S) := by
  unfold hq_192_50
  refine hp_sN [51] (pc' := 51) (L' := [some (.ref b), some (.int i1), some (.int i2)]) (st' := [.ref b]) rfl rfl ?_
  refine hp_gf (pc' := 54) rfl (hp_bl hb 0 (by decide)) (hp_b0 hb X _) rfl rfl ?_
  refine hp_sN [55] (pc' := 55) (L' := [some (.ref b), some (.int i1), some (.int i2)]) (st' := [.ref b, .ref (b + 4)]) rfl rfl ?_
  refine hp_gf (pc' := 58) rfl (hp_bl hb 0 (by decide)) (hp_b0 hb X _) rfl rfl ?_
  refine hp_sN [59] (pc' := 59) (L' := [some (.ref b), some (.int i1), some (.int i2)]) (st' := [.int (Int32.ofInt 0), .int (S b 4), .ref (b + 4)]) rfl rfl ?_
  refine hp_as (pc' := 60) rfl (hp_bl hb 4 (by decide)) (fun _ => (hp_b4 hb X _)) rfl ?_
  exact ht_192_60 hb i1 i2 (hp_w S (b + 4) (S b 4).toNatClampNeg (Int32.ofInt 0))   n
set_option maxRecDepth 10000 in
theorem ht_192_40 {X : hp_X} {b : Nat} (hb : hp_b b) (i1 : Int32) (i2 : Int32) (S : hp_S) (n : Nat) : hp_T n 192 40 [some (.ref b), some (.int i1), some (.int i2)] [] (hp_mem X S) (hp_is X) (hq_192_40 b i1 i2 S) := by
  unfold hq_192_40
  refine hp_sN [41] (pc' := 41) (L' := [some (.ref b), some (.int i1), some (.int i2)]) (st' := [.ref b]) rfl rfl ?_
  refine hp_gf (pc' := 44) rfl (hp_bl hb 0 (by decide)) (hp_b0 hb X _) rfl rfl ?_
  refine hp_sN [45] (pc' := 45) (L' := [some (.ref b), some (.int i1), some (.int i2)]) (st' := [.ref b, .ref (b + 3)]) rfl rfl ?_
  refine hp_gf (pc' := 48) rfl (hp_bl hb 0 (by decide)) (hp_b0 hb X _) rfl rfl ?_
  refine hp_sN [49] (pc' := 49) (L' := [some (.ref b), some (.int i1), some (.int i2)]) (st' := [.int i2, .int (S b 4), .ref (b + 3)]) rfl rfl ?_
  refine hp_as (pc' := 50) rfl (hp_bl hb 3 (by decide)) (fun _ => (hp_b3 hb X _)) rfl ?_
  exact ht_192_50 hb i1 i2 (hp_w S (b + 3) (S b 4).toNatClampNeg i2)   n
set_option maxRecDepth 10000 in
theorem ht_192 {X : hp_X} {b : Nat} (hb : hp_b b) (S : hp_S) (i1 : Int32) (i2 : Int32) (n : Nat) : hp_T n 192 0 [some (.ref b), some (.int i1), some (.int i2)] [] (hp_mem X S) (hp_is X) (hq_192 S b i1 i2) := by
  unfold hq_192
  refine hp_sN [1] (pc' := 1) (L' := [some (.ref b), some (.int i1), some (.int i2)]) (st' := [.int i1]) rfl rfl ?_
  refine hp_iv (virt := false) (pc' := 4) (rv := some (.int (hq_46 S i1))) (M1 := hp_mem X (S)) rfl rfl (by decide) (hk_46 S (i1)) rfl rfl ?_
  show hp_T _ 192 4 _ [.int (hq_46 S i1)] _ _ _
  refine hp_if (pc' := 7) rfl rfl (fun h1 => ?_) (fun h1 => ?_)
  · refine hp_sN [17] (pc' := 17) (L' := [some (.ref b), some (.int i1), some (.int i2)]) (st' := [.int (Int32.ofInt (-1))]) rfl rfl ?_
    exact hp_Ris rfl
  · refine hp_sN [8, 9, 10] (pc' := 10) (L' := [some (.ref b), some (.int i1), some (.int i2)]) (st' := [.int (Int32.ofInt 5), .int (Int32.ofInt 1), .int i2]) rfl rfl ?_
    refine hp_iv (virt := false) (pc' := 13) (rv := some (.int (hq_44 S i2 (Int32.ofInt 1) (Int32.ofInt 5)))) (M1 := hp_mem X (S)) rfl rfl (by decide) (hk_44 S (i2) ((Int32.ofInt 1)) ((Int32.ofInt 5))) rfl rfl ?_
    show hp_T _ 192 13 _ [.int (hq_44 S i2 (Int32.ofInt 1) (Int32.ofInt 5))] _ _ _
    refine hp_if (pc' := 16) rfl rfl (fun h2 => ?_) (fun h2 => ?_)
    · refine hp_sN [19] (pc' := 19) (L' := [some (.ref b), some (.int i1), some (.int i2)]) (st' := [.ref b]) rfl rfl ?_
      refine hp_gf (pc' := 22) rfl (hp_bl hb 0 (by decide)) (hp_b0 hb X _) rfl rfl ?_
      refine hp_sN [24] (pc' := 24) (L' := [some (.ref b), some (.int i1), some (.int i2)]) (st' := [.int (Int32.ofInt 6), .int (S b 4)]) rfl rfl ?_
      refine hp_ic (pc' := 27) rfl rfl (fun h3 => ?_) (fun h3 => ?_)
      · refine hp_sN [31] (pc' := 31) (L' := [some (.ref b), some (.int i1), some (.int i2)]) (st' := [.ref b]) rfl rfl ?_
        refine hp_gf (pc' := 34) rfl (hp_bl hb 0 (by decide)) (hp_b0 hb X _) rfl rfl ?_
        refine hp_sN [35] (pc' := 35) (L' := [some (.ref b), some (.int i1), some (.int i2)]) (st' := [.ref b, .ref (b + 2)]) rfl rfl ?_
        refine hp_gf (pc' := 38) rfl (hp_bl hb 0 (by decide)) (hp_b0 hb X _) rfl rfl ?_
        refine hp_sN [39] (pc' := 39) (L' := [some (.ref b), some (.int i1), some (.int i2)]) (st' := [.int i1, .int (S b 4), .ref (b + 2)]) rfl rfl ?_
        refine hp_as (pc' := 40) rfl (hp_bl hb 2 (by decide)) (fun _ => (hp_b2 hb X _)) rfl ?_
        exact ht_192_40 hb i1 i2 (hp_w S (b + 2) (S b 4).toNatClampNeg i1)   n
      · refine hp_sN [29] (pc' := 29) (L' := [some (.ref b), some (.int i1), some (.int i2)]) (st' := [.int (Int32.ofInt (-2))]) rfl rfl ?_
        exact hp_Ris rfl
    · refine hp_sN [17] (pc' := 17) (L' := [some (.ref b), some (.int i1), some (.int i2)]) (st' := [.int (Int32.ofInt (-1))]) rfl rfl ?_
      exact hp_Ris rfl
theorem hk_192 {X : hp_X} {b : Nat} (hb : hp_b b) (S : hp_S) (i1 : Int32) (i2 : Int32) : hp_K 192 [.ref b, .int i1, .int i2] (hp_mem X S) (hp_is X) (hq_192 S b i1 i2) := by
  refine hp_mk (q := hzq_192) rfl (by decide) (L := [some (.ref b), some (.int i1), some (.int i2)]) rfl (fun n => ?_)
  exact ht_192 hb S i1 i2 n
/-! 48: HatsOfTheWind.isKind(I)Z -/
def hq_48 (S : hp_S) (i1 : Int32) : Int32 := (hq_44 S i1 (Int32.ofInt 0) (Int32.ofInt 7))
set_option maxRecDepth 10000 in
theorem ht_48 {X : hp_X} (S : hp_S) (i1 : Int32) (n : Nat) : hp_T n 48 0 [some (.int i1)] [] (hp_mem X S) (hp_i X S) (hq_48 S i1) := by
  unfold hq_48
  refine hp_sN [1, 2, 4] (pc' := 4) (L' := [some (.int i1)]) (st' := [.int (Int32.ofInt 7), .int (Int32.ofInt 0), .int i1]) rfl rfl ?_
  refine hp_iv (virt := false) (pc' := 7) (rv := some (.int (hq_44 S i1 (Int32.ofInt 0) (Int32.ofInt 7)))) (M1 := hp_mem X (S)) rfl rfl (by decide) (hk_44 S (i1) ((Int32.ofInt 0)) ((Int32.ofInt 7))) rfl rfl ?_
  show hp_T _ 48 7 _ [.int (hq_44 S i1 (Int32.ofInt 0) (Int32.ofInt 7))] _ _ _
  exact hp_Ri rfl
theorem hk_48 {X : hp_X} (S : hp_S) (i1 : Int32) : hp_K 48 [.int i1] (hp_mem X S) (hp_i X S) (hq_48 S i1) := by
  refine hp_mk (q := hzq_48) rfl (by decide) (L := [some (.int i1)]) rfl (fun n => ?_)
  exact ht_48 S i1 n
/-! 49: HatsOfTheWind.isFigure(I)Z -/
def hq_49 (S : hp_S) (i1 : Int32) : Int32 := (hq_44 S i1 (Int32.ofInt 0) (Int32.ofInt 9))
set_option maxRecDepth 10000 in
theorem ht_49 {X : hp_X} (S : hp_S) (i1 : Int32) (n : Nat) : hp_T n 49 0 [some (.int i1)] [] (hp_mem X S) (hp_i X S) (hq_49 S i1) := by
  unfold hq_49
  refine hp_sN [1, 2, 4] (pc' := 4) (L' := [some (.int i1)]) (st' := [.int (Int32.ofInt 9), .int (Int32.ofInt 0), .int i1]) rfl rfl ?_
  refine hp_iv (virt := false) (pc' := 7) (rv := some (.int (hq_44 S i1 (Int32.ofInt 0) (Int32.ofInt 9)))) (M1 := hp_mem X (S)) rfl rfl (by decide) (hk_44 S (i1) ((Int32.ofInt 0)) ((Int32.ofInt 9))) rfl rfl ?_
  show hp_T _ 49 7 _ [.int (hq_44 S i1 (Int32.ofInt 0) (Int32.ofInt 9))] _ _ _
  exact hp_Ri rfl
theorem hk_49 {X : hp_X} (S : hp_S) (i1 : Int32) : hp_K 49 [.int i1] (hp_mem X S) (hp_i X S) (hq_49 S i1) := by
  refine hp_mk (q := hzq_49) rfl (by decide) (L := [some (.int i1)]) rfl (fun n => ?_)
  exact ht_49 S i1 n
/-! 181: HatsOfTheWind$Street.isPerson(I)Z -/
def hq_181 (S : hp_S) (b : Nat) (i1 : Int32) : Int32 := (if hz_cmp .lt i1 0 = true then (Int32.ofInt 0) else (if hz_cmp .ge i1 (S b 4) = true then (Int32.ofInt 0) else (Int32.ofInt 1)))
set_option maxRecDepth 10000 in
theorem ht_181 {X : hp_X} {b : Nat} (hb : hp_b b) (S : hp_S) (i1 : Int32) (n : Nat) : hp_T n 181 0 [some (.ref b), some (.int i1)] [] (hp_mem X S) (hp_i X S) (hq_181 S b i1) := by
  unfold hq_181
  refine hp_sN [1] (pc' := 1) (L' := [some (.ref b), some (.int i1)]) (st' := [.int i1]) rfl rfl ?_
  refine hp_if (pc' := 4) rfl rfl (fun h1 => ?_) (fun h1 => ?_)
  · refine hp_sN [17] (pc' := 17) (L' := [some (.ref b), some (.int i1)]) (st' := [.int (Int32.ofInt 0)]) rfl rfl ?_
    exact hp_Ri rfl
  · refine hp_sN [5, 6] (pc' := 6) (L' := [some (.ref b), some (.int i1)]) (st' := [.ref b, .int i1]) rfl rfl ?_
    refine hp_gf (pc' := 9) rfl (hp_bl hb 0 (by decide)) (hp_b0 hb X _) rfl rfl ?_
    refine hp_ic (pc' := 12) rfl rfl (fun h2 => ?_) (fun h2 => ?_)
    · refine hp_sN [17] (pc' := 17) (L' := [some (.ref b), some (.int i1)]) (st' := [.int (Int32.ofInt 0)]) rfl rfl ?_
      exact hp_Ri rfl
    · refine hp_sN [13, 17] (pc' := 17) (L' := [some (.ref b), some (.int i1)]) (st' := [.int (Int32.ofInt 1)]) rfl rfl ?_
      exact hp_Ri rfl
theorem hk_181 {X : hp_X} {b : Nat} (hb : hp_b b) (S : hp_S) (i1 : Int32) : hp_K 181 [.ref b, .int i1] (hp_mem X S) (hp_i X S) (hq_181 S b i1) := by
  refine hp_mk (q := hzq_181) rfl (by decide) (L := [some (.ref b), some (.int i1)]) rfl (fun n => ?_)
  exact ht_181 hb S i1 n
/-! 187: HatsOfTheWind$Street.hatOf(I)I -/
def hq_187_2 (b : Nat) (i1 : Int32) : Nat → hp_S → Int32 → Int32
  | 0, S, _ => 0
  | m + 1, S, v2 => (if hz_cmp .ge v2 (S b 8) = true then (Int32.ofInt 9) else (if hz_cmp .ne (S (b + 7) v2.toNatClampNeg) i1 = true then hq_187_2 b i1 m S (v2 + (Int32.ofInt 1)) else v2))
def hq_187 (S : hp_S) (b : Nat) (i1 : Int32) : Int32 := (hq_187_2 b i1 (((S b 8).toInt - (Int32.ofInt 0).toInt).toNat + 1) S ((Int32.ofInt 0)))
set_option maxRecDepth 10000 in
theorem ht_187_2 {X : hp_X} {b : Nat} (hb : hp_b b) (i1 : Int32) (S : hp_S) : ∀ (n m : Nat) (v2 : Int32), ((S b 8).toInt - v2.toInt).toNat < m → hp_T n 187 2 [some (.ref b), some (.int i1), some (.int v2)] [] (hp_mem X S) (hp_i X S) (hq_187_2 b i1 m S v2) := by
  intro n
  induction n with
  | zero => intros; exact hp_0
  | succ n ih =>
    intro m v2 hm
    cases m with
    | zero => exact absurd hm (Nat.not_lt_zero _)
    | succ m =>
      rw [hq_187_2]
      refine hp_sN [3, 4] (pc' := 4) (L' := [some (.ref b), some (.int i1), some (.int v2)]) (st' := [.ref b, .int v2]) rfl rfl ?_
      refine hp_gf (pc' := 7) rfl (hp_bl hb 0 (by decide)) (hp_b0 hb X _) rfl rfl ?_
      refine hp_ic (pc' := 10) rfl rfl (fun h1 => ?_) (fun h1 => ?_)
      · refine hp_sN [30] (pc' := 30) (L' := [some (.ref b), some (.int i1), some (.int v2)]) (st' := [.int (Int32.ofInt 9)]) rfl rfl ?_
        exact hp_Ri rfl
      · refine hp_sN [11] (pc' := 11) (L' := [some (.ref b), some (.int i1), some (.int v2)]) (st' := [.ref b]) rfl rfl ?_
        refine hp_gf (pc' := 14) rfl (hp_bl hb 0 (by decide)) (hp_b0 hb X _) rfl rfl ?_
        refine hp_sN [15] (pc' := 15) (L' := [some (.ref b), some (.int i1), some (.int v2)]) (st' := [.int v2, .ref (b + 7)]) rfl rfl ?_
        refine hp_al (pc' := 16) rfl (hp_bl hb 7 (by decide)) (hp_b7 hb X _) rfl ?_
        refine hp_sN [17] (pc' := 17) (L' := [some (.ref b), some (.int i1), some (.int v2)]) (st' := [.int i1, .int (S (b + 7) v2.toNatClampNeg)]) rfl rfl ?_
        refine hp_ic (pc' := 20) rfl rfl (fun h2 => ?_) (fun h2 => ?_)
        · refine hp_sB 25 [2] (pc' := 2) (L' := [some (.ref b), some (.int i1), some (.int (v2 + (Int32.ofInt 1)))]) (st' := []) rfl rfl ?_
          exact ih m ((v2 + (Int32.ofInt 1))) (hp_up h1 hm)
        · refine hp_sN [21] (pc' := 21) (L' := [some (.ref b), some (.int i1), some (.int v2)]) (st' := [.int v2]) rfl rfl ?_
          exact hp_Ri rfl
set_option maxRecDepth 10000 in
theorem ht_187 {X : hp_X} {b : Nat} (hb : hp_b b) (S : hp_S) (i1 : Int32) (n : Nat) : hp_T n 187 0 [some (.ref b), some (.int i1), none] [] (hp_mem X S) (hp_i X S) (hq_187 S b i1) := by
  unfold hq_187
  refine hp_sN [1, 2] (pc' := 2) (L' := [some (.ref b), some (.int i1), some (.int (Int32.ofInt 0))]) (st' := []) rfl rfl ?_
  exact ht_187_2 hb i1 S n (((S b 8).toInt - (Int32.ofInt 0).toInt).toNat + 1)  ((Int32.ofInt 0))  (Nat.lt_succ_self _)
theorem hk_187 {X : hp_X} {b : Nat} (hb : hp_b b) (S : hp_S) (i1 : Int32) : hp_K 187 [.ref b, .int i1] (hp_mem X S) (hp_i X S) (hq_187 S b i1) := by
  refine hp_mk (q := hzq_187) rfl (by decide) (L := [some (.ref b), some (.int i1), none]) rfl (fun n => ?_)
  exact ht_187 hb S i1 n
/-! 188: HatsOfTheWind$Street.isBare(I)Z -/
def hq_188 (S : hp_S) (b : Nat) (i1 : Int32) : Int32 := (if hz_cmp .ne (hq_187 S b i1) (Int32.ofInt 9) = true then (Int32.ofInt 0) else (Int32.ofInt 1))
set_option maxRecDepth 10000 in
theorem ht_188 {X : hp_X} {b : Nat} (hb : hp_b b) (S : hp_S) (i1 : Int32) (n : Nat) : hp_T n 188 0 [some (.ref b), some (.int i1)] [] (hp_mem X S) (hp_i X S) (hq_188 S b i1) := by
  unfold hq_188
  refine hp_sN [1, 2] (pc' := 2) (L' := [some (.ref b), some (.int i1)]) (st' := [.int i1, .ref b]) rfl rfl ?_
  refine hp_iv (virt := true) (pc' := 5) (rv := some (.int (hq_187 S b i1))) (M1 := hp_mem X (S)) rfl rfl (by decide) (hk_187 hb S (i1)) rfl rfl ?_
  show hp_T _ 188 5 _ [.int (hq_187 S b i1)] _ _ _
  refine hp_sN [7] (pc' := 7) (L' := [some (.ref b), some (.int i1)]) (st' := [.int (Int32.ofInt 9), .int (hq_187 S b i1)]) rfl rfl ?_
  refine hp_ic (pc' := 10) rfl rfl (fun h1 => ?_) (fun h1 => ?_)
  · refine hp_sN [15] (pc' := 15) (L' := [some (.ref b), some (.int i1)]) (st' := [.int (Int32.ofInt 0)]) rfl rfl ?_
    exact hp_Ri rfl
  · refine hp_sN [11, 15] (pc' := 15) (L' := [some (.ref b), some (.int i1)]) (st' := [.int (Int32.ofInt 1)]) rfl rfl ?_
    exact hp_Ri rfl
theorem hk_188 {X : hp_X} {b : Nat} (hb : hp_b b) (S : hp_S) (i1 : Int32) : hp_K 188 [.ref b, .int i1] (hp_mem X S) (hp_i X S) (hq_188 S b i1) := by
  refine hp_mk (q := hzq_188) rfl (by decide) (L := [some (.ref b), some (.int i1)]) rfl (fun n => ?_)
  exact ht_188 hb S i1 n

/-! 193: HatsOfTheWind$Street.addHat(III)I -/
def hq_193_102 (b : Nat) (i1 : Int32) (i2 : Int32) (i3 : Int32) (S : hp_S) : Int32 × hp_S := (((S b 8) - (Int32.ofInt 1)), S)
def hq_193_92 (b : Nat) (i1 : Int32) (i2 : Int32) (i3 : Int32) (S : hp_S) : Int32 × hp_S := (hq_193_102 b i1 i2 i3 (hp_w S b 8 ((S b 8) + (Int32.ofInt 1))) )
def hq_193_77 (b : Nat) (i1 : Int32) (i2 : Int32) (i3 : Int32) (S : hp_S) : Int32 × hp_S := (hq_193_92 b i1 i2 i3 (hp_w S (b + 8) (S b 8).toNatClampNeg (S (b + 2) i3.toNatClampNeg)) )
def hq_193_67 (b : Nat) (i1 : Int32) (i2 : Int32) (i3 : Int32) (S : hp_S) : Int32 × hp_S := (hq_193_77 b i1 i2 i3 (hp_w S (b + 7) (S b 8).toNatClampNeg i3) )
def hq_193_57 (b : Nat) (i1 : Int32) (i2 : Int32) (i3 : Int32) (S : hp_S) : Int32 × hp_S := (hq_193_67 b i1 i2 i3 (hp_w S (b + 6) (S b 8).toNatClampNeg i2) )
def hq_193 (S : hp_S) (b : Nat) (i1 : Int32) (i2 : Int32) (i3 : Int32) : Int32 × hp_S := (if hz_cmp .eq (hq_48 S i1) 0 = true then ((Int32.ofInt (-1)), S) else (if hz_cmp .eq (hq_49 S i2) 0 = true then ((Int32.ofInt (-1)), S) else (if hz_cmp .ne (hq_181 S b i3) 0 = true then (if hz_cmp .ne (hq_188 S b i3) 0 = true then (if hz_cmp .lt (S b 8) (Int32.ofInt 8) = true then (hq_193_57 b i1 i2 i3 (hp_w S (b + 5) (S b 8).toNatClampNeg i1) ) else ((Int32.ofInt (-2)), S)) else ((Int32.ofInt (-3)), S)) else ((Int32.ofInt (-1)), S))))
theorem hf_193_102 {b : Nat} {i1 : Int32} {i2 : Int32} {i3 : Int32} (S : hp_S) (j : Nat) (z0 : j ≠ (b + 5)) (z1 : j ≠ (b + 6)) (z2 : j ≠ (b + 7)) (z3 : j ≠ (b + 8)) (z4 : j ≠ b) : (hq_193_102 b i1 i2 i3 S).2 j = S j := by
  unfold hq_193_102
  repeat' split
  all_goals simp [hp_wo, hp_wgo, hp_cpo, z0, z1, z2, z3, z4]
theorem hf_193_92 {b : Nat} {i1 : Int32} {i2 : Int32} {i3 : Int32} (S : hp_S) (j : Nat) (z0 : j ≠ (b + 5)) (z1 : j ≠ (b + 6)) (z2 : j ≠ (b + 7)) (z3 : j ≠ (b + 8)) (z4 : j ≠ b) : (hq_193_92 b i1 i2 i3 S).2 j = S j := by
  unfold hq_193_92
  repeat' split
  all_goals simp [hp_wo, hp_wgo, hp_cpo, z0, z1, z2, z3, z4, hf_193_102]
theorem hf_193_77 {b : Nat} {i1 : Int32} {i2 : Int32} {i3 : Int32} (S : hp_S) (j : Nat) (z0 : j ≠ (b + 5)) (z1 : j ≠ (b + 6)) (z2 : j ≠ (b + 7)) (z3 : j ≠ (b + 8)) (z4 : j ≠ b) : (hq_193_77 b i1 i2 i3 S).2 j = S j := by
  unfold hq_193_77
  repeat' split
  all_goals simp [hp_wo, hp_wgo, hp_cpo, z0, z1, z2, z3, z4, hf_193_102, hf_193_92]
theorem hf_193_67 {b : Nat} {i1 : Int32} {i2 : Int32} {i3 : Int32} (S : hp_S) (j : Nat) (z0 : j ≠ (b + 5)) (z1 : j ≠ (b + 6)) (z2 : j ≠ (b + 7)) (z3 : j ≠ (b + 8)) (z4 : j ≠ b) : (hq_193_67 b i1 i2 i3 S).2 j = S j := by
  unfold hq_193_67
  repeat' split
  all_goals simp [hp_wo, hp_wgo, hp_cpo, z0, z1, z2, z3, z4, hf_193_102, hf_193_92, hf_193_77]
theorem hf_193_57 {b : Nat} {i1 : Int32} {i2 : Int32} {i3 : Int32} (S : hp_S) (j : Nat) (z0 : j ≠ (b + 5)) (z1 : j ≠ (b + 6)) (z2 : j ≠ (b + 7)) (z3 : j ≠ (b + 8)) (z4 : j ≠ b) : (hq_193_57 b i1 i2 i3 S).2 j = S j := by
  unfold hq_193_57
  repeat' split
  all_goals simp [hp_wo, hp_wgo, hp_cpo, z0, z1, z2, z3, z4, hf_193_102, hf_193_92, hf_193_77, hf_193_67]
theorem hf_193 {b : Nat} (S : hp_S) (i1 : Int32) (i2 : Int32) (i3 : Int32) (j : Nat) (z0 : j ≠ (b + 5)) (z1 : j ≠ (b + 6)) (z2 : j ≠ (b + 7)) (z3 : j ≠ (b + 8)) (z4 : j ≠ b) : (hq_193 S b i1 i2 i3).2 j = S j := by
  unfold hq_193
  repeat' split
  all_goals simp [hp_wo, hp_wgo, hp_cpo, z0, z1, z2, z3, z4, hf_193_102, hf_193_92, hf_193_77, hf_193_67, hf_193_57]
set_option maxRecDepth 10000 in
theorem ht_193_102 {X : hp_X} {b : Nat} (hb : hp_b b) (i1 : Int32) (i2 : Int32) (i3 : Int32) (S : hp_S) (n : Nat) : hp_T n 193 102 [some (.ref b), some (.int i1), some (.int i2), some (.int i3)] [] (hp_mem X S) (hp_is X) (hq_193_102 b i1 i2 i3 S) := by
  unfold hq_193_102
  refine hp_sN [103] (pc' := 103) (L' := [some (.ref b), some (.int i1), some (.int i2), some (.int i3)]) (st' := [.ref b]) rfl rfl ?_
  refine hp_gf (pc' := 106) rfl (hp_bl hb 0 (by decide)) (hp_b0 hb X _) rfl rfl ?_
  refine hp_sN [107, 108] (pc' := 108) (L' := [some (.ref b), some (.int i1), some (.int i2), some (.int i3)]) (st' := [.int ((S b 8) - (Int32.ofInt 1))]) rfl rfl ?_
  exact hp_Ris rfl
set_option maxRecDepth 10000 in
theorem ht_193_92 {X : hp_X} {b : Nat} (hb : hp_b b) (i1 : Int32) (i2 : Int32) (i3 : Int32) (S : hp_S) (n : Nat) : hp_T n 193 92 [some (.ref b), some (.int i1), some (.int i2), some (.int i3)] [] (hp_mem X S) (hp_is X) (hq_193_92 b i1 i2 i3 S) := by
  unfold hq_193_92
  refine hp_sN [93, 94] (pc' := 94) (L' := [some (.ref b), some (.int i1), some (.int i2), some (.int i3)]) (st' := [.ref b, .ref b]) rfl rfl ?_
  refine hp_gf (pc' := 97) rfl (hp_bl hb 0 (by decide)) (hp_b0 hb X _) rfl rfl ?_
  refine hp_sN [98, 99] (pc' := 99) (L' := [some (.ref b), some (.int i1), some (.int i2), some (.int i3)]) (st' := [.int ((S b 8) + (Int32.ofInt 1)), .ref b]) rfl rfl ?_
  refine hp_pf (pc' := 102) rfl (hp_bl hb 0 (by decide)) (hp_b0 hb X _) (hp_wb hb X _ _ _ (by decide)) rfl ?_
  exact ht_193_102 hb i1 i2 i3 (hp_w S b 8 ((S b 8) + (Int32.ofInt 1)))   n
set_option maxRecDepth 10000 in
theorem ht_193_77 {X : hp_X} {b : Nat} (hb : hp_b b) (i1 : Int32) (i2 : Int32) (i3 : Int32) (S : hp_S) (n : Nat) : hp_T n 193 77 [some (.ref b), some (.int i1), some (.int i2), some (.int i3)] [] (hp_mem X S) (hp_is X) (hq_193_77 b i1 i2 i3 S) := by
  unfold hq_193_77
  refine hp_sN [78] (pc' := 78) (L' := [some (.ref b), some (.int i1), some (.int i2), some (.int i3)]) (st' := [.ref b]) rfl rfl ?_
  refine hp_gf (pc' := 81) rfl (hp_bl hb 0 (by decide)) (hp_b0 hb X _) rfl rfl ?_
  refine hp_sN [82] (pc' := 82) (L' := [some (.ref b), some (.int i1), some (.int i2), some (.int i3)]) (st' := [.ref b, .ref (b + 8)]) rfl rfl ?_
  refine hp_gf (pc' := 85) rfl (hp_bl hb 0 (by decide)) (hp_b0 hb X _) rfl rfl ?_
  refine hp_sN [86] (pc' := 86) (L' := [some (.ref b), some (.int i1), some (.int i2), some (.int i3)]) (st' := [.ref b, .int (S b 8), .ref (b + 8)]) rfl rfl ?_
  refine hp_gf (pc' := 89) rfl (hp_bl hb 0 (by decide)) (hp_b0 hb X _) rfl rfl ?_
  refine hp_sN [90] (pc' := 90) (L' := [some (.ref b), some (.int i1), some (.int i2), some (.int i3)]) (st' := [.int i3, .ref (b + 2), .int (S b 8), .ref (b + 8)]) rfl rfl ?_
  refine hp_al (pc' := 91) rfl (hp_bl hb 2 (by decide)) (hp_b2 hb X _) rfl ?_
  refine hp_as (pc' := 92) rfl (hp_bl hb 8 (by decide)) (fun _ => (hp_b8 hb X _)) rfl ?_
  exact ht_193_92 hb i1 i2 i3 (hp_w S (b + 8) (S b 8).toNatClampNeg (S (b + 2) i3.toNatClampNeg))   n
set_option maxRecDepth 10000 in
theorem ht_193_67 {X : hp_X} {b : Nat} (hb : hp_b b) (i1 : Int32) (i2 : Int32) (i3 : Int32) (S : hp_S) (n : Nat) : hp_T n 193 67 [some (.ref b), some (.int i1), some (.int i2), some (.int i3)] [] (hp_mem X S) (hp_is X) (hq_193_67 b i1 i2 i3 S) := by
  unfold hq_193_67
  refine hp_sN [68] (pc' := 68) (L' := [some (.ref b), some (.int i1), some (.int i2), some (.int i3)]) (st' := [.ref b]) rfl rfl ?_
  refine hp_gf (pc' := 71) rfl (hp_bl hb 0 (by decide)) (hp_b0 hb X _) rfl rfl ?_
  refine hp_sN [72] (pc' := 72) (L' := [some (.ref b), some (.int i1), some (.int i2), some (.int i3)]) (st' := [.ref b, .ref (b + 7)]) rfl rfl ?_
  refine hp_gf (pc' := 75) rfl (hp_bl hb 0 (by decide)) (hp_b0 hb X _) rfl rfl ?_
  refine hp_sN [76] (pc' := 76) (L' := [some (.ref b), some (.int i1), some (.int i2), some (.int i3)]) (st' := [.int i3, .int (S b 8), .ref (b + 7)]) rfl rfl ?_
  refine hp_as (pc' := 77) rfl (hp_bl hb 7 (by decide)) (fun _ => (hp_b7 hb X _)) rfl ?_
  exact ht_193_77 hb i1 i2 i3 (hp_w S (b + 7) (S b 8).toNatClampNeg i3)   n
set_option maxRecDepth 10000 in
theorem ht_193_57 {X : hp_X} {b : Nat} (hb : hp_b b) (i1 : Int32) (i2 : Int32) (i3 : Int32) (S : hp_S) (n : Nat) : hp_T n 193 57 [some (.ref b), some (.int i1), some (.int i2), some (.int i3)] [] (hp_mem X S) (hp_is X) (hq_193_57 b i1 i2 i3 S) := by
  unfold hq_193_57
  refine hp_sN [58] (pc' := 58) (L' := [some (.ref b), some (.int i1), some (.int i2), some (.int i3)]) (st' := [.ref b]) rfl rfl ?_
  refine hp_gf (pc' := 61) rfl (hp_bl hb 0 (by decide)) (hp_b0 hb X _) rfl rfl ?_
  refine hp_sN [62] (pc' := 62) (L' := [some (.ref b), some (.int i1), some (.int i2), some (.int i3)]) (st' := [.ref b, .ref (b + 6)]) rfl rfl ?_
  refine hp_gf (pc' := 65) rfl (hp_bl hb 0 (by decide)) (hp_b0 hb X _) rfl rfl ?_
  refine hp_sN [66] (pc' := 66) (L' := [some (.ref b), some (.int i1), some (.int i2), some (.int i3)]) (st' := [.int i2, .int (S b 8), .ref (b + 6)]) rfl rfl ?_
  refine hp_as (pc' := 67) rfl (hp_bl hb 6 (by decide)) (fun _ => (hp_b6 hb X _)) rfl ?_
  exact ht_193_67 hb i1 i2 i3 (hp_w S (b + 6) (S b 8).toNatClampNeg i2)   n
set_option maxRecDepth 10000 in
theorem ht_193 {X : hp_X} {b : Nat} (hb : hp_b b) (S : hp_S) (i1 : Int32) (i2 : Int32) (i3 : Int32) (n : Nat) : hp_T n 193 0 [some (.ref b), some (.int i1), some (.int i2), some (.int i3)] [] (hp_mem X S) (hp_is X) (hq_193 S b i1 i2 i3) := by
  unfold hq_193
  refine hp_sN [1] (pc' := 1) (L' := [some (.ref b), some (.int i1), some (.int i2), some (.int i3)]) (st' := [.int i1]) rfl rfl ?_
  refine hp_iv (virt := false) (pc' := 4) (rv := some (.int (hq_48 S i1))) (M1 := hp_mem X (S)) rfl rfl (by decide) (hk_48 S (i1)) rfl rfl ?_
  show hp_T _ 193 4 _ [.int (hq_48 S i1)] _ _ _
  refine hp_if (pc' := 7) rfl rfl (fun h1 => ?_) (fun h1 => ?_)
  · refine hp_sN [23] (pc' := 23) (L' := [some (.ref b), some (.int i1), some (.int i2), some (.int i3)]) (st' := [.int (Int32.ofInt (-1))]) rfl rfl ?_
    exact hp_Ris rfl
  · refine hp_sN [8] (pc' := 8) (L' := [some (.ref b), some (.int i1), some (.int i2), some (.int i3)]) (st' := [.int i2]) rfl rfl ?_
    refine hp_iv (virt := false) (pc' := 11) (rv := some (.int (hq_49 S i2))) (M1 := hp_mem X (S)) rfl rfl (by decide) (hk_49 S (i2)) rfl rfl ?_
    show hp_T _ 193 11 _ [.int (hq_49 S i2)] _ _ _
    refine hp_if (pc' := 14) rfl rfl (fun h2 => ?_) (fun h2 => ?_)
    · refine hp_sN [23] (pc' := 23) (L' := [some (.ref b), some (.int i1), some (.int i2), some (.int i3)]) (st' := [.int (Int32.ofInt (-1))]) rfl rfl ?_
      exact hp_Ris rfl
    · refine hp_sN [15, 16] (pc' := 16) (L' := [some (.ref b), some (.int i1), some (.int i2), some (.int i3)]) (st' := [.int i3, .ref b]) rfl rfl ?_
      refine hp_iv (virt := true) (pc' := 19) (rv := some (.int (hq_181 S b i3))) (M1 := hp_mem X (S)) rfl rfl (by decide) (hk_181 hb S (i3)) rfl rfl ?_
      show hp_T _ 193 19 _ [.int (hq_181 S b i3)] _ _ _
      refine hp_if (pc' := 22) rfl rfl (fun h3 => ?_) (fun h3 => ?_)
      · refine hp_sN [25, 26] (pc' := 26) (L' := [some (.ref b), some (.int i1), some (.int i2), some (.int i3)]) (st' := [.int i3, .ref b]) rfl rfl ?_
        refine hp_iv (virt := true) (pc' := 29) (rv := some (.int (hq_188 S b i3))) (M1 := hp_mem X (S)) rfl rfl (by decide) (hk_188 hb S (i3)) rfl rfl ?_
        show hp_T _ 193 29 _ [.int (hq_188 S b i3)] _ _ _
        refine hp_if (pc' := 32) rfl rfl (fun h4 => ?_) (fun h4 => ?_)
        · refine hp_sN [36] (pc' := 36) (L' := [some (.ref b), some (.int i1), some (.int i2), some (.int i3)]) (st' := [.ref b]) rfl rfl ?_
          refine hp_gf (pc' := 39) rfl (hp_bl hb 0 (by decide)) (hp_b0 hb X _) rfl rfl ?_
          refine hp_sN [41] (pc' := 41) (L' := [some (.ref b), some (.int i1), some (.int i2), some (.int i3)]) (st' := [.int (Int32.ofInt 8), .int (S b 8)]) rfl rfl ?_
          refine hp_ic (pc' := 44) rfl rfl (fun h5 => ?_) (fun h5 => ?_)
          · refine hp_sN [48] (pc' := 48) (L' := [some (.ref b), some (.int i1), some (.int i2), some (.int i3)]) (st' := [.ref b]) rfl rfl ?_
            refine hp_gf (pc' := 51) rfl (hp_bl hb 0 (by decide)) (hp_b0 hb X _) rfl rfl ?_
            refine hp_sN [52] (pc' := 52) (L' := [some (.ref b), some (.int i1), some (.int i2), some (.int i3)]) (st' := [.ref b, .ref (b + 5)]) rfl rfl ?_
            refine hp_gf (pc' := 55) rfl (hp_bl hb 0 (by decide)) (hp_b0 hb X _) rfl rfl ?_
            refine hp_sN [56] (pc' := 56) (L' := [some (.ref b), some (.int i1), some (.int i2), some (.int i3)]) (st' := [.int i1, .int (S b 8), .ref (b + 5)]) rfl rfl ?_
            refine hp_as (pc' := 57) rfl (hp_bl hb 5 (by decide)) (fun _ => (hp_b5 hb X _)) rfl ?_
            exact ht_193_57 hb i1 i2 i3 (hp_w S (b + 5) (S b 8).toNatClampNeg i1)   n
          · refine hp_sN [46] (pc' := 46) (L' := [some (.ref b), some (.int i1), some (.int i2), some (.int i3)]) (st' := [.int (Int32.ofInt (-2))]) rfl rfl ?_
            exact hp_Ris rfl
        · refine hp_sN [34] (pc' := 34) (L' := [some (.ref b), some (.int i1), some (.int i2), some (.int i3)]) (st' := [.int (Int32.ofInt (-3))]) rfl rfl ?_
          exact hp_Ris rfl
      · refine hp_sN [23] (pc' := 23) (L' := [some (.ref b), some (.int i1), some (.int i2), some (.int i3)]) (st' := [.int (Int32.ofInt (-1))]) rfl rfl ?_
        exact hp_Ris rfl
theorem hk_193 {X : hp_X} {b : Nat} (hb : hp_b b) (S : hp_S) (i1 : Int32) (i2 : Int32) (i3 : Int32) : hp_K 193 [.ref b, .int i1, .int i2, .int i3] (hp_mem X S) (hp_is X) (hq_193 S b i1 i2 i3) := by
  refine hp_mk (q := hzq_193) rfl (by decide) (L := [some (.ref b), some (.int i1), some (.int i2), some (.int i3)]) rfl (fun n => ?_)
  exact ht_193 hb S i1 i2 i3 n
/-! 47: HatsOfTheWind.isHour(I)Z -/
def hq_47 (S : hp_S) (i1 : Int32) : Int32 := (hq_44 S i1 (Int32.ofInt 0) (Int32.ofInt 23))
set_option maxRecDepth 10000 in
theorem ht_47 {X : hp_X} (S : hp_S) (i1 : Int32) (n : Nat) : hp_T n 47 0 [some (.int i1)] [] (hp_mem X S) (hp_i X S) (hq_47 S i1) := by
  unfold hq_47
  refine hp_sN [1, 2, 4] (pc' := 4) (L' := [some (.int i1)]) (st' := [.int (Int32.ofInt 23), .int (Int32.ofInt 0), .int i1]) rfl rfl ?_
  refine hp_iv (virt := false) (pc' := 7) (rv := some (.int (hq_44 S i1 (Int32.ofInt 0) (Int32.ofInt 23)))) (M1 := hp_mem X (S)) rfl rfl (by decide) (hk_44 S (i1) ((Int32.ofInt 0)) ((Int32.ofInt 23))) rfl rfl ?_
  show hp_T _ 47 7 _ [.int (hq_44 S i1 (Int32.ofInt 0) (Int32.ofInt 23))] _ _ _
  exact hp_Ri rfl
theorem hk_47 {X : hp_X} (S : hp_S) (i1 : Int32) : hp_K 47 [.int i1] (hp_mem X S) (hp_i X S) (hq_47 S i1) := by
  refine hp_mk (q := hzq_47) rfl (by decide) (L := [some (.int i1)]) rfl (fun n => ?_)
  exact ht_47 S i1 n
/-! 194: HatsOfTheWind$Street.setWind(II)I -/
def hq_194 (S : hp_S) (b : Nat) (i1 : Int32) (i2 : Int32) : Int32 × hp_S := (if hz_cmp .eq (hq_47 S i1) 0 = true then ((Int32.ofInt (-1)), S) else (if hz_cmp .ne (hq_44 S i2 (Int32.ofInt 0) (Int32.ofInt 9)) 0 = true then ((S (b + 1) i1.toNatClampNeg), hp_w S (b + 1) i1.toNatClampNeg i2) else ((Int32.ofInt (-1)), S)))
theorem hf_194 {b : Nat} (S : hp_S) (i1 : Int32) (i2 : Int32) (j : Nat) (z0 : j ≠ (b + 1)) : (hq_194 S b i1 i2).2 j = S j := by
  unfold hq_194
  repeat' split
  all_goals simp [hp_wo, hp_wgo, hp_cpo, z0]
set_option maxRecDepth 10000 in
theorem ht_194 {X : hp_X} {b : Nat} (hb : hp_b b) (S : hp_S) (i1 : Int32) (i2 : Int32) (n : Nat) : hp_T n 194 0 [some (.ref b), some (.int i1), some (.int i2), none] [] (hp_mem X S) (hp_is X) (hq_194 S b i1 i2) := by
  unfold hq_194
  refine hp_sN [1] (pc' := 1) (L' := [some (.ref b), some (.int i1), some (.int i2), none]) (st' := [.int i1]) rfl rfl ?_
  refine hp_iv (virt := false) (pc' := 4) (rv := some (.int (hq_47 S i1))) (M1 := hp_mem X (S)) rfl rfl (by decide) (hk_47 S (i1)) rfl rfl ?_
  show hp_T _ 194 4 _ [.int (hq_47 S i1)] _ _ _
  refine hp_if (pc' := 7) rfl rfl (fun h1 => ?_) (fun h1 => ?_)
  · refine hp_sN [18] (pc' := 18) (L' := [some (.ref b), some (.int i1), some (.int i2), none]) (st' := [.int (Int32.ofInt (-1))]) rfl rfl ?_
    exact hp_Ris rfl
  · refine hp_sN [8, 9, 11] (pc' := 11) (L' := [some (.ref b), some (.int i1), some (.int i2), none]) (st' := [.int (Int32.ofInt 9), .int (Int32.ofInt 0), .int i2]) rfl rfl ?_
    refine hp_iv (virt := false) (pc' := 14) (rv := some (.int (hq_44 S i2 (Int32.ofInt 0) (Int32.ofInt 9)))) (M1 := hp_mem X (S)) rfl rfl (by decide) (hk_44 S (i2) ((Int32.ofInt 0)) ((Int32.ofInt 9))) rfl rfl ?_
    show hp_T _ 194 14 _ [.int (hq_44 S i2 (Int32.ofInt 0) (Int32.ofInt 9))] _ _ _
    refine hp_if (pc' := 17) rfl rfl (fun h2 => ?_) (fun h2 => ?_)
    · refine hp_sN [20] (pc' := 20) (L' := [some (.ref b), some (.int i1), some (.int i2), none]) (st' := [.ref b]) rfl rfl ?_
      refine hp_gf (pc' := 23) rfl (hp_bl hb 0 (by decide)) (hp_b0 hb X _) rfl rfl ?_
      refine hp_sN [24] (pc' := 24) (L' := [some (.ref b), some (.int i1), some (.int i2), none]) (st' := [.int i1, .ref (b + 1)]) rfl rfl ?_
      refine hp_al (pc' := 25) rfl (hp_bl hb 1 (by decide)) (hp_b1 hb X _) rfl ?_
      refine hp_sN [26, 27] (pc' := 27) (L' := [some (.ref b), some (.int i1), some (.int i2), some (.int (S (b + 1) i1.toNatClampNeg))]) (st' := [.ref b]) rfl rfl ?_
      refine hp_gf (pc' := 30) rfl (hp_bl hb 0 (by decide)) (hp_b0 hb X _) rfl rfl ?_
      refine hp_sN [31, 32] (pc' := 32) (L' := [some (.ref b), some (.int i1), some (.int i2), some (.int (S (b + 1) i1.toNatClampNeg))]) (st' := [.int i2, .int i1, .ref (b + 1)]) rfl rfl ?_
      refine hp_as (pc' := 33) rfl (hp_bl hb 1 (by decide)) (fun _ => (hp_b1 hb X _)) rfl ?_
      refine hp_sN [34] (pc' := 34) (L' := [some (.ref b), some (.int i1), some (.int i2), some (.int (S (b + 1) i1.toNatClampNeg))]) (st' := [.int (S (b + 1) i1.toNatClampNeg)]) rfl rfl ?_
      exact hp_Ris rfl
    · refine hp_sN [18] (pc' := 18) (L' := [some (.ref b), some (.int i1), some (.int i2), none]) (st' := [.int (Int32.ofInt (-1))]) rfl rfl ?_
      exact hp_Ris rfl
theorem hk_194 {X : hp_X} {b : Nat} (hb : hp_b b) (S : hp_S) (i1 : Int32) (i2 : Int32) : hp_K 194 [.ref b, .int i1, .int i2] (hp_mem X S) (hp_is X) (hq_194 S b i1 i2) := by
  refine hp_mk (q := hzq_194) rfl (by decide) (L := [some (.ref b), some (.int i1), some (.int i2), none]) rfl (fun n => ?_)
  exact ht_194 hb S i1 i2 n
/-! 195: HatsOfTheWind$Street.turnLee(I)I -/
def hq_195 (S : hp_S) (b : Nat) (i1 : Int32) : Int32 × hp_S := (if hz_cmp .ne (hq_46 S i1) 0 = true then ((((hp_w S b 1 ((S b 1) ^^^ ((Int32.ofInt 1) <<< (i1 &&& 31))) b 1) >>> (i1 &&& 31)) &&& (Int32.ofInt 1)), hp_w S b 1 ((S b 1) ^^^ ((Int32.ofInt 1) <<< (i1 &&& 31)))) else ((Int32.ofInt (-1)), S))
theorem hf_195 {b : Nat} (S : hp_S) (i1 : Int32) (j : Nat) (z0 : j ≠ b) : (hq_195 S b i1).2 j = S j := by
  unfold hq_195
  repeat' split
  all_goals simp [hp_wo, hp_wgo, hp_cpo, z0]
set_option maxRecDepth 10000 in
theorem ht_195 {X : hp_X} {b : Nat} (hb : hp_b b) (S : hp_S) (i1 : Int32) (n : Nat) : hp_T n 195 0 [some (.ref b), some (.int i1)] [] (hp_mem X S) (hp_is X) (hq_195 S b i1) := by
  unfold hq_195
  refine hp_sN [1] (pc' := 1) (L' := [some (.ref b), some (.int i1)]) (st' := [.int i1]) rfl rfl ?_
  refine hp_iv (virt := false) (pc' := 4) (rv := some (.int (hq_46 S i1))) (M1 := hp_mem X (S)) rfl rfl (by decide) (hk_46 S (i1)) rfl rfl ?_
  show hp_T _ 195 4 _ [.int (hq_46 S i1)] _ _ _
  refine hp_if (pc' := 7) rfl rfl (fun h1 => ?_) (fun h1 => ?_)
  · refine hp_sN [10, 11] (pc' := 11) (L' := [some (.ref b), some (.int i1)]) (st' := [.ref b, .ref b]) rfl rfl ?_
    refine hp_gf (pc' := 14) rfl (hp_bl hb 0 (by decide)) (hp_b0 hb X _) rfl rfl ?_
    refine hp_sN [15, 16, 17, 18] (pc' := 18) (L' := [some (.ref b), some (.int i1)]) (st' := [.int ((S b 1) ^^^ ((Int32.ofInt 1) <<< (i1 &&& 31))), .ref b]) rfl rfl ?_
    refine hp_pf (pc' := 21) rfl (hp_bl hb 0 (by decide)) (hp_b0 hb X _) (hp_wb hb X _ _ _ (by decide)) rfl ?_
    refine hp_sN [22] (pc' := 22) (L' := [some (.ref b), some (.int i1)]) (st' := [.ref b]) rfl rfl ?_
    refine hp_gf (pc' := 25) rfl (hp_bl hb 0 (by decide)) (hp_b0 hb X _) rfl rfl ?_
    refine hp_sN [26, 27, 28, 29] (pc' := 29) (L' := [some (.ref b), some (.int i1)]) (st' := [.int (((hp_w S b 1 ((S b 1) ^^^ ((Int32.ofInt 1) <<< (i1 &&& 31))) b 1) >>> (i1 &&& 31)) &&& (Int32.ofInt 1))]) rfl rfl ?_
    exact hp_Ris rfl
  · refine hp_sN [8] (pc' := 8) (L' := [some (.ref b), some (.int i1)]) (st' := [.int (Int32.ofInt (-1))]) rfl rfl ?_
    exact hp_Ris rfl
theorem hk_195 {X : hp_X} {b : Nat} (hb : hp_b b) (S : hp_S) (i1 : Int32) : hp_K 195 [.ref b, .int i1] (hp_mem X S) (hp_is X) (hq_195 S b i1) := by
  refine hp_mk (q := hzq_195) rfl (by decide) (L := [some (.ref b), some (.int i1)]) rfl (fun n => ?_)
  exact ht_195 hb S i1 n
/-! 196: HatsOfTheWind$Street.setPins(II)I -/
def hq_196 (S : hp_S) (b : Nat) (i1 : Int32) (i2 : Int32) : Int32 × hp_S := (if hz_cmp .eq (hq_181 S b i1) 0 = true then ((Int32.ofInt (-1)), S) else (if hz_cmp .ne (hq_44 S i2 (Int32.ofInt 0) (Int32.ofInt 9)) 0 = true then ((S (b + 4) i1.toNatClampNeg), hp_w S (b + 4) i1.toNatClampNeg i2) else ((Int32.ofInt (-1)), S)))
theorem hf_196 {b : Nat} (S : hp_S) (i1 : Int32) (i2 : Int32) (j : Nat) (z0 : j ≠ (b + 4)) : (hq_196 S b i1 i2).2 j = S j := by
  unfold hq_196
  repeat' split
  all_goals simp [hp_wo, hp_wgo, hp_cpo, z0]
set_option maxRecDepth 10000 in
theorem ht_196 {X : hp_X} {b : Nat} (hb : hp_b b) (S : hp_S) (i1 : Int32) (i2 : Int32) (n : Nat) : hp_T n 196 0 [some (.ref b), some (.int i1), some (.int i2), none] [] (hp_mem X S) (hp_is X) (hq_196 S b i1 i2) := by
  unfold hq_196
  refine hp_sN [1, 2] (pc' := 2) (L' := [some (.ref b), some (.int i1), some (.int i2), none]) (st' := [.int i1, .ref b]) rfl rfl ?_
  refine hp_iv (virt := true) (pc' := 5) (rv := some (.int (hq_181 S b i1))) (M1 := hp_mem X (S)) rfl rfl (by decide) (hk_181 hb S (i1)) rfl rfl ?_
  show hp_T _ 196 5 _ [.int (hq_181 S b i1)] _ _ _
  refine hp_if (pc' := 8) rfl rfl (fun h1 => ?_) (fun h1 => ?_)
  · refine hp_sN [19] (pc' := 19) (L' := [some (.ref b), some (.int i1), some (.int i2), none]) (st' := [.int (Int32.ofInt (-1))]) rfl rfl ?_
    exact hp_Ris rfl
  · refine hp_sN [9, 10, 12] (pc' := 12) (L' := [some (.ref b), some (.int i1), some (.int i2), none]) (st' := [.int (Int32.ofInt 9), .int (Int32.ofInt 0), .int i2]) rfl rfl ?_
    refine hp_iv (virt := false) (pc' := 15) (rv := some (.int (hq_44 S i2 (Int32.ofInt 0) (Int32.ofInt 9)))) (M1 := hp_mem X (S)) rfl rfl (by decide) (hk_44 S (i2) ((Int32.ofInt 0)) ((Int32.ofInt 9))) rfl rfl ?_
    show hp_T _ 196 15 _ [.int (hq_44 S i2 (Int32.ofInt 0) (Int32.ofInt 9))] _ _ _
    refine hp_if (pc' := 18) rfl rfl (fun h2 => ?_) (fun h2 => ?_)
    · refine hp_sN [21] (pc' := 21) (L' := [some (.ref b), some (.int i1), some (.int i2), none]) (st' := [.ref b]) rfl rfl ?_
      refine hp_gf (pc' := 24) rfl (hp_bl hb 0 (by decide)) (hp_b0 hb X _) rfl rfl ?_
      refine hp_sN [25] (pc' := 25) (L' := [some (.ref b), some (.int i1), some (.int i2), none]) (st' := [.int i1, .ref (b + 4)]) rfl rfl ?_
      refine hp_al (pc' := 26) rfl (hp_bl hb 4 (by decide)) (hp_b4 hb X _) rfl ?_
      refine hp_sN [27, 28] (pc' := 28) (L' := [some (.ref b), some (.int i1), some (.int i2), some (.int (S (b + 4) i1.toNatClampNeg))]) (st' := [.ref b]) rfl rfl ?_
      refine hp_gf (pc' := 31) rfl (hp_bl hb 0 (by decide)) (hp_b0 hb X _) rfl rfl ?_
      refine hp_sN [32, 33] (pc' := 33) (L' := [some (.ref b), some (.int i1), some (.int i2), some (.int (S (b + 4) i1.toNatClampNeg))]) (st' := [.int i2, .int i1, .ref (b + 4)]) rfl rfl ?_
      refine hp_as (pc' := 34) rfl (hp_bl hb 4 (by decide)) (fun _ => (hp_b4 hb X _)) rfl ?_
      refine hp_sN [35] (pc' := 35) (L' := [some (.ref b), some (.int i1), some (.int i2), some (.int (S (b + 4) i1.toNatClampNeg))]) (st' := [.int (S (b + 4) i1.toNatClampNeg)]) rfl rfl ?_
      exact hp_Ris rfl
    · refine hp_sN [19] (pc' := 19) (L' := [some (.ref b), some (.int i1), some (.int i2), none]) (st' := [.int (Int32.ofInt (-1))]) rfl rfl ?_
      exact hp_Ris rfl
theorem hk_196 {X : hp_X} {b : Nat} (hb : hp_b b) (S : hp_S) (i1 : Int32) (i2 : Int32) : hp_K 196 [.ref b, .int i1, .int i2] (hp_mem X S) (hp_is X) (hq_196 S b i1 i2) := by
  refine hp_mk (q := hzq_196) rfl (by decide) (L := [some (.ref b), some (.int i1), some (.int i2), none]) rfl (fun n => ?_)
  exact ht_196 hb S i1 i2 n
/-! 203: HatsOfTheWind$Street.windAt(I)I -/
def hq_203 (S : hp_S) (b : Nat) (i1 : Int32) : Int32 := (if hz_cmp .lt i1 0 = true then (if hz_cmp .eq (Int32.ofInt 1) 0 = true then (S (b + 1) (S b 2).toNatClampNeg) else (Int32.ofInt 0)) else (if hz_cmp .ge i1 (Int32.ofInt 21) = true then (if hz_cmp .eq (Int32.ofInt 1) 0 = true then (S (b + 1) (S b 2).toNatClampNeg) else (Int32.ofInt 0)) else (if hz_cmp .ne (((S b 1) >>> (i1 &&& 31)) &&& (Int32.ofInt 1)) (Int32.ofInt 1) = true then (if hz_cmp .eq (Int32.ofInt 0) 0 = true then (S (b + 1) (S b 2).toNatClampNeg) else (Int32.ofInt 0)) else (if hz_cmp .eq (Int32.ofInt 1) 0 = true then (S (b + 1) (S b 2).toNatClampNeg) else (Int32.ofInt 0)))))
set_option maxRecDepth 10000 in
theorem ht_203 {X : hp_X} {b : Nat} (hb : hp_b b) (S : hp_S) (i1 : Int32) (n : Nat) : hp_T n 203 0 [some (.ref b), some (.int i1), none] [] (hp_mem X S) (hp_i X S) (hq_203 S b i1) := by
  unfold hq_203
  refine hp_sN [1] (pc' := 1) (L' := [some (.ref b), some (.int i1), none]) (st' := [.int i1]) rfl rfl ?_
  refine hp_if (pc' := 4) rfl rfl (fun h1 => ?_) (fun h1 => ?_)
  · refine hp_sN [23, 27, 28, 29] (pc' := 29) (L' := [some (.ref b), some (.int i1), some (.int (Int32.ofInt 1))]) (st' := [.int (Int32.ofInt 1)]) rfl rfl ?_
    refine hp_if (pc' := 32) rfl rfl (fun h2 => ?_) (fun h2 => ?_)
    · refine hp_sN [37] (pc' := 37) (L' := [some (.ref b), some (.int i1), some (.int (Int32.ofInt 1))]) (st' := [.ref b]) rfl rfl ?_
      refine hp_gf (pc' := 40) rfl (hp_bl hb 0 (by decide)) (hp_b0 hb X _) rfl rfl ?_
      refine hp_sN [41] (pc' := 41) (L' := [some (.ref b), some (.int i1), some (.int (Int32.ofInt 1))]) (st' := [.ref b, .ref (b + 1)]) rfl rfl ?_
      refine hp_gf (pc' := 44) rfl (hp_bl hb 0 (by decide)) (hp_b0 hb X _) rfl rfl ?_
      refine hp_al (pc' := 45) rfl (hp_bl hb 1 (by decide)) (hp_b1 hb X _) rfl ?_
      exact hp_Ri rfl
    · refine hp_sN [33, 45] (pc' := 45) (L' := [some (.ref b), some (.int i1), some (.int (Int32.ofInt 1))]) (st' := [.int (Int32.ofInt 0)]) rfl rfl ?_
      exact hp_Ri rfl
  · refine hp_sN [5, 7] (pc' := 7) (L' := [some (.ref b), some (.int i1), none]) (st' := [.int (Int32.ofInt 21), .int i1]) rfl rfl ?_
    refine hp_ic (pc' := 10) rfl rfl (fun h3 => ?_) (fun h3 => ?_)
    · refine hp_sN [23, 27, 28, 29] (pc' := 29) (L' := [some (.ref b), some (.int i1), some (.int (Int32.ofInt 1))]) (st' := [.int (Int32.ofInt 1)]) rfl rfl ?_
      refine hp_if (pc' := 32) rfl rfl (fun h4 => ?_) (fun h4 => ?_)
      · refine hp_sN [37] (pc' := 37) (L' := [some (.ref b), some (.int i1), some (.int (Int32.ofInt 1))]) (st' := [.ref b]) rfl rfl ?_
        refine hp_gf (pc' := 40) rfl (hp_bl hb 0 (by decide)) (hp_b0 hb X _) rfl rfl ?_
        refine hp_sN [41] (pc' := 41) (L' := [some (.ref b), some (.int i1), some (.int (Int32.ofInt 1))]) (st' := [.ref b, .ref (b + 1)]) rfl rfl ?_
        refine hp_gf (pc' := 44) rfl (hp_bl hb 0 (by decide)) (hp_b0 hb X _) rfl rfl ?_
        refine hp_al (pc' := 45) rfl (hp_bl hb 1 (by decide)) (hp_b1 hb X _) rfl ?_
        exact hp_Ri rfl
      · refine hp_sN [33, 45] (pc' := 45) (L' := [some (.ref b), some (.int i1), some (.int (Int32.ofInt 1))]) (st' := [.int (Int32.ofInt 0)]) rfl rfl ?_
        exact hp_Ri rfl
    · refine hp_sN [11] (pc' := 11) (L' := [some (.ref b), some (.int i1), none]) (st' := [.ref b]) rfl rfl ?_
      refine hp_gf (pc' := 14) rfl (hp_bl hb 0 (by decide)) (hp_b0 hb X _) rfl rfl ?_
      refine hp_sN [15, 16, 17, 18, 19] (pc' := 19) (L' := [some (.ref b), some (.int i1), none]) (st' := [.int (Int32.ofInt 1), .int (((S b 1) >>> (i1 &&& 31)) &&& (Int32.ofInt 1))]) rfl rfl ?_
      refine hp_ic (pc' := 22) rfl rfl (fun h5 => ?_) (fun h5 => ?_)
      · refine hp_sN [27, 28, 29] (pc' := 29) (L' := [some (.ref b), some (.int i1), some (.int (Int32.ofInt 0))]) (st' := [.int (Int32.ofInt 0)]) rfl rfl ?_
        refine hp_if (pc' := 32) rfl rfl (fun h6 => ?_) (fun h6 => ?_)
        · refine hp_sN [37] (pc' := 37) (L' := [some (.ref b), some (.int i1), some (.int (Int32.ofInt 0))]) (st' := [.ref b]) rfl rfl ?_
          refine hp_gf (pc' := 40) rfl (hp_bl hb 0 (by decide)) (hp_b0 hb X _) rfl rfl ?_
          refine hp_sN [41] (pc' := 41) (L' := [some (.ref b), some (.int i1), some (.int (Int32.ofInt 0))]) (st' := [.ref b, .ref (b + 1)]) rfl rfl ?_
          refine hp_gf (pc' := 44) rfl (hp_bl hb 0 (by decide)) (hp_b0 hb X _) rfl rfl ?_
          refine hp_al (pc' := 45) rfl (hp_bl hb 1 (by decide)) (hp_b1 hb X _) rfl ?_
          exact hp_Ri rfl
        · refine hp_sN [33, 45] (pc' := 45) (L' := [some (.ref b), some (.int i1), some (.int (Int32.ofInt 0))]) (st' := [.int (Int32.ofInt 0)]) rfl rfl ?_
          exact hp_Ri rfl
      · refine hp_sN [23, 27, 28, 29] (pc' := 29) (L' := [some (.ref b), some (.int i1), some (.int (Int32.ofInt 1))]) (st' := [.int (Int32.ofInt 1)]) rfl rfl ?_
        refine hp_if (pc' := 32) rfl rfl (fun h7 => ?_) (fun h7 => ?_)
        · refine hp_sN [37] (pc' := 37) (L' := [some (.ref b), some (.int i1), some (.int (Int32.ofInt 1))]) (st' := [.ref b]) rfl rfl ?_
          refine hp_gf (pc' := 40) rfl (hp_bl hb 0 (by decide)) (hp_b0 hb X _) rfl rfl ?_
          refine hp_sN [41] (pc' := 41) (L' := [some (.ref b), some (.int i1), some (.int (Int32.ofInt 1))]) (st' := [.ref b, .ref (b + 1)]) rfl rfl ?_
          refine hp_gf (pc' := 44) rfl (hp_bl hb 0 (by decide)) (hp_b0 hb X _) rfl rfl ?_
          refine hp_al (pc' := 45) rfl (hp_bl hb 1 (by decide)) (hp_b1 hb X _) rfl ?_
          exact hp_Ri rfl
        · refine hp_sN [33, 45] (pc' := 45) (L' := [some (.ref b), some (.int i1), some (.int (Int32.ofInt 1))]) (st' := [.int (Int32.ofInt 0)]) rfl rfl ?_
          exact hp_Ri rfl
theorem hk_203 {X : hp_X} {b : Nat} (hb : hp_b b) (S : hp_S) (i1 : Int32) : hp_K 203 [.ref b, .int i1] (hp_mem X S) (hp_i X S) (hq_203 S b i1) := by
  refine hp_mk (q := hzq_203) rfl (by decide) (L := [some (.ref b), some (.int i1), none]) rfl (fun n => ?_)
  exact ht_203 hb S i1 n
/-! 167: HatsOfTheWind$Kinds.holds(II)I -/
def hq_167 (S : hp_S) (i1 : Int32) (i2 : Int32) : Int32 := (if i1 = (Int32.ofInt 1) then ((Int32.ofInt 3) + i2) else (if i1 = (Int32.ofInt 2) then ((Int32.ofInt 3) + (i2 / (Int32.ofInt 2))) else (if i1 = (Int32.ofInt 3) then (Int32.ofInt 2) else (if i1 = (Int32.ofInt 4) then (((Int32.ofInt 3) + i2) + (Int32.ofInt 2)) else (if i1 = (Int32.ofInt 5) then (((Int32.ofInt 3) + (i2 / (Int32.ofInt 2))) - (Int32.ofInt 2)) else (if i1 = (Int32.ofInt 6) then (Int32.ofInt 0) else (if i1 = (Int32.ofInt 7) then i2 else (Int32.ofInt 3))))))))
set_option maxRecDepth 10000 in
theorem ht_167 {X : hp_X} (S : hp_S) (i1 : Int32) (i2 : Int32) (n : Nat) : hp_T n 167 0 [some (.int i1), some (.int i2), none, none] [] (hp_mem X S) (hp_i X S) (hq_167 S i1 i2) := by
  unfold hq_167
  refine hp_sN [1, 2, 3, 4, 5, 6, 7] (pc' := 7) (L' := [some (.int i1), some (.int i2), some (.int ((Int32.ofInt 3) + i2)), none]) (st' := [.int (Int32.ofInt 2), .int i2, .int (Int32.ofInt 3)]) rfl rfl ?_
  refine hp_di (pc' := 8) rfl rfl ?_
  refine hp_sN [9, 10, 11] (pc' := 11) (L' := [some (.int i1), some (.int i2), some (.int ((Int32.ofInt 3) + i2)), some (.int ((Int32.ofInt 3) + (i2 / (Int32.ofInt 2))))]) (st' := [.int i1]) rfl rfl ?_
  refine hp_st (c := 1) (t := 52) rfl (by decide) (by decide) rfl (fun h1 => ?_) (fun h2 => ?_)
  · refine hp_sN [53] (pc' := 53) (L' := [some (.int i1), some (.int i2), some (.int ((Int32.ofInt 3) + i2)), some (.int ((Int32.ofInt 3) + (i2 / (Int32.ofInt 2))))]) (st' := [.int ((Int32.ofInt 3) + i2)]) rfl rfl ?_
    exact hp_Ri rfl
  refine hp_st (c := 2) (t := 54) rfl (by decide) (by decide) rfl (fun h3 => ?_) (fun h4 => ?_)
  · refine hp_sN [55] (pc' := 55) (L' := [some (.int i1), some (.int i2), some (.int ((Int32.ofInt 3) + i2)), some (.int ((Int32.ofInt 3) + (i2 / (Int32.ofInt 2))))]) (st' := [.int ((Int32.ofInt 3) + (i2 / (Int32.ofInt 2)))]) rfl rfl ?_
    exact hp_Ri rfl
  refine hp_st (c := 3) (t := 56) rfl (by decide) (by decide) rfl (fun h5 => ?_) (fun h6 => ?_)
  · refine hp_sN [57] (pc' := 57) (L' := [some (.int i1), some (.int i2), some (.int ((Int32.ofInt 3) + i2)), some (.int ((Int32.ofInt 3) + (i2 / (Int32.ofInt 2))))]) (st' := [.int (Int32.ofInt 2)]) rfl rfl ?_
    exact hp_Ri rfl
  refine hp_st (c := 4) (t := 58) rfl (by decide) (by decide) rfl (fun h7 => ?_) (fun h8 => ?_)
  · refine hp_sN [59, 60, 61] (pc' := 61) (L' := [some (.int i1), some (.int i2), some (.int ((Int32.ofInt 3) + i2)), some (.int ((Int32.ofInt 3) + (i2 / (Int32.ofInt 2))))]) (st' := [.int (((Int32.ofInt 3) + i2) + (Int32.ofInt 2))]) rfl rfl ?_
    exact hp_Ri rfl
  refine hp_st (c := 5) (t := 62) rfl (by decide) (by decide) rfl (fun h9 => ?_) (fun h10 => ?_)
  · refine hp_sN [63, 64, 65] (pc' := 65) (L' := [some (.int i1), some (.int i2), some (.int ((Int32.ofInt 3) + i2)), some (.int ((Int32.ofInt 3) + (i2 / (Int32.ofInt 2))))]) (st' := [.int (((Int32.ofInt 3) + (i2 / (Int32.ofInt 2))) - (Int32.ofInt 2))]) rfl rfl ?_
    exact hp_Ri rfl
  refine hp_st (c := 6) (t := 66) rfl (by decide) (by decide) rfl (fun h11 => ?_) (fun h12 => ?_)
  · refine hp_sN [67] (pc' := 67) (L' := [some (.int i1), some (.int i2), some (.int ((Int32.ofInt 3) + i2)), some (.int ((Int32.ofInt 3) + (i2 / (Int32.ofInt 2))))]) (st' := [.int (Int32.ofInt 0)]) rfl rfl ?_
    exact hp_Ri rfl
  refine hp_st (c := 7) (t := 68) rfl (by decide) (by decide) rfl (fun h13 => ?_) (fun h14 => ?_)
  · refine hp_sN [69] (pc' := 69) (L' := [some (.int i1), some (.int i2), some (.int ((Int32.ofInt 3) + i2)), some (.int ((Int32.ofInt 3) + (i2 / (Int32.ofInt 2))))]) (st' := [.int i2]) rfl rfl ?_
    exact hp_Ri rfl
  refine hp_td (t := 70) [1, 2, 3, 4, 5, 6, 7] rfl rfl rfl (by decide) (fun c q => ?_) ?_
  · simp only [List.mem_cons, List.not_mem_nil, or_false] at q
    omega
  refine hp_sN [71] (pc' := 71) (L' := [some (.int i1), some (.int i2), some (.int ((Int32.ofInt 3) + i2)), some (.int ((Int32.ofInt 3) + (i2 / (Int32.ofInt 2))))]) (st' := [.int (Int32.ofInt 3)]) rfl rfl ?_
  exact hp_Ri rfl
theorem hk_167 {X : hp_X} (S : hp_S) (i1 : Int32) (i2 : Int32) : hp_K 167 [.int i1, .int i2] (hp_mem X S) (hp_i X S) (hq_167 S i1 i2) := by
  refine hp_mk (q := hzq_167) rfl (by decide) (L := [some (.int i1), some (.int i2), none, none]) rfl (fun n => ?_)
  exact ht_167 S i1 i2 n
/-! 204: HatsOfTheWind$Street.blowOff(I)V -/
def hq_204 (S : hp_S) (b : Nat) (i1 : Int32) : hp_S := (if hz_cmp .eq (hq_181 S b (S (b + 7) i1.toNatClampNeg)) 0 = true then S else (if hz_cmp .le (hq_203 S b (S (b + 2) (S (b + 7) i1.toNatClampNeg).toNatClampNeg)) ((hq_167 S (S (b + 5) i1.toNatClampNeg) (S (b + 6) i1.toNatClampNeg)) + (S (b + 4) (S (b + 7) i1.toNatClampNeg).toNatClampNeg)) = true then S else hp_w (hp_w S (b + 7) i1.toNatClampNeg (Int32.ofInt 9)) (b + 8) i1.toNatClampNeg (hp_w S (b + 7) i1.toNatClampNeg (Int32.ofInt 9) (b + 2) (S (b + 7) i1.toNatClampNeg).toNatClampNeg)))
theorem hf_204 {b : Nat} (S : hp_S) (i1 : Int32) (j : Nat) (z0 : j ≠ (b + 7)) (z1 : j ≠ (b + 8)) : (hq_204 S b i1) j = S j := by
  unfold hq_204
  repeat' split
  all_goals simp [hp_wo, hp_wgo, hp_cpo, z0, z1]
set_option maxRecDepth 10000 in
theorem ht_204 {X : hp_X} {b : Nat} (hb : hp_b b) (S : hp_S) (i1 : Int32) (n : Nat) : hp_T n 204 0 [some (.ref b), some (.int i1), none] [] (hp_mem X S) (hp_v X) (hq_204 S b i1) := by
  unfold hq_204
  refine hp_sN [1] (pc' := 1) (L' := [some (.ref b), some (.int i1), none]) (st' := [.ref b]) rfl rfl ?_
  refine hp_gf (pc' := 4) rfl (hp_bl hb 0 (by decide)) (hp_b0 hb X _) rfl rfl ?_
  refine hp_sN [5] (pc' := 5) (L' := [some (.ref b), some (.int i1), none]) (st' := [.int i1, .ref (b + 7)]) rfl rfl ?_
  refine hp_al (pc' := 6) rfl (hp_bl hb 7 (by decide)) (hp_b7 hb X _) rfl ?_
  refine hp_sN [7, 8, 9] (pc' := 9) (L' := [some (.ref b), some (.int i1), some (.int (S (b + 7) i1.toNatClampNeg))]) (st' := [.int (S (b + 7) i1.toNatClampNeg), .ref b]) rfl rfl ?_
  refine hp_iv (virt := true) (pc' := 12) (rv := some (.int (hq_181 S b (S (b + 7) i1.toNatClampNeg)))) (M1 := hp_mem X (S)) rfl rfl (by decide) (hk_181 hb S ((S (b + 7) i1.toNatClampNeg))) rfl rfl ?_
  show hp_T _ 204 12 _ [.int (hq_181 S b (S (b + 7) i1.toNatClampNeg))] _ _ _
  refine hp_if (pc' := 15) rfl rfl (fun h1 => ?_) (fun h1 => ?_)
  · exact hp_Rv rfl
  · refine hp_sN [16, 17] (pc' := 17) (L' := [some (.ref b), some (.int i1), some (.int (S (b + 7) i1.toNatClampNeg))]) (st' := [.ref b, .ref b]) rfl rfl ?_
    refine hp_gf (pc' := 20) rfl (hp_bl hb 0 (by decide)) (hp_b0 hb X _) rfl rfl ?_
    refine hp_sN [21] (pc' := 21) (L' := [some (.ref b), some (.int i1), some (.int (S (b + 7) i1.toNatClampNeg))]) (st' := [.int (S (b + 7) i1.toNatClampNeg), .ref (b + 2), .ref b]) rfl rfl ?_
    refine hp_al (pc' := 22) rfl (hp_bl hb 2 (by decide)) (hp_b2 hb X _) rfl ?_
    refine hp_iv (virt := true) (pc' := 25) (rv := some (.int (hq_203 S b (S (b + 2) (S (b + 7) i1.toNatClampNeg).toNatClampNeg)))) (M1 := hp_mem X (S)) rfl rfl (by decide) (hk_203 hb S ((S (b + 2) (S (b + 7) i1.toNatClampNeg).toNatClampNeg))) rfl rfl ?_
    show hp_T _ 204 25 _ [.int (hq_203 S b (S (b + 2) (S (b + 7) i1.toNatClampNeg).toNatClampNeg))] _ _ _
    refine hp_sN [26] (pc' := 26) (L' := [some (.ref b), some (.int i1), some (.int (S (b + 7) i1.toNatClampNeg))]) (st' := [.ref b, .int (hq_203 S b (S (b + 2) (S (b + 7) i1.toNatClampNeg).toNatClampNeg))]) rfl rfl ?_
    refine hp_gf (pc' := 29) rfl (hp_bl hb 0 (by decide)) (hp_b0 hb X _) rfl rfl ?_
    refine hp_sN [30] (pc' := 30) (L' := [some (.ref b), some (.int i1), some (.int (S (b + 7) i1.toNatClampNeg))]) (st' := [.int i1, .ref (b + 5), .int (hq_203 S b (S (b + 2) (S (b + 7) i1.toNatClampNeg).toNatClampNeg))]) rfl rfl ?_
    refine hp_al (pc' := 31) rfl (hp_bl hb 5 (by decide)) (hp_b5 hb X _) rfl ?_
    refine hp_sN [32] (pc' := 32) (L' := [some (.ref b), some (.int i1), some (.int (S (b + 7) i1.toNatClampNeg))]) (st' := [.ref b, .int (S (b + 5) i1.toNatClampNeg), .int (hq_203 S b (S (b + 2) (S (b + 7) i1.toNatClampNeg).toNatClampNeg))]) rfl rfl ?_
    refine hp_gf (pc' := 35) rfl (hp_bl hb 0 (by decide)) (hp_b0 hb X _) rfl rfl ?_
    refine hp_sN [36] (pc' := 36) (L' := [some (.ref b), some (.int i1), some (.int (S (b + 7) i1.toNatClampNeg))]) (st' := [.int i1, .ref (b + 6), .int (S (b + 5) i1.toNatClampNeg), .int (hq_203 S b (S (b + 2) (S (b + 7) i1.toNatClampNeg).toNatClampNeg))]) rfl rfl ?_
    refine hp_al (pc' := 37) rfl (hp_bl hb 6 (by decide)) (hp_b6 hb X _) rfl ?_
    refine hp_iv (virt := false) (pc' := 40) (rv := some (.int (hq_167 S (S (b + 5) i1.toNatClampNeg) (S (b + 6) i1.toNatClampNeg)))) (M1 := hp_mem X (S)) rfl rfl (by decide) (hk_167 S ((S (b + 5) i1.toNatClampNeg)) ((S (b + 6) i1.toNatClampNeg))) rfl rfl ?_
    show hp_T _ 204 40 _ [.int (hq_167 S (S (b + 5) i1.toNatClampNeg) (S (b + 6) i1.toNatClampNeg)), .int (hq_203 S b (S (b + 2) (S (b + 7) i1.toNatClampNeg).toNatClampNeg))] _ _ _
    refine hp_sN [41] (pc' := 41) (L' := [some (.ref b), some (.int i1), some (.int (S (b + 7) i1.toNatClampNeg))]) (st' := [.ref b, .int (hq_167 S (S (b + 5) i1.toNatClampNeg) (S (b + 6) i1.toNatClampNeg)), .int (hq_203 S b (S (b + 2) (S (b + 7) i1.toNatClampNeg).toNatClampNeg))]) rfl rfl ?_
    refine hp_gf (pc' := 44) rfl (hp_bl hb 0 (by decide)) (hp_b0 hb X _) rfl rfl ?_
    refine hp_sN [45] (pc' := 45) (L' := [some (.ref b), some (.int i1), some (.int (S (b + 7) i1.toNatClampNeg))]) (st' := [.int (S (b + 7) i1.toNatClampNeg), .ref (b + 4), .int (hq_167 S (S (b + 5) i1.toNatClampNeg) (S (b + 6) i1.toNatClampNeg)), .int (hq_203 S b (S (b + 2) (S (b + 7) i1.toNatClampNeg).toNatClampNeg))]) rfl rfl ?_
    refine hp_al (pc' := 46) rfl (hp_bl hb 4 (by decide)) (hp_b4 hb X _) rfl ?_
    refine hp_sN [47] (pc' := 47) (L' := [some (.ref b), some (.int i1), some (.int (S (b + 7) i1.toNatClampNeg))]) (st' := [.int ((hq_167 S (S (b + 5) i1.toNatClampNeg) (S (b + 6) i1.toNatClampNeg)) + (S (b + 4) (S (b + 7) i1.toNatClampNeg).toNatClampNeg)), .int (hq_203 S b (S (b + 2) (S (b + 7) i1.toNatClampNeg).toNatClampNeg))]) rfl rfl ?_
    refine hp_ic (pc' := 50) rfl rfl (fun h2 => ?_) (fun h2 => ?_)
    · exact hp_Rv rfl
    · refine hp_sN [51] (pc' := 51) (L' := [some (.ref b), some (.int i1), some (.int (S (b + 7) i1.toNatClampNeg))]) (st' := [.ref b]) rfl rfl ?_
      refine hp_gf (pc' := 54) rfl (hp_bl hb 0 (by decide)) (hp_b0 hb X _) rfl rfl ?_
      refine hp_sN [55, 57] (pc' := 57) (L' := [some (.ref b), some (.int i1), some (.int (S (b + 7) i1.toNatClampNeg))]) (st' := [.int (Int32.ofInt 9), .int i1, .ref (b + 7)]) rfl rfl ?_
      refine hp_as (pc' := 58) rfl (hp_bl hb 7 (by decide)) (fun _ => (hp_b7 hb X _)) rfl ?_
      refine hp_sN [59] (pc' := 59) (L' := [some (.ref b), some (.int i1), some (.int (S (b + 7) i1.toNatClampNeg))]) (st' := [.ref b]) rfl rfl ?_
      refine hp_gf (pc' := 62) rfl (hp_bl hb 0 (by decide)) (hp_b0 hb X _) rfl rfl ?_
      refine hp_sN [63, 64] (pc' := 64) (L' := [some (.ref b), some (.int i1), some (.int (S (b + 7) i1.toNatClampNeg))]) (st' := [.ref b, .int i1, .ref (b + 8)]) rfl rfl ?_
      refine hp_gf (pc' := 67) rfl (hp_bl hb 0 (by decide)) (hp_b0 hb X _) rfl rfl ?_
      refine hp_sN [68] (pc' := 68) (L' := [some (.ref b), some (.int i1), some (.int (S (b + 7) i1.toNatClampNeg))]) (st' := [.int (S (b + 7) i1.toNatClampNeg), .ref (b + 2), .int i1, .ref (b + 8)]) rfl rfl ?_
      refine hp_al (pc' := 69) rfl (hp_bl hb 2 (by decide)) (hp_b2 hb X _) rfl ?_
      refine hp_as (pc' := 70) rfl (hp_bl hb 8 (by decide)) (fun _ => (hp_b8 hb X _)) rfl ?_
      exact hp_Rv rfl
theorem hk_204 {X : hp_X} {b : Nat} (hb : hp_b b) (S : hp_S) (i1 : Int32) : hp_K 204 [.ref b, .int i1] (hp_mem X S) (hp_v X) (hq_204 S b i1) := by
  refine hp_mk (q := hzq_204) rfl (by decide) (L := [some (.ref b), some (.int i1), none]) rfl (fun n => ?_)
  exact ht_204 hb S i1 n
/-! 184: HatsOfTheWind$Street.isLoose(I)Z -/
def hq_184 (S : hp_S) (b : Nat) (i1 : Int32) : Int32 := (if hz_cmp .ne (S (b + 7) i1.toNatClampNeg) (Int32.ofInt 9) = true then (Int32.ofInt 0) else (if hz_cmp .eq (S (b + 8) i1.toNatClampNeg) (Int32.ofInt 21) = true then (Int32.ofInt 0) else (Int32.ofInt 1)))
set_option maxRecDepth 10000 in
theorem ht_184 {X : hp_X} {b : Nat} (hb : hp_b b) (S : hp_S) (i1 : Int32) (n : Nat) : hp_T n 184 0 [some (.ref b), some (.int i1)] [] (hp_mem X S) (hp_i X S) (hq_184 S b i1) := by
  unfold hq_184
  refine hp_sN [1] (pc' := 1) (L' := [some (.ref b), some (.int i1)]) (st' := [.ref b]) rfl rfl ?_
  refine hp_gf (pc' := 4) rfl (hp_bl hb 0 (by decide)) (hp_b0 hb X _) rfl rfl ?_
  refine hp_sN [5] (pc' := 5) (L' := [some (.ref b), some (.int i1)]) (st' := [.int i1, .ref (b + 7)]) rfl rfl ?_
  refine hp_al (pc' := 6) rfl (hp_bl hb 7 (by decide)) (hp_b7 hb X _) rfl ?_
  refine hp_sN [8] (pc' := 8) (L' := [some (.ref b), some (.int i1)]) (st' := [.int (Int32.ofInt 9), .int (S (b + 7) i1.toNatClampNeg)]) rfl rfl ?_
  refine hp_ic (pc' := 11) rfl rfl (fun h1 => ?_) (fun h1 => ?_)
  · refine hp_sN [27] (pc' := 27) (L' := [some (.ref b), some (.int i1)]) (st' := [.int (Int32.ofInt 0)]) rfl rfl ?_
    exact hp_Ri rfl
  · refine hp_sN [12] (pc' := 12) (L' := [some (.ref b), some (.int i1)]) (st' := [.ref b]) rfl rfl ?_
    refine hp_gf (pc' := 15) rfl (hp_bl hb 0 (by decide)) (hp_b0 hb X _) rfl rfl ?_
    refine hp_sN [16] (pc' := 16) (L' := [some (.ref b), some (.int i1)]) (st' := [.int i1, .ref (b + 8)]) rfl rfl ?_
    refine hp_al (pc' := 17) rfl (hp_bl hb 8 (by decide)) (hp_b8 hb X _) rfl ?_
    refine hp_sN [19] (pc' := 19) (L' := [some (.ref b), some (.int i1)]) (st' := [.int (Int32.ofInt 21), .int (S (b + 8) i1.toNatClampNeg)]) rfl rfl ?_
    refine hp_ic (pc' := 22) rfl rfl (fun h2 => ?_) (fun h2 => ?_)
    · refine hp_sN [27] (pc' := 27) (L' := [some (.ref b), some (.int i1)]) (st' := [.int (Int32.ofInt 0)]) rfl rfl ?_
      exact hp_Ri rfl
    · refine hp_sN [23, 27] (pc' := 27) (L' := [some (.ref b), some (.int i1)]) (st' := [.int (Int32.ofInt 1)]) rfl rfl ?_
      exact hp_Ri rfl
theorem hk_184 {X : hp_X} {b : Nat} (hb : hp_b b) (S : hp_S) (i1 : Int32) : hp_K 184 [.ref b, .int i1] (hp_mem X S) (hp_i X S) (hq_184 S b i1) := by
  refine hp_mk (q := hzq_184) rfl (by decide) (L := [some (.ref b), some (.int i1)]) rfl (fun n => ?_)
  exact ht_184 hb S i1 n
/-! 168: HatsOfTheWind$Kinds.flies(III)I -/
def hq_168 (S : hp_S) (i1 : Int32) (i2 : Int32) (i3 : Int32) : Int32 := (if hz_cmp .gt i3 0 = true then (if i1 = (Int32.ofInt 2) then (i3 + (Int32.ofInt 1)) else (if i1 = (Int32.ofInt 3) then ((Int32.ofInt 2) * i3) else (if i1 = (Int32.ofInt 4) then (i3 / (Int32.ofInt 2)) else (if i1 = (Int32.ofInt 5) then ((i3 + (Int32.ofInt 1)) + (i2 / (Int32.ofInt 3))) else (if i1 = (Int32.ofInt 6) then (((Int32.ofInt 2) * i3) - (Int32.ofInt 1)) else (if i1 = (Int32.ofInt 7) then (i3 / (Int32.ofInt 3)) else i3)))))) else (Int32.ofInt 0))
set_option maxRecDepth 10000 in
theorem ht_168 {X : hp_X} (S : hp_S) (i1 : Int32) (i2 : Int32) (i3 : Int32) (n : Nat) : hp_T n 168 0 [some (.int i1), some (.int i2), some (.int i3), none, none] [] (hp_mem X S) (hp_i X S) (hq_168 S i1 i2 i3) := by
  unfold hq_168
  refine hp_sN [1] (pc' := 1) (L' := [some (.int i1), some (.int i2), some (.int i3), none, none]) (st' := [.int i3]) rfl rfl ?_
  refine hp_if (pc' := 4) rfl rfl (fun h1 => ?_) (fun h1 => ?_)
  · refine hp_sN [7, 8, 9, 10, 11, 12, 13, 15, 16] (pc' := 16) (L' := [some (.int i1), some (.int i2), some (.int i3), some (.int (i3 + (Int32.ofInt 1))), some (.int ((Int32.ofInt 2) * i3))]) (st' := [.int i1]) rfl rfl ?_
    refine hp_st (c := 2) (t := 56) rfl (by decide) (by decide) rfl (fun h2 => ?_) (fun h3 => ?_)
    · refine hp_sN [57] (pc' := 57) (L' := [some (.int i1), some (.int i2), some (.int i3), some (.int (i3 + (Int32.ofInt 1))), some (.int ((Int32.ofInt 2) * i3))]) (st' := [.int (i3 + (Int32.ofInt 1))]) rfl rfl ?_
      exact hp_Ri rfl
    refine hp_st (c := 3) (t := 58) rfl (by decide) (by decide) rfl (fun h4 => ?_) (fun h5 => ?_)
    · refine hp_sN [60] (pc' := 60) (L' := [some (.int i1), some (.int i2), some (.int i3), some (.int (i3 + (Int32.ofInt 1))), some (.int ((Int32.ofInt 2) * i3))]) (st' := [.int ((Int32.ofInt 2) * i3)]) rfl rfl ?_
      exact hp_Ri rfl
    refine hp_st (c := 4) (t := 61) rfl (by decide) (by decide) rfl (fun h6 => ?_) (fun h7 => ?_)
    · refine hp_sN [62, 63] (pc' := 63) (L' := [some (.int i1), some (.int i2), some (.int i3), some (.int (i3 + (Int32.ofInt 1))), some (.int ((Int32.ofInt 2) * i3))]) (st' := [.int (Int32.ofInt 2), .int i3]) rfl rfl ?_
      refine hp_di (pc' := 64) rfl rfl ?_
      exact hp_Ri rfl
    refine hp_st (c := 5) (t := 65) rfl (by decide) (by decide) rfl (fun h8 => ?_) (fun h9 => ?_)
    · refine hp_sN [66, 67, 68] (pc' := 68) (L' := [some (.int i1), some (.int i2), some (.int i3), some (.int (i3 + (Int32.ofInt 1))), some (.int ((Int32.ofInt 2) * i3))]) (st' := [.int (Int32.ofInt 3), .int i2, .int (i3 + (Int32.ofInt 1))]) rfl rfl ?_
      refine hp_di (pc' := 69) rfl rfl ?_
      refine hp_sN [70] (pc' := 70) (L' := [some (.int i1), some (.int i2), some (.int i3), some (.int (i3 + (Int32.ofInt 1))), some (.int ((Int32.ofInt 2) * i3))]) (st' := [.int ((i3 + (Int32.ofInt 1)) + (i2 / (Int32.ofInt 3)))]) rfl rfl ?_
      exact hp_Ri rfl
    refine hp_st (c := 6) (t := 71) rfl (by decide) (by decide) rfl (fun h10 => ?_) (fun h11 => ?_)
    · refine hp_sN [73, 74, 75] (pc' := 75) (L' := [some (.int i1), some (.int i2), some (.int i3), some (.int (i3 + (Int32.ofInt 1))), some (.int ((Int32.ofInt 2) * i3))]) (st' := [.int (((Int32.ofInt 2) * i3) - (Int32.ofInt 1))]) rfl rfl ?_
      exact hp_Ri rfl
    refine hp_st (c := 7) (t := 76) rfl (by decide) (by decide) rfl (fun h12 => ?_) (fun h13 => ?_)
    · refine hp_sN [77, 78] (pc' := 78) (L' := [some (.int i1), some (.int i2), some (.int i3), some (.int (i3 + (Int32.ofInt 1))), some (.int ((Int32.ofInt 2) * i3))]) (st' := [.int (Int32.ofInt 3), .int i3]) rfl rfl ?_
      refine hp_di (pc' := 79) rfl rfl ?_
      exact hp_Ri rfl
    refine hp_td (t := 80) [2, 3, 4, 5, 6, 7] rfl rfl rfl (by decide) (fun c q => ?_) ?_
    · simp only [List.mem_cons, List.not_mem_nil, or_false] at q
      omega
    refine hp_sN [81] (pc' := 81) (L' := [some (.int i1), some (.int i2), some (.int i3), some (.int (i3 + (Int32.ofInt 1))), some (.int ((Int32.ofInt 2) * i3))]) (st' := [.int i3]) rfl rfl ?_
    exact hp_Ri rfl
  · refine hp_sN [5] (pc' := 5) (L' := [some (.int i1), some (.int i2), some (.int i3), none, none]) (st' := [.int (Int32.ofInt 0)]) rfl rfl ?_
    exact hp_Ri rfl
theorem hk_168 {X : hp_X} (S : hp_S) (i1 : Int32) (i2 : Int32) (i3 : Int32) : hp_K 168 [.int i1, .int i2, .int i3] (hp_mem X S) (hp_i X S) (hq_168 S i1 i2 i3) := by
  refine hp_mk (q := hzq_168) rfl (by decide) (L := [some (.int i1), some (.int i2), some (.int i3), none, none]) rfl (fun n => ?_)
  exact ht_168 S i1 i2 i3 n
/-! 220: java/lang/Math.min(II)I -/
def hq_220 (S : hp_S) (i1 : Int32) (i2 : Int32) : Int32 := (if hz_cmp .gt i1 i2 = true then i2 else i1)
set_option maxRecDepth 10000 in
theorem ht_220 {X : hp_X} (S : hp_S) (i1 : Int32) (i2 : Int32) (n : Nat) : hp_T n 220 0 [some (.int i1), some (.int i2)] [] (hp_mem X S) (hp_i X S) (hq_220 S i1 i2) := by
  unfold hq_220
  refine hp_sN [1, 2] (pc' := 2) (L' := [some (.int i1), some (.int i2)]) (st' := [.int i2, .int i1]) rfl rfl ?_
  refine hp_ic (pc' := 5) rfl rfl (fun h1 => ?_) (fun h1 => ?_)
  · refine hp_sN [10] (pc' := 10) (L' := [some (.int i1), some (.int i2)]) (st' := [.int i2]) rfl rfl ?_
    exact hp_Ri rfl
  · refine hp_sN [6, 10] (pc' := 10) (L' := [some (.int i1), some (.int i2)]) (st' := [.int i1]) rfl rfl ?_
    exact hp_Ri rfl
theorem hk_220 {X : hp_X} (S : hp_S) (i1 : Int32) (i2 : Int32) : hp_K 220 [.int i1, .int i2] (hp_mem X S) (hp_i X S) (hq_220 S i1 i2) := by
  refine hp_mk (q := hzq_220) rfl (by decide) (L := [some (.int i1), some (.int i2)]) rfl (fun n => ?_)
  exact ht_220 S i1 i2 n
/-! 205: HatsOfTheWind$Street.landing(II)I -/
def hq_205 (S : hp_S) (b : Nat) (i1 : Int32) (i2 : Int32) : Int32 := (hq_220 S (i2 + (hq_168 S (S (b + 5) i1.toNatClampNeg) (S (b + 6) i1.toNatClampNeg) (hq_203 S b i2))) (Int32.ofInt 21))
set_option maxRecDepth 10000 in
theorem ht_205 {X : hp_X} {b : Nat} (hb : hp_b b) (S : hp_S) (i1 : Int32) (i2 : Int32) (n : Nat) : hp_T n 205 0 [some (.ref b), some (.int i1), some (.int i2), none] [] (hp_mem X S) (hp_i X S) (hq_205 S b i1 i2) := by
  unfold hq_205
  refine hp_sN [1, 2] (pc' := 2) (L' := [some (.ref b), some (.int i1), some (.int i2), none]) (st' := [.ref b, .int i2]) rfl rfl ?_
  refine hp_gf (pc' := 5) rfl (hp_bl hb 0 (by decide)) (hp_b0 hb X _) rfl rfl ?_
  refine hp_sN [6] (pc' := 6) (L' := [some (.ref b), some (.int i1), some (.int i2), none]) (st' := [.int i1, .ref (b + 5), .int i2]) rfl rfl ?_
  refine hp_al (pc' := 7) rfl (hp_bl hb 5 (by decide)) (hp_b5 hb X _) rfl ?_
  refine hp_sN [8] (pc' := 8) (L' := [some (.ref b), some (.int i1), some (.int i2), none]) (st' := [.ref b, .int (S (b + 5) i1.toNatClampNeg), .int i2]) rfl rfl ?_
  refine hp_gf (pc' := 11) rfl (hp_bl hb 0 (by decide)) (hp_b0 hb X _) rfl rfl ?_
  refine hp_sN [12] (pc' := 12) (L' := [some (.ref b), some (.int i1), some (.int i2), none]) (st' := [.int i1, .ref (b + 6), .int (S (b + 5) i1.toNatClampNeg), .int i2]) rfl rfl ?_
  refine hp_al (pc' := 13) rfl (hp_bl hb 6 (by decide)) (hp_b6 hb X _) rfl ?_
  refine hp_sN [14, 15] (pc' := 15) (L' := [some (.ref b), some (.int i1), some (.int i2), none]) (st' := [.int i2, .ref b, .int (S (b + 6) i1.toNatClampNeg), .int (S (b + 5) i1.toNatClampNeg), .int i2]) rfl rfl ?_
  refine hp_iv (virt := true) (pc' := 18) (rv := some (.int (hq_203 S b i2))) (M1 := hp_mem X (S)) rfl rfl (by decide) (hk_203 hb S (i2)) rfl rfl ?_
  show hp_T _ 205 18 _ [.int (hq_203 S b i2), .int (S (b + 6) i1.toNatClampNeg), .int (S (b + 5) i1.toNatClampNeg), .int i2] _ _ _
  refine hp_iv (virt := false) (pc' := 21) (rv := some (.int (hq_168 S (S (b + 5) i1.toNatClampNeg) (S (b + 6) i1.toNatClampNeg) (hq_203 S b i2)))) (M1 := hp_mem X (S)) rfl rfl (by decide) (hk_168 S ((S (b + 5) i1.toNatClampNeg)) ((S (b + 6) i1.toNatClampNeg)) ((hq_203 S b i2))) rfl rfl ?_
  show hp_T _ 205 21 _ [.int (hq_168 S (S (b + 5) i1.toNatClampNeg) (S (b + 6) i1.toNatClampNeg) (hq_203 S b i2)), .int i2] _ _ _
  refine hp_sN [22, 23, 24, 26] (pc' := 26) (L' := [some (.ref b), some (.int i1), some (.int i2), some (.int (i2 + (hq_168 S (S (b + 5) i1.toNatClampNeg) (S (b + 6) i1.toNatClampNeg) (hq_203 S b i2))))]) (st' := [.int (Int32.ofInt 21), .int (i2 + (hq_168 S (S (b + 5) i1.toNatClampNeg) (S (b + 6) i1.toNatClampNeg) (hq_203 S b i2)))]) rfl rfl ?_
  refine hp_iv (virt := false) (pc' := 29) (rv := some (.int (hq_220 S (i2 + (hq_168 S (S (b + 5) i1.toNatClampNeg) (S (b + 6) i1.toNatClampNeg) (hq_203 S b i2))) (Int32.ofInt 21)))) (M1 := hp_mem X (S)) rfl rfl (by decide) (hk_220 S ((i2 + (hq_168 S (S (b + 5) i1.toNatClampNeg) (S (b + 6) i1.toNatClampNeg) (hq_203 S b i2)))) ((Int32.ofInt 21))) rfl rfl ?_
  show hp_T _ 205 29 _ [.int (hq_220 S (i2 + (hq_168 S (S (b + 5) i1.toNatClampNeg) (S (b + 6) i1.toNatClampNeg) (hq_203 S b i2))) (Int32.ofInt 21))] _ _ _
  exact hp_Ri rfl
theorem hk_205 {X : hp_X} {b : Nat} (hb : hp_b b) (S : hp_S) (i1 : Int32) (i2 : Int32) : hp_K 205 [.ref b, .int i1, .int i2] (hp_mem X S) (hp_i X S) (hq_205 S b i1 i2) := by
  refine hp_mk (q := hzq_205) rfl (by decide) (L := [some (.ref b), some (.int i1), some (.int i2), none]) rfl (fun n => ?_)
  exact ht_205 hb S i1 i2 n
/-! 218: java/lang/Math.abs(I)I -/
def hq_218 (S : hp_S) (i1 : Int32) : Int32 := (if hz_cmp .ge i1 0 = true then i1 else (-i1))
set_option maxRecDepth 10000 in
theorem ht_218 {X : hp_X} (S : hp_S) (i1 : Int32) (n : Nat) : hp_T n 218 0 [some (.int i1)] [] (hp_mem X S) (hp_i X S) (hq_218 S i1) := by
  unfold hq_218
  refine hp_sN [1] (pc' := 1) (L' := [some (.int i1)]) (st' := [.int i1]) rfl rfl ?_
  refine hp_if (pc' := 4) rfl rfl (fun h1 => ?_) (fun h1 => ?_)
  · refine hp_sN [10] (pc' := 10) (L' := [some (.int i1)]) (st' := [.int i1]) rfl rfl ?_
    exact hp_Ri rfl
  · refine hp_sN [5, 6, 10] (pc' := 10) (L' := [some (.int i1)]) (st' := [.int (-i1)]) rfl rfl ?_
    exact hp_Ri rfl
theorem hk_218 {X : hp_X} (S : hp_S) (i1 : Int32) : hp_K 218 [.int i1] (hp_mem X S) (hp_i X S) (hq_218 S i1) := by
  refine hp_mk (q := hzq_218) rfl (by decide) (L := [some (.int i1)]) rfl (fun n => ?_)
  exact ht_218 S i1 n
/-! 207: HatsOfTheWind$Street.nearestLoose(I)I -/
def hq_207_9 (b : Nat) (i1 : Int32) : Nat → hp_S → Int32 → Int32 → Int32 → Int32
  | 0, S, _, _, _ => 0
  | m + 1, S, v2, v3, v4 => (if hz_cmp .ge v4 (S b 8) = true then v2 else (if hz_cmp .eq (hq_184 S b v4) 0 = true then hq_207_9 b i1 m S v2 v3 (v4 + (Int32.ofInt 1)) else (if hz_cmp .ge (hq_218 S ((S (b + 8) v4.toNatClampNeg) - i1)) v3 = true then hq_207_9 b i1 m S v2 v3 (v4 + (Int32.ofInt 1)) else hq_207_9 b i1 m S v4 (hq_218 S ((S (b + 8) v4.toNatClampNeg) - i1)) (v4 + (Int32.ofInt 1)))))
def hq_207 (S : hp_S) (b : Nat) (i1 : Int32) : Int32 := (hq_207_9 b i1 (((S b 8).toInt - (Int32.ofInt 0).toInt).toNat + 1) S ((Int32.ofInt (-4))) ((Int32.ofInt 21)) ((Int32.ofInt 0)))
set_option maxRecDepth 10000 in
theorem ht_207_9 {α : Type} {φ : α → Option Value × hzMem} {R : α} {X : hp_X} (N : Nat) {b : Nat} (hb : hp_b b) (i1 : Int32) (S : hp_S) : ∀ (n : Nat), n ≤ N → ∀ (m : Nat) (v2 : Int32) (v3 : Int32) (v4 : Int32) (x5 : Option Value) (Z : Int32), ((S b 8).toInt - v4.toInt).toNat < m → hq_207_9 b i1 m S v2 v3 v4 = Z → (∀ (x5 : Option Value) (x3 : Option Value) (x4 : Option Value), hp_T N 207 59 [some (.ref b), some (.int i1), some (.int Z), x3, x4, x5] [] (hp_mem X S) φ R) → hp_T n 207 9 [some (.ref b), some (.int i1), some (.int v2), some (.int v3), some (.int v4), x5] [] (hp_mem X S) φ R := by
  intro n
  induction n with
  | zero => intros; exact hp_0
  | succ n ih =>
    intro hN m v2 v3 v4 x5 Z hm hZ kk
    cases m with
    | zero => exact absurd hm (Nat.not_lt_zero _)
    | succ m =>
      rw [hq_207_9] at hZ
      refine hp_sN [11, 12] (pc' := 12) (L' := [some (.ref b), some (.int i1), some (.int v2), some (.int v3), some (.int v4), x5]) (st' := [.ref b, .int v4]) rfl rfl ?_
      refine hp_gf (pc' := 15) rfl (hp_bl hb 0 (by decide)) (hp_b0 hb X _) rfl rfl ?_
      refine hp_ic2 (pc' := 18) rfl rfl (fun h1 => ?_) (fun h1 => ?_)
      · rw [if_pos h1] at hZ
        subst hZ
        exact hp_le hN (kk (x5) (some (.int v3)) (some (.int v4)))
      · rw [if_neg (hp_nt h1)] at hZ
        refine hp_sN [19] (pc' := 19) (L' := [some (.ref b), some (.int i1), some (.int v2), some (.int v3), some (.int v4), x5]) (st' := [.ref b]) rfl rfl ?_
        refine hp_gf (pc' := 22) rfl (hp_bl hb 0 (by decide)) (hp_b0 hb X _) rfl rfl ?_
        refine hp_sN [24] (pc' := 24) (L' := [some (.ref b), some (.int i1), some (.int v2), some (.int v3), some (.int v4), x5]) (st' := [.int v4, .ref (b + 8)]) rfl rfl ?_
        refine hp_al (pc' := 25) rfl (hp_bl hb 8 (by decide)) (hp_b8 hb X _) rfl ?_
        refine hp_sN [26, 27] (pc' := 27) (L' := [some (.ref b), some (.int i1), some (.int v2), some (.int v3), some (.int v4), x5]) (st' := [.int ((S (b + 8) v4.toNatClampNeg) - i1)]) rfl rfl ?_
        refine hp_iv (virt := false) (pc' := 30) (rv := some (.int (hq_218 S ((S (b + 8) v4.toNatClampNeg) - i1)))) (M1 := hp_mem X (S)) rfl rfl (by decide) (hk_218 S (((S (b + 8) v4.toNatClampNeg) - i1))) rfl rfl ?_
        show hp_T _ 207 30 _ [.int (hq_218 S ((S (b + 8) v4.toNatClampNeg) - i1))] _ _ _
        refine hp_sN [32, 33, 35] (pc' := 35) (L' := [some (.ref b), some (.int i1), some (.int v2), some (.int v3), some (.int v4), some (.int (hq_218 S ((S (b + 8) v4.toNatClampNeg) - i1)))]) (st' := [.int v4, .ref b]) rfl rfl ?_
        refine hp_iv (virt := true) (pc' := 38) (rv := some (.int (hq_184 S b v4))) (M1 := hp_mem X (S)) rfl rfl (by decide) (hk_184 hb S (v4)) rfl rfl ?_
        show hp_T _ 207 38 _ [.int (hq_184 S b v4)] _ _ _
        refine hp_if2 (pc' := 41) rfl rfl (fun h2 => ?_) (fun h2 => ?_)
        · rw [if_pos h2] at hZ
          refine hp_sB 56 [9] (pc' := 9) (L' := [some (.ref b), some (.int i1), some (.int v2), some (.int v3), some (.int (v4 + (Int32.ofInt 1))), some (.int (hq_218 S ((S (b + 8) v4.toNatClampNeg) - i1)))]) (st' := []) rfl rfl ?_
          exact ih (Nat.le_trans (Nat.le_succ n) hN) m (v2) (v3) ((v4 + (Int32.ofInt 1))) (some (.int (hq_218 S ((S (b + 8) v4.toNatClampNeg) - i1)))) Z (hp_up h1 hm) hZ kk
        · rw [if_neg (hp_nt h2)] at hZ
          refine hp_sN [43, 44] (pc' := 44) (L' := [some (.ref b), some (.int i1), some (.int v2), some (.int v3), some (.int v4), some (.int (hq_218 S ((S (b + 8) v4.toNatClampNeg) - i1)))]) (st' := [.int v3, .int (hq_218 S ((S (b + 8) v4.toNatClampNeg) - i1))]) rfl rfl ?_
          refine hp_ic2 (pc' := 47) rfl rfl (fun h3 => ?_) (fun h3 => ?_)
          · rw [if_pos h3] at hZ
            refine hp_sB 56 [9] (pc' := 9) (L' := [some (.ref b), some (.int i1), some (.int v2), some (.int v3), some (.int (v4 + (Int32.ofInt 1))), some (.int (hq_218 S ((S (b + 8) v4.toNatClampNeg) - i1)))]) (st' := []) rfl rfl ?_
            exact ih (Nat.le_trans (Nat.le_succ n) hN) m (v2) (v3) ((v4 + (Int32.ofInt 1))) (some (.int (hq_218 S ((S (b + 8) v4.toNatClampNeg) - i1)))) Z (hp_up h1 hm) hZ kk
          · rw [if_neg (hp_nt h3)] at hZ
            refine hp_sB 49 [50, 52, 53, 56, 9] (pc' := 9) (L' := [some (.ref b), some (.int i1), some (.int v4), some (.int (hq_218 S ((S (b + 8) v4.toNatClampNeg) - i1))), some (.int (v4 + (Int32.ofInt 1))), some (.int (hq_218 S ((S (b + 8) v4.toNatClampNeg) - i1)))]) (st' := []) rfl rfl ?_
            exact ih (Nat.le_trans (Nat.le_succ n) hN) m (v4) ((hq_218 S ((S (b + 8) v4.toNatClampNeg) - i1))) ((v4 + (Int32.ofInt 1))) (some (.int (hq_218 S ((S (b + 8) v4.toNatClampNeg) - i1)))) Z (hp_up h1 hm) hZ kk
set_option maxRecDepth 10000 in
theorem ht_207 {X : hp_X} {b : Nat} (hb : hp_b b) (S : hp_S) (i1 : Int32) (n : Nat) : hp_T n 207 0 [some (.ref b), some (.int i1), none, none, none, none] [] (hp_mem X S) (hp_i X S) (hq_207 S b i1) := by
  unfold hq_207
  refine hp_sN [2, 3, 5, 6, 7, 9] (pc' := 9) (L' := [some (.ref b), some (.int i1), some (.int (Int32.ofInt (-4))), some (.int (Int32.ofInt 21)), some (.int (Int32.ofInt 0)), none]) (st' := []) rfl rfl ?_
  refine ht_207_9 n hb i1 S n (Nat.le_refl _) (((S b 8).toInt - (Int32.ofInt 0).toInt).toNat + 1)  ((Int32.ofInt (-4))) ((Int32.ofInt 21)) ((Int32.ofInt 0)) (none) _ (Nat.lt_succ_self _) rfl (fun x5_9 x3_9 x4_9 => ?_)
  show hp_T _ 207 59 [some (.ref b), some (.int i1), some (.int (hq_207_9 b i1 (((S b 8).toInt - (Int32.ofInt 0).toInt).toNat + 1) S ((Int32.ofInt (-4))) ((Int32.ofInt 21)) ((Int32.ofInt 0)))), x3_9, x4_9, x5_9] _ (hp_mem X S) _ _
  refine hp_sN [60] (pc' := 60) (L' := [some (.ref b), some (.int i1), some (.int (hq_207_9 b i1 (((S b 8).toInt - (Int32.ofInt 0).toInt).toNat + 1) S ((Int32.ofInt (-4))) ((Int32.ofInt 21)) ((Int32.ofInt 0)))), x3_9, x4_9, x5_9]) (st' := [.int (hq_207_9 b i1 (((S b 8).toInt - (Int32.ofInt 0).toInt).toNat + 1) S ((Int32.ofInt (-4))) ((Int32.ofInt 21)) ((Int32.ofInt 0)))]) rfl rfl ?_
  exact hp_Ri rfl
theorem hk_207 {X : hp_X} {b : Nat} (hb : hp_b b) (S : hp_S) (i1 : Int32) : hp_K 207 [.ref b, .int i1] (hp_mem X S) (hp_i X S) (hq_207 S b i1) := by
  refine hp_mk (q := hzq_207) rfl (by decide) (L := [some (.ref b), some (.int i1), none, none, none, none]) rfl (fun n => ?_)
  exact ht_207 hb S i1 n

/-! 182: HatsOfTheWind$Street.isHat(I)Z -/
def hq_182 (S : hp_S) (b : Nat) (i1 : Int32) : Int32 := (if hz_cmp .lt i1 0 = true then (Int32.ofInt 0) else (if hz_cmp .ge i1 (S b 8) = true then (Int32.ofInt 0) else (Int32.ofInt 1)))
set_option maxRecDepth 10000 in
theorem ht_182 {X : hp_X} {b : Nat} (hb : hp_b b) (S : hp_S) (i1 : Int32) (n : Nat) : hp_T n 182 0 [some (.ref b), some (.int i1)] [] (hp_mem X S) (hp_i X S) (hq_182 S b i1) := by
  unfold hq_182
  refine hp_sN [1] (pc' := 1) (L' := [some (.ref b), some (.int i1)]) (st' := [.int i1]) rfl rfl ?_
  refine hp_if (pc' := 4) rfl rfl (fun h1 => ?_) (fun h1 => ?_)
  · refine hp_sN [17] (pc' := 17) (L' := [some (.ref b), some (.int i1)]) (st' := [.int (Int32.ofInt 0)]) rfl rfl ?_
    exact hp_Ri rfl
  · refine hp_sN [5, 6] (pc' := 6) (L' := [some (.ref b), some (.int i1)]) (st' := [.ref b, .int i1]) rfl rfl ?_
    refine hp_gf (pc' := 9) rfl (hp_bl hb 0 (by decide)) (hp_b0 hb X _) rfl rfl ?_
    refine hp_ic (pc' := 12) rfl rfl (fun h2 => ?_) (fun h2 => ?_)
    · refine hp_sN [17] (pc' := 17) (L' := [some (.ref b), some (.int i1)]) (st' := [.int (Int32.ofInt 0)]) rfl rfl ?_
      exact hp_Ri rfl
    · refine hp_sN [13, 17] (pc' := 17) (L' := [some (.ref b), some (.int i1)]) (st' := [.int (Int32.ofInt 1)]) rfl rfl ?_
      exact hp_Ri rfl
theorem hk_182 {X : hp_X} {b : Nat} (hb : hp_b b) (S : hp_S) (i1 : Int32) : hp_K 182 [.ref b, .int i1] (hp_mem X S) (hp_i X S) (hq_182 S b i1) := by
  refine hp_mk (q := hzq_182) rfl (by decide) (L := [some (.ref b), some (.int i1)]) rfl (fun n => ?_)
  exact ht_182 hb S i1 n
/-! 219: java/lang/Math.max(II)I -/
def hq_219 (S : hp_S) (i1 : Int32) (i2 : Int32) : Int32 := (if hz_cmp .lt i1 i2 = true then i2 else i1)
set_option maxRecDepth 10000 in
theorem ht_219 {X : hp_X} (S : hp_S) (i1 : Int32) (i2 : Int32) (n : Nat) : hp_T n 219 0 [some (.int i1), some (.int i2)] [] (hp_mem X S) (hp_i X S) (hq_219 S i1 i2) := by
  unfold hq_219
  refine hp_sN [1, 2] (pc' := 2) (L' := [some (.int i1), some (.int i2)]) (st' := [.int i2, .int i1]) rfl rfl ?_
  refine hp_ic (pc' := 5) rfl rfl (fun h1 => ?_) (fun h1 => ?_)
  · refine hp_sN [10] (pc' := 10) (L' := [some (.int i1), some (.int i2)]) (st' := [.int i2]) rfl rfl ?_
    exact hp_Ri rfl
  · refine hp_sN [6, 10] (pc' := 10) (L' := [some (.int i1), some (.int i2)]) (st' := [.int i1]) rfl rfl ?_
    exact hp_Ri rfl
theorem hk_219 {X : hp_X} (S : hp_S) (i1 : Int32) (i2 : Int32) : hp_K 219 [.int i1, .int i2] (hp_mem X S) (hp_i X S) (hq_219 S i1 i2) := by
  refine hp_mk (q := hzq_219) rfl (by decide) (L := [some (.int i1), some (.int i2)]) rfl (fun n => ?_)
  exact ht_219 S i1 i2 n
/-! 206: HatsOfTheWind$Street.chase(II)V -/
def hq_206 (S : hp_S) (b : Nat) (i1 : Int32) (i2 : Int32) : hp_S := (if hz_cmp .ne (hq_182 S b i2) 0 = true then (if hz_cmp .ne (hp_w S (b + 2) i1.toNatClampNeg ((S (b + 2) i1.toNatClampNeg) + (hq_219 S (-(S (b + 3) i1.toNatClampNeg)) (hq_220 S (S (b + 3) i1.toNatClampNeg) ((S (b + 8) i2.toNatClampNeg) - (S (b + 2) i1.toNatClampNeg))))) (b + 2) i1.toNatClampNeg) (hp_w S (b + 2) i1.toNatClampNeg ((S (b + 2) i1.toNatClampNeg) + (hq_219 S (-(S (b + 3) i1.toNatClampNeg)) (hq_220 S (S (b + 3) i1.toNatClampNeg) ((S (b + 8) i2.toNatClampNeg) - (S (b + 2) i1.toNatClampNeg))))) (b + 8) i2.toNatClampNeg) = true then hp_w S (b + 2) i1.toNatClampNeg ((S (b + 2) i1.toNatClampNeg) + (hq_219 S (-(S (b + 3) i1.toNatClampNeg)) (hq_220 S (S (b + 3) i1.toNatClampNeg) ((S (b + 8) i2.toNatClampNeg) - (S (b + 2) i1.toNatClampNeg))))) else hp_w (hp_w S (b + 2) i1.toNatClampNeg ((S (b + 2) i1.toNatClampNeg) + (hq_219 S (-(S (b + 3) i1.toNatClampNeg)) (hq_220 S (S (b + 3) i1.toNatClampNeg) ((S (b + 8) i2.toNatClampNeg) - (S (b + 2) i1.toNatClampNeg)))))) (b + 7) i2.toNatClampNeg i1) else S)
theorem hf_206 {b : Nat} (S : hp_S) (i1 : Int32) (i2 : Int32) (j : Nat) (z0 : j ≠ (b + 2)) (z1 : j ≠ (b + 7)) : (hq_206 S b i1 i2) j = S j := by
  unfold hq_206
  repeat' split
  all_goals simp [hp_wo, hp_wgo, hp_cpo, z0, z1]
set_option maxRecDepth 10000 in
theorem ht_206 {X : hp_X} {b : Nat} (hb : hp_b b) (S : hp_S) (i1 : Int32) (i2 : Int32) (n : Nat) : hp_T n 206 0 [some (.ref b), some (.int i1), some (.int i2), none] [] (hp_mem X S) (hp_v X) (hq_206 S b i1 i2) := by
  unfold hq_206
  refine hp_sN [1, 2] (pc' := 2) (L' := [some (.ref b), some (.int i1), some (.int i2), none]) (st' := [.int i2, .ref b]) rfl rfl ?_
  refine hp_iv (virt := true) (pc' := 5) (rv := some (.int (hq_182 S b i2))) (M1 := hp_mem X (S)) rfl rfl (by decide) (hk_182 hb S (i2)) rfl rfl ?_
  show hp_T _ 206 5 _ [.int (hq_182 S b i2)] _ _ _
  refine hp_if (pc' := 8) rfl rfl (fun h1 => ?_) (fun h1 => ?_)
  · refine hp_sN [10] (pc' := 10) (L' := [some (.ref b), some (.int i1), some (.int i2), none]) (st' := [.ref b]) rfl rfl ?_
    refine hp_gf (pc' := 13) rfl (hp_bl hb 0 (by decide)) (hp_b0 hb X _) rfl rfl ?_
    refine hp_sN [14] (pc' := 14) (L' := [some (.ref b), some (.int i1), some (.int i2), none]) (st' := [.int i2, .ref (b + 8)]) rfl rfl ?_
    refine hp_al (pc' := 15) rfl (hp_bl hb 8 (by decide)) (hp_b8 hb X _) rfl ?_
    refine hp_sN [16] (pc' := 16) (L' := [some (.ref b), some (.int i1), some (.int i2), none]) (st' := [.ref b, .int (S (b + 8) i2.toNatClampNeg)]) rfl rfl ?_
    refine hp_gf (pc' := 19) rfl (hp_bl hb 0 (by decide)) (hp_b0 hb X _) rfl rfl ?_
    refine hp_sN [20] (pc' := 20) (L' := [some (.ref b), some (.int i1), some (.int i2), none]) (st' := [.int i1, .ref (b + 2), .int (S (b + 8) i2.toNatClampNeg)]) rfl rfl ?_
    refine hp_al (pc' := 21) rfl (hp_bl hb 2 (by decide)) (hp_b2 hb X _) rfl ?_
    refine hp_sN [22, 23, 24] (pc' := 24) (L' := [some (.ref b), some (.int i1), some (.int i2), some (.int ((S (b + 8) i2.toNatClampNeg) - (S (b + 2) i1.toNatClampNeg)))]) (st' := [.ref b]) rfl rfl ?_
    refine hp_gf (pc' := 27) rfl (hp_bl hb 0 (by decide)) (hp_b0 hb X _) rfl rfl ?_
    refine hp_sN [28, 29] (pc' := 29) (L' := [some (.ref b), some (.int i1), some (.int i2), some (.int ((S (b + 8) i2.toNatClampNeg) - (S (b + 2) i1.toNatClampNeg)))]) (st' := [.int i1, .ref (b + 2), .int i1, .ref (b + 2)]) rfl rfl ?_
    refine hp_al (pc' := 30) rfl (hp_bl hb 2 (by decide)) (hp_b2 hb X _) rfl ?_
    refine hp_sN [31] (pc' := 31) (L' := [some (.ref b), some (.int i1), some (.int i2), some (.int ((S (b + 8) i2.toNatClampNeg) - (S (b + 2) i1.toNatClampNeg)))]) (st' := [.ref b, .int (S (b + 2) i1.toNatClampNeg), .int i1, .ref (b + 2)]) rfl rfl ?_
    refine hp_gf (pc' := 34) rfl (hp_bl hb 0 (by decide)) (hp_b0 hb X _) rfl rfl ?_
    refine hp_sN [35] (pc' := 35) (L' := [some (.ref b), some (.int i1), some (.int i2), some (.int ((S (b + 8) i2.toNatClampNeg) - (S (b + 2) i1.toNatClampNeg)))]) (st' := [.int i1, .ref (b + 3), .int (S (b + 2) i1.toNatClampNeg), .int i1, .ref (b + 2)]) rfl rfl ?_
    refine hp_al (pc' := 36) rfl (hp_bl hb 3 (by decide)) (hp_b3 hb X _) rfl ?_
    refine hp_sN [37, 38] (pc' := 38) (L' := [some (.ref b), some (.int i1), some (.int i2), some (.int ((S (b + 8) i2.toNatClampNeg) - (S (b + 2) i1.toNatClampNeg)))]) (st' := [.ref b, .int (-(S (b + 3) i1.toNatClampNeg)), .int (S (b + 2) i1.toNatClampNeg), .int i1, .ref (b + 2)]) rfl rfl ?_
    refine hp_gf (pc' := 41) rfl (hp_bl hb 0 (by decide)) (hp_b0 hb X _) rfl rfl ?_
    refine hp_sN [42] (pc' := 42) (L' := [some (.ref b), some (.int i1), some (.int i2), some (.int ((S (b + 8) i2.toNatClampNeg) - (S (b + 2) i1.toNatClampNeg)))]) (st' := [.int i1, .ref (b + 3), .int (-(S (b + 3) i1.toNatClampNeg)), .int (S (b + 2) i1.toNatClampNeg), .int i1, .ref (b + 2)]) rfl rfl ?_
    refine hp_al (pc' := 43) rfl (hp_bl hb 3 (by decide)) (hp_b3 hb X _) rfl ?_
    refine hp_sN [44] (pc' := 44) (L' := [some (.ref b), some (.int i1), some (.int i2), some (.int ((S (b + 8) i2.toNatClampNeg) - (S (b + 2) i1.toNatClampNeg)))]) (st' := [.int ((S (b + 8) i2.toNatClampNeg) - (S (b + 2) i1.toNatClampNeg)), .int (S (b + 3) i1.toNatClampNeg), .int (-(S (b + 3) i1.toNatClampNeg)), .int (S (b + 2) i1.toNatClampNeg), .int i1, .ref (b + 2)]) rfl rfl ?_
    refine hp_iv (virt := false) (pc' := 47) (rv := some (.int (hq_220 S (S (b + 3) i1.toNatClampNeg) ((S (b + 8) i2.toNatClampNeg) - (S (b + 2) i1.toNatClampNeg))))) (M1 := hp_mem X (S)) rfl rfl (by decide) (hk_220 S ((S (b + 3) i1.toNatClampNeg)) (((S (b + 8) i2.toNatClampNeg) - (S (b + 2) i1.toNatClampNeg)))) rfl rfl ?_
    show hp_T _ 206 47 _ [.int (hq_220 S (S (b + 3) i1.toNatClampNeg) ((S (b + 8) i2.toNatClampNeg) - (S (b + 2) i1.toNatClampNeg))), .int (-(S (b + 3) i1.toNatClampNeg)), .int (S (b + 2) i1.toNatClampNeg), .int i1, .ref (b + 2)] _ _ _
    refine hp_iv (virt := false) (pc' := 50) (rv := some (.int (hq_219 S (-(S (b + 3) i1.toNatClampNeg)) (hq_220 S (S (b + 3) i1.toNatClampNeg) ((S (b + 8) i2.toNatClampNeg) - (S (b + 2) i1.toNatClampNeg)))))) (M1 := hp_mem X (S)) rfl rfl (by decide) (hk_219 S ((-(S (b + 3) i1.toNatClampNeg))) ((hq_220 S (S (b + 3) i1.toNatClampNeg) ((S (b + 8) i2.toNatClampNeg) - (S (b + 2) i1.toNatClampNeg))))) rfl rfl ?_
    show hp_T _ 206 50 _ [.int (hq_219 S (-(S (b + 3) i1.toNatClampNeg)) (hq_220 S (S (b + 3) i1.toNatClampNeg) ((S (b + 8) i2.toNatClampNeg) - (S (b + 2) i1.toNatClampNeg)))), .int (S (b + 2) i1.toNatClampNeg), .int i1, .ref (b + 2)] _ _ _
    refine hp_sN [51] (pc' := 51) (L' := [some (.ref b), some (.int i1), some (.int i2), some (.int ((S (b + 8) i2.toNatClampNeg) - (S (b + 2) i1.toNatClampNeg)))]) (st' := [.int ((S (b + 2) i1.toNatClampNeg) + (hq_219 S (-(S (b + 3) i1.toNatClampNeg)) (hq_220 S (S (b + 3) i1.toNatClampNeg) ((S (b + 8) i2.toNatClampNeg) - (S (b + 2) i1.toNatClampNeg))))), .int i1, .ref (b + 2)]) rfl rfl ?_
    refine hp_as (pc' := 52) rfl (hp_bl hb 2 (by decide)) (fun _ => (hp_b2 hb X _)) rfl ?_
    refine hp_sN [53] (pc' := 53) (L' := [some (.ref b), some (.int i1), some (.int i2), some (.int ((S (b + 8) i2.toNatClampNeg) - (S (b + 2) i1.toNatClampNeg)))]) (st' := [.ref b]) rfl rfl ?_
    refine hp_gf (pc' := 56) rfl (hp_bl hb 0 (by decide)) (hp_b0 hb X _) rfl rfl ?_
    refine hp_sN [57] (pc' := 57) (L' := [some (.ref b), some (.int i1), some (.int i2), some (.int ((S (b + 8) i2.toNatClampNeg) - (S (b + 2) i1.toNatClampNeg)))]) (st' := [.int i1, .ref (b + 2)]) rfl rfl ?_
    refine hp_al (pc' := 58) rfl (hp_bl hb 2 (by decide)) (hp_b2 hb X _) rfl ?_
    refine hp_sN [59] (pc' := 59) (L' := [some (.ref b), some (.int i1), some (.int i2), some (.int ((S (b + 8) i2.toNatClampNeg) - (S (b + 2) i1.toNatClampNeg)))]) (st' := [.ref b, .int (hp_w S (b + 2) i1.toNatClampNeg ((S (b + 2) i1.toNatClampNeg) + (hq_219 S (-(S (b + 3) i1.toNatClampNeg)) (hq_220 S (S (b + 3) i1.toNatClampNeg) ((S (b + 8) i2.toNatClampNeg) - (S (b + 2) i1.toNatClampNeg))))) (b + 2) i1.toNatClampNeg)]) rfl rfl ?_
    refine hp_gf (pc' := 62) rfl (hp_bl hb 0 (by decide)) (hp_b0 hb X _) rfl rfl ?_
    refine hp_sN [63] (pc' := 63) (L' := [some (.ref b), some (.int i1), some (.int i2), some (.int ((S (b + 8) i2.toNatClampNeg) - (S (b + 2) i1.toNatClampNeg)))]) (st' := [.int i2, .ref (b + 8), .int (hp_w S (b + 2) i1.toNatClampNeg ((S (b + 2) i1.toNatClampNeg) + (hq_219 S (-(S (b + 3) i1.toNatClampNeg)) (hq_220 S (S (b + 3) i1.toNatClampNeg) ((S (b + 8) i2.toNatClampNeg) - (S (b + 2) i1.toNatClampNeg))))) (b + 2) i1.toNatClampNeg)]) rfl rfl ?_
    refine hp_al (pc' := 64) rfl (hp_bl hb 8 (by decide)) (hp_b8 hb X _) rfl ?_
    refine hp_ic (pc' := 67) rfl rfl (fun h2 => ?_) (fun h2 => ?_)
    · exact hp_Rv rfl
    · refine hp_sN [68] (pc' := 68) (L' := [some (.ref b), some (.int i1), some (.int i2), some (.int ((S (b + 8) i2.toNatClampNeg) - (S (b + 2) i1.toNatClampNeg)))]) (st' := [.ref b]) rfl rfl ?_
      refine hp_gf (pc' := 71) rfl (hp_bl hb 0 (by decide)) (hp_b0 hb X _) rfl rfl ?_
      refine hp_sN [72, 73] (pc' := 73) (L' := [some (.ref b), some (.int i1), some (.int i2), some (.int ((S (b + 8) i2.toNatClampNeg) - (S (b + 2) i1.toNatClampNeg)))]) (st' := [.int i1, .int i2, .ref (b + 7)]) rfl rfl ?_
      refine hp_as (pc' := 74) rfl (hp_bl hb 7 (by decide)) (fun _ => (hp_b7 hb X _)) rfl ?_
      exact hp_Rv rfl
  · exact hp_Rv rfl
theorem hk_206 {X : hp_X} {b : Nat} (hb : hp_b b) (S : hp_S) (i1 : Int32) (i2 : Int32) : hp_K 206 [.ref b, .int i1, .int i2] (hp_mem X S) (hp_v X) (hq_206 S b i1 i2) := by
  refine hp_mk (q := hzq_206) rfl (by decide) (L := [some (.ref b), some (.int i1), some (.int i2), none]) rfl (fun n => ?_)
  exact ht_206 hb S i1 i2 n
/-! 202: HatsOfTheWind$Street.passClock()V -/
def hq_202 (S : hp_S) (b : Nat) : hp_S := (if hz_cmp .lt (hp_w S b 2 ((S b 2) + (Int32.ofInt 1)) b 2) (Int32.ofInt 24) = true then hp_w S b 2 ((S b 2) + (Int32.ofInt 1)) else hp_w (hp_w (hp_w S b 2 ((S b 2) + (Int32.ofInt 1))) b 2 (Int32.ofInt 0)) b 3 ((hp_w (hp_w S b 2 ((S b 2) + (Int32.ofInt 1))) b 2 (Int32.ofInt 0) b 3) + (Int32.ofInt 1)))
theorem hf_202 {b : Nat} (S : hp_S) (j : Nat) (z0 : j ≠ b) : (hq_202 S b) j = S j := by
  unfold hq_202
  repeat' split
  all_goals simp [hp_wo, hp_wgo, hp_cpo, z0]
set_option maxRecDepth 10000 in
theorem ht_202 {X : hp_X} {b : Nat} (hb : hp_b b) (S : hp_S) (n : Nat) : hp_T n 202 0 [some (.ref b)] [] (hp_mem X S) (hp_v X) (hq_202 S b) := by
  unfold hq_202
  refine hp_sN [1, 2] (pc' := 2) (L' := [some (.ref b)]) (st' := [.ref b, .ref b]) rfl rfl ?_
  refine hp_gf (pc' := 5) rfl (hp_bl hb 0 (by decide)) (hp_b0 hb X _) rfl rfl ?_
  refine hp_sN [6, 7] (pc' := 7) (L' := [some (.ref b)]) (st' := [.int ((S b 2) + (Int32.ofInt 1)), .ref b]) rfl rfl ?_
  refine hp_pf (pc' := 10) rfl (hp_bl hb 0 (by decide)) (hp_b0 hb X _) (hp_wb hb X _ _ _ (by decide)) rfl ?_
  refine hp_sN [11] (pc' := 11) (L' := [some (.ref b)]) (st' := [.ref b]) rfl rfl ?_
  refine hp_gf (pc' := 14) rfl (hp_bl hb 0 (by decide)) (hp_b0 hb X _) rfl rfl ?_
  refine hp_sN [16] (pc' := 16) (L' := [some (.ref b)]) (st' := [.int (Int32.ofInt 24), .int (hp_w S b 2 ((S b 2) + (Int32.ofInt 1)) b 2)]) rfl rfl ?_
  refine hp_ic (pc' := 19) rfl rfl (fun h1 => ?_) (fun h1 => ?_)
  · exact hp_Rv rfl
  · refine hp_sN [20, 21] (pc' := 21) (L' := [some (.ref b)]) (st' := [.int (Int32.ofInt 0), .ref b]) rfl rfl ?_
    refine hp_pf (pc' := 24) rfl (hp_bl hb 0 (by decide)) (hp_b0 hb X _) (hp_wb hb X _ _ _ (by decide)) rfl ?_
    refine hp_sN [25, 26] (pc' := 26) (L' := [some (.ref b)]) (st' := [.ref b, .ref b]) rfl rfl ?_
    refine hp_gf (pc' := 29) rfl (hp_bl hb 0 (by decide)) (hp_b0 hb X _) rfl rfl ?_
    refine hp_sN [30, 31] (pc' := 31) (L' := [some (.ref b)]) (st' := [.int ((hp_w (hp_w S b 2 ((S b 2) + (Int32.ofInt 1))) b 2 (Int32.ofInt 0) b 3) + (Int32.ofInt 1)), .ref b]) rfl rfl ?_
    refine hp_pf (pc' := 34) rfl (hp_bl hb 0 (by decide)) (hp_b0 hb X _) (hp_wb hb X _ _ _ (by decide)) rfl ?_
    exact hp_Rv rfl
theorem hk_202 {X : hp_X} {b : Nat} (hb : hp_b b) (S : hp_S) : hp_K 202 [.ref b] (hp_mem X S) (hp_v X) (hq_202 S b) := by
  refine hp_mk (q := hzq_202) rfl (by decide) (L := [some (.ref b)]) rfl (fun n => ?_)
  exact ht_202 hb S n
/-! 201: HatsOfTheWind$Street.passHour()V -/
def hq_201_2 (b : Nat) : Nat → hp_S → Int32 → hp_S
  | 0, S, _ => S
  | m + 1, S, v1 => (if hz_cmp .ge v1 (S b 8) = true then S else hq_201_2 b m (hq_204 S b v1) (v1 + (Int32.ofInt 1)))
def hq_201_23 (b : Nat) : Nat → hp_S → Int32 → hp_S
  | 0, S, _ => S
  | m + 1, S, v1 => (if hz_cmp .ge v1 (S b 8) = true then S else (if hz_cmp .eq (hq_184 S b v1) 0 = true then hq_201_23 b m S (v1 + (Int32.ofInt 1)) else hq_201_23 b m (hp_w S (b + 8) v1.toNatClampNeg (hq_205 S b v1 (S (b + 8) v1.toNatClampNeg))) (v1 + (Int32.ofInt 1))))
def hq_201_64 (b : Nat) : Nat → hp_S → Int32 → hp_S
  | 0, S, _ => S
  | m + 1, S, v1 => (if hz_cmp .ge v1 (S b 4) = true then S else (if hz_cmp .eq (hq_188 S b v1) 0 = true then hq_201_64 b m S (v1 + (Int32.ofInt 1)) else hq_201_64 b m (hq_206 S b v1 (hq_207 S b (S (b + 2) v1.toNatClampNeg))) (v1 + (Int32.ofInt 1))))
def hq_201_101 (b : Nat) (S : hp_S) : hp_S := hq_202 S b
def hq_201_62 (b : Nat) (S : hp_S) : hp_S := (hq_201_101 b ((hq_201_64 b (((S b 4).toInt - (Int32.ofInt 0).toInt).toNat + 1) S ((Int32.ofInt 0)))) )
def hq_201_21 (b : Nat) (S : hp_S) : hp_S := (hq_201_62 b ((hq_201_23 b (((S b 8).toInt - (Int32.ofInt 0).toInt).toNat + 1) S ((Int32.ofInt 0)))) )
def hq_201 (S : hp_S) (b : Nat) : hp_S := (hq_201_21 b ((hq_201_2 b (((S b 8).toInt - (Int32.ofInt 0).toInt).toNat + 1) S ((Int32.ofInt 0)))) )
theorem hf_201_2 {b : Nat} (j : Nat) (z0 : j ≠ (b + 7)) (z1 : j ≠ (b + 8)) (z2 : j ≠ (b + 2)) (z3 : j ≠ b) : ∀ (m : Nat) (S : hp_S) (v1 : Int32), (hq_201_2 b m S v1) j = S j := by
  intro m
  induction m with
  | zero => intros; rfl
  | succ m ih =>
    intro S v1
    rw [hq_201_2]
    repeat' split
    all_goals simp [ih, hp_wo, hp_wgo, hp_cpo, hf_202, hf_204, hf_206, z0, z1, z2, z3]
theorem hf_201_23 {b : Nat} (j : Nat) (z0 : j ≠ (b + 7)) (z1 : j ≠ (b + 8)) (z2 : j ≠ (b + 2)) (z3 : j ≠ b) : ∀ (m : Nat) (S : hp_S) (v1 : Int32), (hq_201_23 b m S v1) j = S j := by
  intro m
  induction m with
  | zero => intros; rfl
  | succ m ih =>
    intro S v1
    rw [hq_201_23]
    repeat' split
    all_goals simp [ih, hp_wo, hp_wgo, hp_cpo, hf_202, hf_204, hf_206, z0, z1, z2, z3, hf_201_2]
theorem hf_201_64 {b : Nat} (j : Nat) (z0 : j ≠ (b + 7)) (z1 : j ≠ (b + 8)) (z2 : j ≠ (b + 2)) (z3 : j ≠ b) : ∀ (m : Nat) (S : hp_S) (v1 : Int32), (hq_201_64 b m S v1) j = S j := by
  intro m
  induction m with
  | zero => intros; rfl
  | succ m ih =>
    intro S v1
    rw [hq_201_64]
    repeat' split
    all_goals simp [ih, hp_wo, hp_wgo, hp_cpo, hf_202, hf_204, hf_206, z0, z1, z2, z3, hf_201_2, hf_201_23]
theorem hf_201_101 {b : Nat} (S : hp_S) (j : Nat) (z0 : j ≠ (b + 7)) (z1 : j ≠ (b + 8)) (z2 : j ≠ (b + 2)) (z3 : j ≠ b) : (hq_201_101 b S) j = S j := by
  unfold hq_201_101
  repeat' split
  all_goals simp [hp_wo, hp_wgo, hp_cpo, hf_202, hf_204, hf_206, z0, z1, z2, z3, hf_201_2, hf_201_23, hf_201_64]
theorem hf_201_62 {b : Nat} (S : hp_S) (j : Nat) (z0 : j ≠ (b + 7)) (z1 : j ≠ (b + 8)) (z2 : j ≠ (b + 2)) (z3 : j ≠ b) : (hq_201_62 b S) j = S j := by
  unfold hq_201_62
  repeat' split
  all_goals simp [hp_wo, hp_wgo, hp_cpo, hf_202, hf_204, hf_206, z0, z1, z2, z3, hf_201_2, hf_201_23, hf_201_64, hf_201_101]
theorem hf_201_21 {b : Nat} (S : hp_S) (j : Nat) (z0 : j ≠ (b + 7)) (z1 : j ≠ (b + 8)) (z2 : j ≠ (b + 2)) (z3 : j ≠ b) : (hq_201_21 b S) j = S j := by
  unfold hq_201_21
  repeat' split
  all_goals simp [hp_wo, hp_wgo, hp_cpo, hf_202, hf_204, hf_206, z0, z1, z2, z3, hf_201_2, hf_201_23, hf_201_64, hf_201_101, hf_201_62]
theorem hf_201 {b : Nat} (S : hp_S) (j : Nat) (z0 : j ≠ (b + 7)) (z1 : j ≠ (b + 8)) (z2 : j ≠ (b + 2)) (z3 : j ≠ b) : (hq_201 S b) j = S j := by
  unfold hq_201
  repeat' split
  all_goals simp [hp_wo, hp_wgo, hp_cpo, hf_202, hf_204, hf_206, z0, z1, z2, z3, hf_201_2, hf_201_23, hf_201_64, hf_201_101, hf_201_62, hf_201_21]
set_option maxRecDepth 10000 in
theorem ht_201_2 {α : Type} {φ : α → Option Value × hzMem} {R : α} {X : hp_X} (N : Nat) {b : Nat} (hb : hp_b b) : ∀ (n : Nat), n ≤ N → ∀ (m : Nat) (S : hp_S) (v1 : Int32) (Z : hp_S), ((S b 8).toInt - v1.toInt).toNat < m → hq_201_2 b m S v1 = Z → (∀ (x1 : Option Value), hp_T N 201 21 [some (.ref b), x1] [] (hp_mem X Z) φ R) → hp_T n 201 2 [some (.ref b), some (.int v1)] [] (hp_mem X S) φ R := by
  intro n
  induction n with
  | zero => intros; exact hp_0
  | succ n ih =>
    intro hN m S v1 Z hm hZ kk
    cases m with
    | zero => exact absurd hm (Nat.not_lt_zero _)
    | succ m =>
      rw [hq_201_2] at hZ
      refine hp_sN [3, 4] (pc' := 4) (L' := [some (.ref b), some (.int v1)]) (st' := [.ref b, .int v1]) rfl rfl ?_
      refine hp_gf (pc' := 7) rfl (hp_bl hb 0 (by decide)) (hp_b0 hb X _) rfl rfl ?_
      refine hp_ic2 (pc' := 10) rfl rfl (fun h1 => ?_) (fun h1 => ?_)
      · rw [if_pos h1] at hZ
        subst hZ
        exact hp_le hN (kk (some (.int v1)))
      · rw [if_neg (hp_nt h1)] at hZ
        refine hp_sN [11, 12] (pc' := 12) (L' := [some (.ref b), some (.int v1)]) (st' := [.int v1, .ref b]) rfl rfl ?_
        refine hp_iv (virt := true) (pc' := 15) (rv := none) (M1 := hp_mem X (hq_204 S b v1)) rfl rfl (by decide) (hk_204 hb S (v1)) rfl rfl ?_
        show hp_T _ 201 15 _ [] _ _ _
        refine hp_sB 18 [2] (pc' := 2) (L' := [some (.ref b), some (.int (v1 + (Int32.ofInt 1)))]) (st' := []) rfl rfl ?_
        exact ih (Nat.le_trans (Nat.le_succ n) hN) m (hq_204 S b v1) ((v1 + (Int32.ofInt 1))) Z (by rw [show ((hq_204 S b v1) b 8) = (S b 8) from by simp (disch := omega) [hp_wo, hp_wgo, hp_cpo, hf_204]]; exact (hp_up h1 hm)) hZ kk
set_option maxRecDepth 10000 in
theorem ht_201_23 {α : Type} {φ : α → Option Value × hzMem} {R : α} {X : hp_X} (N : Nat) {b : Nat} (hb : hp_b b) : ∀ (n : Nat), n ≤ N → ∀ (m : Nat) (S : hp_S) (v1 : Int32) (Z : hp_S), ((S b 8).toInt - v1.toInt).toNat < m → hq_201_23 b m S v1 = Z → (∀ (x1 : Option Value), hp_T N 201 62 [some (.ref b), x1] [] (hp_mem X Z) φ R) → hp_T n 201 23 [some (.ref b), some (.int v1)] [] (hp_mem X S) φ R := by
  intro n
  induction n with
  | zero => intros; exact hp_0
  | succ n ih =>
    intro hN m S v1 Z hm hZ kk
    cases m with
    | zero => exact absurd hm (Nat.not_lt_zero _)
    | succ m =>
      rw [hq_201_23] at hZ
      refine hp_sN [24, 25] (pc' := 25) (L' := [some (.ref b), some (.int v1)]) (st' := [.ref b, .int v1]) rfl rfl ?_
      refine hp_gf (pc' := 28) rfl (hp_bl hb 0 (by decide)) (hp_b0 hb X _) rfl rfl ?_
      refine hp_ic2 (pc' := 31) rfl rfl (fun h1 => ?_) (fun h1 => ?_)
      · rw [if_pos h1] at hZ
        subst hZ
        exact hp_le hN (kk (some (.int v1)))
      · rw [if_neg (hp_nt h1)] at hZ
        refine hp_sN [32, 33] (pc' := 33) (L' := [some (.ref b), some (.int v1)]) (st' := [.int v1, .ref b]) rfl rfl ?_
        refine hp_iv (virt := true) (pc' := 36) (rv := some (.int (hq_184 S b v1))) (M1 := hp_mem X (S)) rfl rfl (by decide) (hk_184 hb S (v1)) rfl rfl ?_
        show hp_T _ 201 36 _ [.int (hq_184 S b v1)] _ _ _
        refine hp_if2 (pc' := 39) rfl rfl (fun h2 => ?_) (fun h2 => ?_)
        · rw [if_pos h2] at hZ
          refine hp_sB 59 [23] (pc' := 23) (L' := [some (.ref b), some (.int (v1 + (Int32.ofInt 1)))]) (st' := []) rfl rfl ?_
          exact ih (Nat.le_trans (Nat.le_succ n) hN) m S ((v1 + (Int32.ofInt 1))) Z (hp_up h1 hm) hZ kk
        · rw [if_neg (hp_nt h2)] at hZ
          refine hp_sN [40] (pc' := 40) (L' := [some (.ref b), some (.int v1)]) (st' := [.ref b]) rfl rfl ?_
          refine hp_gf (pc' := 43) rfl (hp_bl hb 0 (by decide)) (hp_b0 hb X _) rfl rfl ?_
          refine hp_sN [44, 45, 46, 47] (pc' := 47) (L' := [some (.ref b), some (.int v1)]) (st' := [.ref b, .int v1, .ref b, .int v1, .ref (b + 8)]) rfl rfl ?_
          refine hp_gf (pc' := 50) rfl (hp_bl hb 0 (by decide)) (hp_b0 hb X _) rfl rfl ?_
          refine hp_sN [51] (pc' := 51) (L' := [some (.ref b), some (.int v1)]) (st' := [.int v1, .ref (b + 8), .int v1, .ref b, .int v1, .ref (b + 8)]) rfl rfl ?_
          refine hp_al (pc' := 52) rfl (hp_bl hb 8 (by decide)) (hp_b8 hb X _) rfl ?_
          refine hp_iv (virt := true) (pc' := 55) (rv := some (.int (hq_205 S b v1 (S (b + 8) v1.toNatClampNeg)))) (M1 := hp_mem X (S)) rfl rfl (by decide) (hk_205 hb S (v1) ((S (b + 8) v1.toNatClampNeg))) rfl rfl ?_
          show hp_T _ 201 55 _ [.int (hq_205 S b v1 (S (b + 8) v1.toNatClampNeg)), .int v1, .ref (b + 8)] _ _ _
          refine hp_as (pc' := 56) rfl (hp_bl hb 8 (by decide)) (fun _ => (hp_b8 hb X _)) rfl ?_
          refine hp_sB 59 [23] (pc' := 23) (L' := [some (.ref b), some (.int (v1 + (Int32.ofInt 1)))]) (st' := []) rfl rfl ?_
          exact ih (Nat.le_trans (Nat.le_succ n) hN) m (hp_w S (b + 8) v1.toNatClampNeg (hq_205 S b v1 (S (b + 8) v1.toNatClampNeg))) ((v1 + (Int32.ofInt 1))) Z (by rw [show ((hp_w S (b + 8) v1.toNatClampNeg (hq_205 S b v1 (S (b + 8) v1.toNatClampNeg))) b 8) = (S b 8) from by simp (disch := omega) [hp_wo, hp_wgo, hp_cpo, hf_204]]; exact (hp_up h1 hm)) hZ kk
set_option maxRecDepth 10000 in
theorem ht_201_64 {α : Type} {φ : α → Option Value × hzMem} {R : α} {X : hp_X} (N : Nat) {b : Nat} (hb : hp_b b) : ∀ (n : Nat), n ≤ N → ∀ (m : Nat) (S : hp_S) (v1 : Int32) (Z : hp_S), ((S b 4).toInt - v1.toInt).toNat < m → hq_201_64 b m S v1 = Z → (∀ (x1 : Option Value), hp_T N 201 101 [some (.ref b), x1] [] (hp_mem X Z) φ R) → hp_T n 201 64 [some (.ref b), some (.int v1)] [] (hp_mem X S) φ R := by
  intro n
  induction n with
  | zero => intros; exact hp_0
  | succ n ih =>
    intro hN m S v1 Z hm hZ kk
    cases m with
    | zero => exact absurd hm (Nat.not_lt_zero _)
    | succ m =>
      rw [hq_201_64] at hZ
      refine hp_sN [65, 66] (pc' := 66) (L' := [some (.ref b), some (.int v1)]) (st' := [.ref b, .int v1]) rfl rfl ?_
      refine hp_gf (pc' := 69) rfl (hp_bl hb 0 (by decide)) (hp_b0 hb X _) rfl rfl ?_
      refine hp_ic2 (pc' := 72) rfl rfl (fun h1 => ?_) (fun h1 => ?_)
      · rw [if_pos h1] at hZ
        subst hZ
        exact hp_le hN (kk (some (.int v1)))
      · rw [if_neg (hp_nt h1)] at hZ
        refine hp_sN [73, 74] (pc' := 74) (L' := [some (.ref b), some (.int v1)]) (st' := [.int v1, .ref b]) rfl rfl ?_
        refine hp_iv (virt := true) (pc' := 77) (rv := some (.int (hq_188 S b v1))) (M1 := hp_mem X (S)) rfl rfl (by decide) (hk_188 hb S (v1)) rfl rfl ?_
        show hp_T _ 201 77 _ [.int (hq_188 S b v1)] _ _ _
        refine hp_if2 (pc' := 80) rfl rfl (fun h2 => ?_) (fun h2 => ?_)
        · rw [if_pos h2] at hZ
          refine hp_sB 98 [64] (pc' := 64) (L' := [some (.ref b), some (.int (v1 + (Int32.ofInt 1)))]) (st' := []) rfl rfl ?_
          exact ih (Nat.le_trans (Nat.le_succ n) hN) m S ((v1 + (Int32.ofInt 1))) Z (hp_up h1 hm) hZ kk
        · rw [if_neg (hp_nt h2)] at hZ
          refine hp_sN [81, 82, 83, 84] (pc' := 84) (L' := [some (.ref b), some (.int v1)]) (st' := [.ref b, .ref b, .int v1, .ref b]) rfl rfl ?_
          refine hp_gf (pc' := 87) rfl (hp_bl hb 0 (by decide)) (hp_b0 hb X _) rfl rfl ?_
          refine hp_sN [88] (pc' := 88) (L' := [some (.ref b), some (.int v1)]) (st' := [.int v1, .ref (b + 2), .ref b, .int v1, .ref b]) rfl rfl ?_
          refine hp_al (pc' := 89) rfl (hp_bl hb 2 (by decide)) (hp_b2 hb X _) rfl ?_
          refine hp_iv (virt := true) (pc' := 92) (rv := some (.int (hq_207 S b (S (b + 2) v1.toNatClampNeg)))) (M1 := hp_mem X (S)) rfl rfl (by decide) (hk_207 hb S ((S (b + 2) v1.toNatClampNeg))) rfl rfl ?_
          show hp_T _ 201 92 _ [.int (hq_207 S b (S (b + 2) v1.toNatClampNeg)), .int v1, .ref b] _ _ _
          refine hp_iv (virt := true) (pc' := 95) (rv := none) (M1 := hp_mem X (hq_206 S b v1 (hq_207 S b (S (b + 2) v1.toNatClampNeg)))) rfl rfl (by decide) (hk_206 hb S (v1) ((hq_207 S b (S (b + 2) v1.toNatClampNeg)))) rfl rfl ?_
          show hp_T _ 201 95 _ [] _ _ _
          refine hp_sB 98 [64] (pc' := 64) (L' := [some (.ref b), some (.int (v1 + (Int32.ofInt 1)))]) (st' := []) rfl rfl ?_
          exact ih (Nat.le_trans (Nat.le_succ n) hN) m (hq_206 S b v1 (hq_207 S b (S (b + 2) v1.toNatClampNeg))) ((v1 + (Int32.ofInt 1))) Z (by rw [show ((hq_206 S b v1 (hq_207 S b (S (b + 2) v1.toNatClampNeg))) b 4) = (S b 4) from by simp (disch := omega) [hp_wo, hp_wgo, hp_cpo, hf_204, hf_206]]; exact (hp_up h1 hm)) hZ kk
set_option maxRecDepth 10000 in
theorem ht_201_101 {X : hp_X} {b : Nat} (hb : hp_b b) (S : hp_S) (x1 : Option Value) (n : Nat) : hp_T n 201 101 [some (.ref b), x1] [] (hp_mem X S) (hp_v X) (hq_201_101 b S) := by
  unfold hq_201_101
  refine hp_sN [102] (pc' := 102) (L' := [some (.ref b), x1]) (st' := [.ref b]) rfl rfl ?_
  refine hp_iv (virt := true) (pc' := 105) (rv := none) (M1 := hp_mem X (hq_202 S b)) rfl rfl (by decide) (hk_202 hb S) rfl rfl ?_
  show hp_T _ 201 105 _ [] _ _ _
  exact hp_Rv rfl
set_option maxRecDepth 10000 in
theorem ht_201_62 {X : hp_X} {b : Nat} (hb : hp_b b) (S : hp_S) (x1 : Option Value) (n : Nat) : hp_T n 201 62 [some (.ref b), x1] [] (hp_mem X S) (hp_v X) (hq_201_62 b S) := by
  unfold hq_201_62
  refine hp_sN [63, 64] (pc' := 64) (L' := [some (.ref b), some (.int (Int32.ofInt 0))]) (st' := []) rfl rfl ?_
  refine ht_201_64 n hb  n (Nat.le_refl _) (((S b 4).toInt - (Int32.ofInt 0).toInt).toNat + 1) S ((Int32.ofInt 0))  _ (Nat.lt_succ_self _) rfl (fun x1_64 => ?_)
  show hp_T _ 201 101 [some (.ref b), x1_64] _ (hp_mem X ((hq_201_64 b (((S b 4).toInt - (Int32.ofInt 0).toInt).toNat + 1) S ((Int32.ofInt 0))))) _ _
  exact ht_201_101 hb ((hq_201_64 b (((S b 4).toInt - (Int32.ofInt 0).toInt).toNat + 1) S ((Int32.ofInt 0))))  (x1_64) n
set_option maxRecDepth 10000 in
theorem ht_201_21 {X : hp_X} {b : Nat} (hb : hp_b b) (S : hp_S) (x1 : Option Value) (n : Nat) : hp_T n 201 21 [some (.ref b), x1] [] (hp_mem X S) (hp_v X) (hq_201_21 b S) := by
  unfold hq_201_21
  refine hp_sN [22, 23] (pc' := 23) (L' := [some (.ref b), some (.int (Int32.ofInt 0))]) (st' := []) rfl rfl ?_
  refine ht_201_23 n hb  n (Nat.le_refl _) (((S b 8).toInt - (Int32.ofInt 0).toInt).toNat + 1) S ((Int32.ofInt 0))  _ (Nat.lt_succ_self _) rfl (fun x1_23 => ?_)
  show hp_T _ 201 62 [some (.ref b), x1_23] _ (hp_mem X ((hq_201_23 b (((S b 8).toInt - (Int32.ofInt 0).toInt).toNat + 1) S ((Int32.ofInt 0))))) _ _
  exact ht_201_62 hb ((hq_201_23 b (((S b 8).toInt - (Int32.ofInt 0).toInt).toNat + 1) S ((Int32.ofInt 0))))  (x1_23) n
set_option maxRecDepth 10000 in
theorem ht_201 {X : hp_X} {b : Nat} (hb : hp_b b) (S : hp_S) (n : Nat) : hp_T n 201 0 [some (.ref b), none] [] (hp_mem X S) (hp_v X) (hq_201 S b) := by
  unfold hq_201
  refine hp_sN [1, 2] (pc' := 2) (L' := [some (.ref b), some (.int (Int32.ofInt 0))]) (st' := []) rfl rfl ?_
  refine ht_201_2 n hb  n (Nat.le_refl _) (((S b 8).toInt - (Int32.ofInt 0).toInt).toNat + 1) S ((Int32.ofInt 0))  _ (Nat.lt_succ_self _) rfl (fun x1_2 => ?_)
  show hp_T _ 201 21 [some (.ref b), x1_2] _ (hp_mem X ((hq_201_2 b (((S b 8).toInt - (Int32.ofInt 0).toInt).toNat + 1) S ((Int32.ofInt 0))))) _ _
  exact ht_201_21 hb ((hq_201_2 b (((S b 8).toInt - (Int32.ofInt 0).toInt).toNat + 1) S ((Int32.ofInt 0))))  (x1_2) n
theorem hk_201 {X : hp_X} {b : Nat} (hb : hp_b b) (S : hp_S) : hp_K 201 [.ref b] (hp_mem X S) (hp_v X) (hq_201 S b) := by
  refine hp_mk (q := hzq_201) rfl (by decide) (L := [some (.ref b), none]) rfl (fun n => ?_)
  exact ht_201 hb S n
/-! 189: HatsOfTheWind$Street.bareOnes()I -/
def hq_189_4 (b : Nat) : Nat → hp_S → Int32 → Int32 → Int32
  | 0, S, _, _ => 0
  | m + 1, S, v1, v2 => (if hz_cmp .ge v2 (S b 4) = true then v1 else (if hz_cmp .eq (hq_188 S b v2) 0 = true then hq_189_4 b m S v1 (v2 + (Int32.ofInt 1)) else hq_189_4 b m S (v1 ||| ((Int32.ofInt 1) <<< (v2 &&& 31))) (v2 + (Int32.ofInt 1))))
def hq_189 (S : hp_S) (b : Nat) : Int32 := (hq_189_4 b (((S b 4).toInt - (Int32.ofInt 0).toInt).toNat + 1) S ((Int32.ofInt 0)) ((Int32.ofInt 0)))
set_option maxRecDepth 10000 in
theorem ht_189_4 {α : Type} {φ : α → Option Value × hzMem} {R : α} {X : hp_X} (N : Nat) {b : Nat} (hb : hp_b b) (S : hp_S) : ∀ (n : Nat), n ≤ N → ∀ (m : Nat) (v1 : Int32) (v2 : Int32) (Z : Int32), ((S b 4).toInt - v2.toInt).toNat < m → hq_189_4 b m S v1 v2 = Z → (∀ (x2 : Option Value), hp_T N 189 32 [some (.ref b), some (.int Z), x2] [] (hp_mem X S) φ R) → hp_T n 189 4 [some (.ref b), some (.int v1), some (.int v2)] [] (hp_mem X S) φ R := by
  intro n
  induction n with
  | zero => intros; exact hp_0
  | succ n ih =>
    intro hN m v1 v2 Z hm hZ kk
    cases m with
    | zero => exact absurd hm (Nat.not_lt_zero _)
    | succ m =>
      rw [hq_189_4] at hZ
      refine hp_sN [5, 6] (pc' := 6) (L' := [some (.ref b), some (.int v1), some (.int v2)]) (st' := [.ref b, .int v2]) rfl rfl ?_
      refine hp_gf (pc' := 9) rfl (hp_bl hb 0 (by decide)) (hp_b0 hb X _) rfl rfl ?_
      refine hp_ic2 (pc' := 12) rfl rfl (fun h1 => ?_) (fun h1 => ?_)
      · rw [if_pos h1] at hZ
        subst hZ
        exact hp_le hN (kk (some (.int v2)))
      · rw [if_neg (hp_nt h1)] at hZ
        refine hp_sN [13, 14] (pc' := 14) (L' := [some (.ref b), some (.int v1), some (.int v2)]) (st' := [.int v2, .ref b]) rfl rfl ?_
        refine hp_iv (virt := true) (pc' := 17) (rv := some (.int (hq_188 S b v2))) (M1 := hp_mem X (S)) rfl rfl (by decide) (hk_188 hb S (v2)) rfl rfl ?_
        show hp_T _ 189 17 _ [.int (hq_188 S b v2)] _ _ _
        refine hp_if2 (pc' := 20) rfl rfl (fun h2 => ?_) (fun h2 => ?_)
        · rw [if_pos h2] at hZ
          refine hp_sB 29 [4] (pc' := 4) (L' := [some (.ref b), some (.int v1), some (.int (v2 + (Int32.ofInt 1)))]) (st' := []) rfl rfl ?_
          exact ih (Nat.le_trans (Nat.le_succ n) hN) m (v1) ((v2 + (Int32.ofInt 1))) Z (hp_up h1 hm) hZ kk
        · rw [if_neg (hp_nt h2)] at hZ
          refine hp_sB 21 [22, 23, 24, 25, 26, 29, 4] (pc' := 4) (L' := [some (.ref b), some (.int (v1 ||| ((Int32.ofInt 1) <<< (v2 &&& 31)))), some (.int (v2 + (Int32.ofInt 1)))]) (st' := []) rfl rfl ?_
          exact ih (Nat.le_trans (Nat.le_succ n) hN) m ((v1 ||| ((Int32.ofInt 1) <<< (v2 &&& 31)))) ((v2 + (Int32.ofInt 1))) Z (hp_up h1 hm) hZ kk
set_option maxRecDepth 10000 in
theorem ht_189 {X : hp_X} {b : Nat} (hb : hp_b b) (S : hp_S) (n : Nat) : hp_T n 189 0 [some (.ref b), none, none] [] (hp_mem X S) (hp_i X S) (hq_189 S b) := by
  unfold hq_189
  refine hp_sN [1, 2, 3, 4] (pc' := 4) (L' := [some (.ref b), some (.int (Int32.ofInt 0)), some (.int (Int32.ofInt 0))]) (st' := []) rfl rfl ?_
  refine ht_189_4 n hb S n (Nat.le_refl _) (((S b 4).toInt - (Int32.ofInt 0).toInt).toNat + 1)  ((Int32.ofInt 0)) ((Int32.ofInt 0))  _ (Nat.lt_succ_self _) rfl (fun x2_4 => ?_)
  show hp_T _ 189 32 [some (.ref b), some (.int (hq_189_4 b (((S b 4).toInt - (Int32.ofInt 0).toInt).toNat + 1) S ((Int32.ofInt 0)) ((Int32.ofInt 0)))), x2_4] _ (hp_mem X S) _ _
  refine hp_sN [33] (pc' := 33) (L' := [some (.ref b), some (.int (hq_189_4 b (((S b 4).toInt - (Int32.ofInt 0).toInt).toNat + 1) S ((Int32.ofInt 0)) ((Int32.ofInt 0)))), x2_4]) (st' := [.int (hq_189_4 b (((S b 4).toInt - (Int32.ofInt 0).toInt).toNat + 1) S ((Int32.ofInt 0)) ((Int32.ofInt 0)))]) rfl rfl ?_
  exact hp_Ri rfl
theorem hk_189 {X : hp_X} {b : Nat} (hb : hp_b b) (S : hp_S) : hp_K 189 [.ref b] (hp_mem X S) (hp_i X S) (hq_189 S b) := by
  refine hp_mk (q := hzq_189) rfl (by decide) (L := [some (.ref b), none, none]) rfl (fun n => ?_)
  exact ht_189 hb S n
/-! 216: java/lang/Integer.bitCount(I)I -/
def hq_216 (S : hp_S) (i1 : Int32) : Int32 := ((((((((i1 - ((i1.toUInt32 >>> ((Int32.ofInt 1).toUInt32 &&& Int32.toUInt32 31)).toInt32 &&& (Int32.ofInt 1431655765))) &&& (Int32.ofInt 858993459)) + (((i1 - ((i1.toUInt32 >>> ((Int32.ofInt 1).toUInt32 &&& Int32.toUInt32 31)).toInt32 &&& (Int32.ofInt 1431655765))).toUInt32 >>> ((Int32.ofInt 2).toUInt32 &&& Int32.toUInt32 31)).toInt32 &&& (Int32.ofInt 858993459))) + ((((i1 - ((i1.toUInt32 >>> ((Int32.ofInt 1).toUInt32 &&& Int32.toUInt32 31)).toInt32 &&& (Int32.ofInt 1431655765))) &&& (Int32.ofInt 858993459)) + (((i1 - ((i1.toUInt32 >>> ((Int32.ofInt 1).toUInt32 &&& Int32.toUInt32 31)).toInt32 &&& (Int32.ofInt 1431655765))).toUInt32 >>> ((Int32.ofInt 2).toUInt32 &&& Int32.toUInt32 31)).toInt32 &&& (Int32.ofInt 858993459))).toUInt32 >>> ((Int32.ofInt 4).toUInt32 &&& Int32.toUInt32 31)).toInt32) &&& (Int32.ofInt 252645135)) + ((((((i1 - ((i1.toUInt32 >>> ((Int32.ofInt 1).toUInt32 &&& Int32.toUInt32 31)).toInt32 &&& (Int32.ofInt 1431655765))) &&& (Int32.ofInt 858993459)) + (((i1 - ((i1.toUInt32 >>> ((Int32.ofInt 1).toUInt32 &&& Int32.toUInt32 31)).toInt32 &&& (Int32.ofInt 1431655765))).toUInt32 >>> ((Int32.ofInt 2).toUInt32 &&& Int32.toUInt32 31)).toInt32 &&& (Int32.ofInt 858993459))) + ((((i1 - ((i1.toUInt32 >>> ((Int32.ofInt 1).toUInt32 &&& Int32.toUInt32 31)).toInt32 &&& (Int32.ofInt 1431655765))) &&& (Int32.ofInt 858993459)) + (((i1 - ((i1.toUInt32 >>> ((Int32.ofInt 1).toUInt32 &&& Int32.toUInt32 31)).toInt32 &&& (Int32.ofInt 1431655765))).toUInt32 >>> ((Int32.ofInt 2).toUInt32 &&& Int32.toUInt32 31)).toInt32 &&& (Int32.ofInt 858993459))).toUInt32 >>> ((Int32.ofInt 4).toUInt32 &&& Int32.toUInt32 31)).toInt32) &&& (Int32.ofInt 252645135)).toUInt32 >>> ((Int32.ofInt 8).toUInt32 &&& Int32.toUInt32 31)).toInt32) + (((((((i1 - ((i1.toUInt32 >>> ((Int32.ofInt 1).toUInt32 &&& Int32.toUInt32 31)).toInt32 &&& (Int32.ofInt 1431655765))) &&& (Int32.ofInt 858993459)) + (((i1 - ((i1.toUInt32 >>> ((Int32.ofInt 1).toUInt32 &&& Int32.toUInt32 31)).toInt32 &&& (Int32.ofInt 1431655765))).toUInt32 >>> ((Int32.ofInt 2).toUInt32 &&& Int32.toUInt32 31)).toInt32 &&& (Int32.ofInt 858993459))) + ((((i1 - ((i1.toUInt32 >>> ((Int32.ofInt 1).toUInt32 &&& Int32.toUInt32 31)).toInt32 &&& (Int32.ofInt 1431655765))) &&& (Int32.ofInt 858993459)) + (((i1 - ((i1.toUInt32 >>> ((Int32.ofInt 1).toUInt32 &&& Int32.toUInt32 31)).toInt32 &&& (Int32.ofInt 1431655765))).toUInt32 >>> ((Int32.ofInt 2).toUInt32 &&& Int32.toUInt32 31)).toInt32 &&& (Int32.ofInt 858993459))).toUInt32 >>> ((Int32.ofInt 4).toUInt32 &&& Int32.toUInt32 31)).toInt32) &&& (Int32.ofInt 252645135)) + ((((((i1 - ((i1.toUInt32 >>> ((Int32.ofInt 1).toUInt32 &&& Int32.toUInt32 31)).toInt32 &&& (Int32.ofInt 1431655765))) &&& (Int32.ofInt 858993459)) + (((i1 - ((i1.toUInt32 >>> ((Int32.ofInt 1).toUInt32 &&& Int32.toUInt32 31)).toInt32 &&& (Int32.ofInt 1431655765))).toUInt32 >>> ((Int32.ofInt 2).toUInt32 &&& Int32.toUInt32 31)).toInt32 &&& (Int32.ofInt 858993459))) + ((((i1 - ((i1.toUInt32 >>> ((Int32.ofInt 1).toUInt32 &&& Int32.toUInt32 31)).toInt32 &&& (Int32.ofInt 1431655765))) &&& (Int32.ofInt 858993459)) + (((i1 - ((i1.toUInt32 >>> ((Int32.ofInt 1).toUInt32 &&& Int32.toUInt32 31)).toInt32 &&& (Int32.ofInt 1431655765))).toUInt32 >>> ((Int32.ofInt 2).toUInt32 &&& Int32.toUInt32 31)).toInt32 &&& (Int32.ofInt 858993459))).toUInt32 >>> ((Int32.ofInt 4).toUInt32 &&& Int32.toUInt32 31)).toInt32) &&& (Int32.ofInt 252645135)).toUInt32 >>> ((Int32.ofInt 8).toUInt32 &&& Int32.toUInt32 31)).toInt32).toUInt32 >>> ((Int32.ofInt 16).toUInt32 &&& Int32.toUInt32 31)).toInt32) &&& (Int32.ofInt 63))
set_option maxRecDepth 10000 in
theorem ht_216 {X : hp_X} (S : hp_S) (i1 : Int32) (n : Nat) : hp_T n 216 0 [some (.int i1)] [] (hp_mem X S) (hp_i X S) (hq_216 S i1) := by
  unfold hq_216
  refine hp_sN [1, 2, 3, 4, 7, 8, 9, 10, 11, 14, 15, 16, 17, 18, 21, 22, 23, 24, 25, 26, 27, 28, 29, 32, 33, 34, 35, 36, 38, 39, 40, 41, 42, 43, 45, 46, 47, 48, 49, 51, 52] (pc' := 52) (L' := [some (.int (((((((i1 - ((i1.toUInt32 >>> ((Int32.ofInt 1).toUInt32 &&& Int32.toUInt32 31)).toInt32 &&& (Int32.ofInt 1431655765))) &&& (Int32.ofInt 858993459)) + (((i1 - ((i1.toUInt32 >>> ((Int32.ofInt 1).toUInt32 &&& Int32.toUInt32 31)).toInt32 &&& (Int32.ofInt 1431655765))).toUInt32 >>> ((Int32.ofInt 2).toUInt32 &&& Int32.toUInt32 31)).toInt32 &&& (Int32.ofInt 858993459))) + ((((i1 - ((i1.toUInt32 >>> ((Int32.ofInt 1).toUInt32 &&& Int32.toUInt32 31)).toInt32 &&& (Int32.ofInt 1431655765))) &&& (Int32.ofInt 858993459)) + (((i1 - ((i1.toUInt32 >>> ((Int32.ofInt 1).toUInt32 &&& Int32.toUInt32 31)).toInt32 &&& (Int32.ofInt 1431655765))).toUInt32 >>> ((Int32.ofInt 2).toUInt32 &&& Int32.toUInt32 31)).toInt32 &&& (Int32.ofInt 858993459))).toUInt32 >>> ((Int32.ofInt 4).toUInt32 &&& Int32.toUInt32 31)).toInt32) &&& (Int32.ofInt 252645135)) + ((((((i1 - ((i1.toUInt32 >>> ((Int32.ofInt 1).toUInt32 &&& Int32.toUInt32 31)).toInt32 &&& (Int32.ofInt 1431655765))) &&& (Int32.ofInt 858993459)) + (((i1 - ((i1.toUInt32 >>> ((Int32.ofInt 1).toUInt32 &&& Int32.toUInt32 31)).toInt32 &&& (Int32.ofInt 1431655765))).toUInt32 >>> ((Int32.ofInt 2).toUInt32 &&& Int32.toUInt32 31)).toInt32 &&& (Int32.ofInt 858993459))) + ((((i1 - ((i1.toUInt32 >>> ((Int32.ofInt 1).toUInt32 &&& Int32.toUInt32 31)).toInt32 &&& (Int32.ofInt 1431655765))) &&& (Int32.ofInt 858993459)) + (((i1 - ((i1.toUInt32 >>> ((Int32.ofInt 1).toUInt32 &&& Int32.toUInt32 31)).toInt32 &&& (Int32.ofInt 1431655765))).toUInt32 >>> ((Int32.ofInt 2).toUInt32 &&& Int32.toUInt32 31)).toInt32 &&& (Int32.ofInt 858993459))).toUInt32 >>> ((Int32.ofInt 4).toUInt32 &&& Int32.toUInt32 31)).toInt32) &&& (Int32.ofInt 252645135)).toUInt32 >>> ((Int32.ofInt 8).toUInt32 &&& Int32.toUInt32 31)).toInt32) + (((((((i1 - ((i1.toUInt32 >>> ((Int32.ofInt 1).toUInt32 &&& Int32.toUInt32 31)).toInt32 &&& (Int32.ofInt 1431655765))) &&& (Int32.ofInt 858993459)) + (((i1 - ((i1.toUInt32 >>> ((Int32.ofInt 1).toUInt32 &&& Int32.toUInt32 31)).toInt32 &&& (Int32.ofInt 1431655765))).toUInt32 >>> ((Int32.ofInt 2).toUInt32 &&& Int32.toUInt32 31)).toInt32 &&& (Int32.ofInt 858993459))) + ((((i1 - ((i1.toUInt32 >>> ((Int32.ofInt 1).toUInt32 &&& Int32.toUInt32 31)).toInt32 &&& (Int32.ofInt 1431655765))) &&& (Int32.ofInt 858993459)) + (((i1 - ((i1.toUInt32 >>> ((Int32.ofInt 1).toUInt32 &&& Int32.toUInt32 31)).toInt32 &&& (Int32.ofInt 1431655765))).toUInt32 >>> ((Int32.ofInt 2).toUInt32 &&& Int32.toUInt32 31)).toInt32 &&& (Int32.ofInt 858993459))).toUInt32 >>> ((Int32.ofInt 4).toUInt32 &&& Int32.toUInt32 31)).toInt32) &&& (Int32.ofInt 252645135)) + ((((((i1 - ((i1.toUInt32 >>> ((Int32.ofInt 1).toUInt32 &&& Int32.toUInt32 31)).toInt32 &&& (Int32.ofInt 1431655765))) &&& (Int32.ofInt 858993459)) + (((i1 - ((i1.toUInt32 >>> ((Int32.ofInt 1).toUInt32 &&& Int32.toUInt32 31)).toInt32 &&& (Int32.ofInt 1431655765))).toUInt32 >>> ((Int32.ofInt 2).toUInt32 &&& Int32.toUInt32 31)).toInt32 &&& (Int32.ofInt 858993459))) + ((((i1 - ((i1.toUInt32 >>> ((Int32.ofInt 1).toUInt32 &&& Int32.toUInt32 31)).toInt32 &&& (Int32.ofInt 1431655765))) &&& (Int32.ofInt 858993459)) + (((i1 - ((i1.toUInt32 >>> ((Int32.ofInt 1).toUInt32 &&& Int32.toUInt32 31)).toInt32 &&& (Int32.ofInt 1431655765))).toUInt32 >>> ((Int32.ofInt 2).toUInt32 &&& Int32.toUInt32 31)).toInt32 &&& (Int32.ofInt 858993459))).toUInt32 >>> ((Int32.ofInt 4).toUInt32 &&& Int32.toUInt32 31)).toInt32) &&& (Int32.ofInt 252645135)).toUInt32 >>> ((Int32.ofInt 8).toUInt32 &&& Int32.toUInt32 31)).toInt32).toUInt32 >>> ((Int32.ofInt 16).toUInt32 &&& Int32.toUInt32 31)).toInt32))]) (st' := [.int ((((((((i1 - ((i1.toUInt32 >>> ((Int32.ofInt 1).toUInt32 &&& Int32.toUInt32 31)).toInt32 &&& (Int32.ofInt 1431655765))) &&& (Int32.ofInt 858993459)) + (((i1 - ((i1.toUInt32 >>> ((Int32.ofInt 1).toUInt32 &&& Int32.toUInt32 31)).toInt32 &&& (Int32.ofInt 1431655765))).toUInt32 >>> ((Int32.ofInt 2).toUInt32 &&& Int32.toUInt32 31)).toInt32 &&& (Int32.ofInt 858993459))) + ((((i1 - ((i1.toUInt32 >>> ((Int32.ofInt 1).toUInt32 &&& Int32.toUInt32 31)).toInt32 &&& (Int32.ofInt 1431655765))) &&& (Int32.ofInt 858993459)) + (((i1 - ((i1.toUInt32 >>> ((Int32.ofInt 1).toUInt32 &&& Int32.toUInt32 31)).toInt32 &&& (Int32.ofInt 1431655765))).toUInt32 >>> ((Int32.ofInt 2).toUInt32 &&& Int32.toUInt32 31)).toInt32 &&& (Int32.ofInt 858993459))).toUInt32 >>> ((Int32.ofInt 4).toUInt32 &&& Int32.toUInt32 31)).toInt32) &&& (Int32.ofInt 252645135)) + ((((((i1 - ((i1.toUInt32 >>> ((Int32.ofInt 1).toUInt32 &&& Int32.toUInt32 31)).toInt32 &&& (Int32.ofInt 1431655765))) &&& (Int32.ofInt 858993459)) + (((i1 - ((i1.toUInt32 >>> ((Int32.ofInt 1).toUInt32 &&& Int32.toUInt32 31)).toInt32 &&& (Int32.ofInt 1431655765))).toUInt32 >>> ((Int32.ofInt 2).toUInt32 &&& Int32.toUInt32 31)).toInt32 &&& (Int32.ofInt 858993459))) + ((((i1 - ((i1.toUInt32 >>> ((Int32.ofInt 1).toUInt32 &&& Int32.toUInt32 31)).toInt32 &&& (Int32.ofInt 1431655765))) &&& (Int32.ofInt 858993459)) + (((i1 - ((i1.toUInt32 >>> ((Int32.ofInt 1).toUInt32 &&& Int32.toUInt32 31)).toInt32 &&& (Int32.ofInt 1431655765))).toUInt32 >>> ((Int32.ofInt 2).toUInt32 &&& Int32.toUInt32 31)).toInt32 &&& (Int32.ofInt 858993459))).toUInt32 >>> ((Int32.ofInt 4).toUInt32 &&& Int32.toUInt32 31)).toInt32) &&& (Int32.ofInt 252645135)).toUInt32 >>> ((Int32.ofInt 8).toUInt32 &&& Int32.toUInt32 31)).toInt32) + (((((((i1 - ((i1.toUInt32 >>> ((Int32.ofInt 1).toUInt32 &&& Int32.toUInt32 31)).toInt32 &&& (Int32.ofInt 1431655765))) &&& (Int32.ofInt 858993459)) + (((i1 - ((i1.toUInt32 >>> ((Int32.ofInt 1).toUInt32 &&& Int32.toUInt32 31)).toInt32 &&& (Int32.ofInt 1431655765))).toUInt32 >>> ((Int32.ofInt 2).toUInt32 &&& Int32.toUInt32 31)).toInt32 &&& (Int32.ofInt 858993459))) + ((((i1 - ((i1.toUInt32 >>> ((Int32.ofInt 1).toUInt32 &&& Int32.toUInt32 31)).toInt32 &&& (Int32.ofInt 1431655765))) &&& (Int32.ofInt 858993459)) + (((i1 - ((i1.toUInt32 >>> ((Int32.ofInt 1).toUInt32 &&& Int32.toUInt32 31)).toInt32 &&& (Int32.ofInt 1431655765))).toUInt32 >>> ((Int32.ofInt 2).toUInt32 &&& Int32.toUInt32 31)).toInt32 &&& (Int32.ofInt 858993459))).toUInt32 >>> ((Int32.ofInt 4).toUInt32 &&& Int32.toUInt32 31)).toInt32) &&& (Int32.ofInt 252645135)) + ((((((i1 - ((i1.toUInt32 >>> ((Int32.ofInt 1).toUInt32 &&& Int32.toUInt32 31)).toInt32 &&& (Int32.ofInt 1431655765))) &&& (Int32.ofInt 858993459)) + (((i1 - ((i1.toUInt32 >>> ((Int32.ofInt 1).toUInt32 &&& Int32.toUInt32 31)).toInt32 &&& (Int32.ofInt 1431655765))).toUInt32 >>> ((Int32.ofInt 2).toUInt32 &&& Int32.toUInt32 31)).toInt32 &&& (Int32.ofInt 858993459))) + ((((i1 - ((i1.toUInt32 >>> ((Int32.ofInt 1).toUInt32 &&& Int32.toUInt32 31)).toInt32 &&& (Int32.ofInt 1431655765))) &&& (Int32.ofInt 858993459)) + (((i1 - ((i1.toUInt32 >>> ((Int32.ofInt 1).toUInt32 &&& Int32.toUInt32 31)).toInt32 &&& (Int32.ofInt 1431655765))).toUInt32 >>> ((Int32.ofInt 2).toUInt32 &&& Int32.toUInt32 31)).toInt32 &&& (Int32.ofInt 858993459))).toUInt32 >>> ((Int32.ofInt 4).toUInt32 &&& Int32.toUInt32 31)).toInt32) &&& (Int32.ofInt 252645135)).toUInt32 >>> ((Int32.ofInt 8).toUInt32 &&& Int32.toUInt32 31)).toInt32).toUInt32 >>> ((Int32.ofInt 16).toUInt32 &&& Int32.toUInt32 31)).toInt32) &&& (Int32.ofInt 63))]) rfl rfl ?_
  exact hp_Ri rfl
theorem hk_216 {X : hp_X} (S : hp_S) (i1 : Int32) : hp_K 216 [.int i1] (hp_mem X S) (hp_i X S) (hq_216 S i1) := by
  refine hp_mk (q := hzq_216) rfl (by decide) (L := [some (.int i1)]) rfl (fun n => ?_)
  exact ht_216 S i1 n
/-! 199: HatsOfTheWind$Street.passToldHours(I)I -/
def hq_199_37 (b : Nat) (i1 : Int32) : Nat → hp_S → Int32 → hp_S
  | 0, S, _ => S
  | m + 1, S, v2 => (if hz_cmp .ge v2 i1 = true then S else hq_199_37 b i1 m (hq_201 S b) (v2 + (Int32.ofInt 1)))
def hq_199 (S : hp_S) (b : Nat) (i1 : Int32) : Int32 × hp_S := (if hz_cmp .ne (hq_44 S i1 (Int32.ofInt 1) (Int32.ofInt 60)) 0 = true then (if hz_cmp .le ((S b 3) + (((S b 2) + i1) / (Int32.ofInt 24))) (Int32.ofInt 999) = true then ((hq_216 ((hq_199_37 b i1 ((i1.toInt - (Int32.ofInt 0).toInt).toNat + 1) S ((Int32.ofInt 0)))) (hq_189 ((hq_199_37 b i1 ((i1.toInt - (Int32.ofInt 0).toInt).toNat + 1) S ((Int32.ofInt 0)))) b)), (hq_199_37 b i1 ((i1.toInt - (Int32.ofInt 0).toInt).toNat + 1) S ((Int32.ofInt 0)))) else ((Int32.ofInt (-3)), S)) else ((Int32.ofInt (-1)), S))
theorem hf_199_37 {b : Nat} {i1 : Int32} (j : Nat) (z0 : j ≠ (b + 7)) (z1 : j ≠ (b + 8)) (z2 : j ≠ (b + 2)) (z3 : j ≠ b) : ∀ (m : Nat) (S : hp_S) (v2 : Int32), (hq_199_37 b i1 m S v2) j = S j := by
  intro m
  induction m with
  | zero => intros; rfl
  | succ m ih =>
    intro S v2
    rw [hq_199_37]
    repeat' split
    all_goals simp [ih, hp_wo, hp_wgo, hp_cpo, hf_201, z0, z1, z2, z3]
theorem hf_199 {b : Nat} (S : hp_S) (i1 : Int32) (j : Nat) (z0 : j ≠ (b + 7)) (z1 : j ≠ (b + 8)) (z2 : j ≠ (b + 2)) (z3 : j ≠ b) : (hq_199 S b i1).2 j = S j := by
  unfold hq_199
  repeat' split
  all_goals simp [hp_wo, hp_wgo, hp_cpo, hf_201, z0, z1, z2, z3, hf_199_37]
set_option maxRecDepth 10000 in
theorem ht_199_37 {α : Type} {φ : α → Option Value × hzMem} {R : α} {X : hp_X} (N : Nat) {b : Nat} (hb : hp_b b) (i1 : Int32) : ∀ (n : Nat), n ≤ N → ∀ (m : Nat) (S : hp_S) (v2 : Int32) (Z : hp_S), (i1.toInt - v2.toInt).toNat < m → hq_199_37 b i1 m S v2 = Z → (∀ (x2 : Option Value), hp_T N 199 52 [some (.ref b), some (.int i1), x2] [] (hp_mem X Z) φ R) → hp_T n 199 37 [some (.ref b), some (.int i1), some (.int v2)] [] (hp_mem X S) φ R := by
  intro n
  induction n with
  | zero => intros; exact hp_0
  | succ n ih =>
    intro hN m S v2 Z hm hZ kk
    cases m with
    | zero => exact absurd hm (Nat.not_lt_zero _)
    | succ m =>
      rw [hq_199_37] at hZ
      refine hp_sN [38, 39] (pc' := 39) (L' := [some (.ref b), some (.int i1), some (.int v2)]) (st' := [.int i1, .int v2]) rfl rfl ?_
      refine hp_ic2 (pc' := 42) rfl rfl (fun h1 => ?_) (fun h1 => ?_)
      · rw [if_pos h1] at hZ
        subst hZ
        exact hp_le hN (kk (some (.int v2)))
      · rw [if_neg (hp_nt h1)] at hZ
        refine hp_sN [43] (pc' := 43) (L' := [some (.ref b), some (.int i1), some (.int v2)]) (st' := [.ref b]) rfl rfl ?_
        refine hp_iv (virt := true) (pc' := 46) (rv := none) (M1 := hp_mem X (hq_201 S b)) rfl rfl (by decide) (hk_201 hb S) rfl rfl ?_
        show hp_T _ 199 46 _ [] _ _ _
        refine hp_sB 49 [37] (pc' := 37) (L' := [some (.ref b), some (.int i1), some (.int (v2 + (Int32.ofInt 1)))]) (st' := []) rfl rfl ?_
        exact ih (Nat.le_trans (Nat.le_succ n) hN) m (hq_201 S b) ((v2 + (Int32.ofInt 1))) Z (hp_up h1 hm) hZ kk
set_option maxRecDepth 10000 in
theorem ht_199 {X : hp_X} {b : Nat} (hb : hp_b b) (S : hp_S) (i1 : Int32) (n : Nat) : hp_T n 199 0 [some (.ref b), some (.int i1), none] [] (hp_mem X S) (hp_is X) (hq_199 S b i1) := by
  unfold hq_199
  refine hp_sN [1, 2, 4] (pc' := 4) (L' := [some (.ref b), some (.int i1), none]) (st' := [.int (Int32.ofInt 60), .int (Int32.ofInt 1), .int i1]) rfl rfl ?_
  refine hp_iv (virt := false) (pc' := 7) (rv := some (.int (hq_44 S i1 (Int32.ofInt 1) (Int32.ofInt 60)))) (M1 := hp_mem X (S)) rfl rfl (by decide) (hk_44 S (i1) ((Int32.ofInt 1)) ((Int32.ofInt 60))) rfl rfl ?_
  show hp_T _ 199 7 _ [.int (hq_44 S i1 (Int32.ofInt 1) (Int32.ofInt 60))] _ _ _
  refine hp_if (pc' := 10) rfl rfl (fun h1 => ?_) (fun h1 => ?_)
  · refine hp_sN [13] (pc' := 13) (L' := [some (.ref b), some (.int i1), none]) (st' := [.ref b]) rfl rfl ?_
    refine hp_gf (pc' := 16) rfl (hp_bl hb 0 (by decide)) (hp_b0 hb X _) rfl rfl ?_
    refine hp_sN [17] (pc' := 17) (L' := [some (.ref b), some (.int i1), none]) (st' := [.ref b, .int (S b 3)]) rfl rfl ?_
    refine hp_gf (pc' := 20) rfl (hp_bl hb 0 (by decide)) (hp_b0 hb X _) rfl rfl ?_
    refine hp_sN [21, 22, 24] (pc' := 24) (L' := [some (.ref b), some (.int i1), none]) (st' := [.int (Int32.ofInt 24), .int ((S b 2) + i1), .int (S b 3)]) rfl rfl ?_
    refine hp_di (pc' := 25) rfl rfl ?_
    refine hp_sN [26, 29] (pc' := 29) (L' := [some (.ref b), some (.int i1), none]) (st' := [.int (Int32.ofInt 999), .int ((S b 3) + (((S b 2) + i1) / (Int32.ofInt 24)))]) rfl rfl ?_
    refine hp_ic (pc' := 32) rfl rfl (fun h2 => ?_) (fun h2 => ?_)
    · refine hp_sN [36, 37] (pc' := 37) (L' := [some (.ref b), some (.int i1), some (.int (Int32.ofInt 0))]) (st' := []) rfl rfl ?_
      refine ht_199_37 n hb i1  n (Nat.le_refl _) ((i1.toInt - (Int32.ofInt 0).toInt).toNat + 1) S ((Int32.ofInt 0))  _ (Nat.lt_succ_self _) rfl (fun x2_37 => ?_)
      show hp_T _ 199 52 [some (.ref b), some (.int i1), x2_37] _ (hp_mem X ((hq_199_37 b i1 ((i1.toInt - (Int32.ofInt 0).toInt).toNat + 1) S ((Int32.ofInt 0))))) _ _
      refine hp_sN [53] (pc' := 53) (L' := [some (.ref b), some (.int i1), x2_37]) (st' := [.ref b]) rfl rfl ?_
      refine hp_iv (virt := true) (pc' := 56) (rv := some (.int (hq_189 ((hq_199_37 b i1 ((i1.toInt - (Int32.ofInt 0).toInt).toNat + 1) S ((Int32.ofInt 0)))) b))) (M1 := hp_mem X ((hq_199_37 b i1 ((i1.toInt - (Int32.ofInt 0).toInt).toNat + 1) S ((Int32.ofInt 0))))) rfl rfl (by decide) (hk_189 hb ((hq_199_37 b i1 ((i1.toInt - (Int32.ofInt 0).toInt).toNat + 1) S ((Int32.ofInt 0))))) rfl rfl ?_
      show hp_T _ 199 56 _ [.int (hq_189 ((hq_199_37 b i1 ((i1.toInt - (Int32.ofInt 0).toInt).toNat + 1) S ((Int32.ofInt 0)))) b)] _ _ _
      refine hp_iv (virt := false) (pc' := 59) (rv := some (.int (hq_216 ((hq_199_37 b i1 ((i1.toInt - (Int32.ofInt 0).toInt).toNat + 1) S ((Int32.ofInt 0)))) (hq_189 ((hq_199_37 b i1 ((i1.toInt - (Int32.ofInt 0).toInt).toNat + 1) S ((Int32.ofInt 0)))) b)))) (M1 := hp_mem X ((hq_199_37 b i1 ((i1.toInt - (Int32.ofInt 0).toInt).toNat + 1) S ((Int32.ofInt 0))))) rfl rfl (by decide) (hk_216 ((hq_199_37 b i1 ((i1.toInt - (Int32.ofInt 0).toInt).toNat + 1) S ((Int32.ofInt 0)))) ((hq_189 ((hq_199_37 b i1 ((i1.toInt - (Int32.ofInt 0).toInt).toNat + 1) S ((Int32.ofInt 0)))) b))) rfl rfl ?_
      show hp_T _ 199 59 _ [.int (hq_216 ((hq_199_37 b i1 ((i1.toInt - (Int32.ofInt 0).toInt).toNat + 1) S ((Int32.ofInt 0)))) (hq_189 ((hq_199_37 b i1 ((i1.toInt - (Int32.ofInt 0).toInt).toNat + 1) S ((Int32.ofInt 0)))) b))] _ _ _
      exact hp_Ris rfl
    · refine hp_sN [34] (pc' := 34) (L' := [some (.ref b), some (.int i1), none]) (st' := [.int (Int32.ofInt (-3))]) rfl rfl ?_
      exact hp_Ris rfl
  · refine hp_sN [11] (pc' := 11) (L' := [some (.ref b), some (.int i1), none]) (st' := [.int (Int32.ofInt (-1))]) rfl rfl ?_
    exact hp_Ris rfl
theorem hk_199 {X : hp_X} {b : Nat} (hb : hp_b b) (S : hp_S) (i1 : Int32) : hp_K 199 [.ref b, .int i1] (hp_mem X S) (hp_is X) (hq_199 S b i1) := by
  refine hp_mk (q := hzq_199) rfl (by decide) (L := [some (.ref b), some (.int i1), none]) rfl (fun n => ?_)
  exact ht_199 hb S i1 n
/-! 212: HatsOfTheWind$Text.isDone(LHatsOfTheWind$Shelf;ILHatsOfTheWind$Street;)Z -/
def hq_212 (S : hp_S) (e : Nat) (b : Nat) (i2 : Int32) : Int32 × hp_S := (if (S (30 + 2 * e) i2.toNatClampNeg) = (Int32.ofInt 104) then (if hz_cmp .lt (hq_193 S b (hq_213 S e (i2 + (Int32.ofInt 1))) (hq_213 S e (i2 + (Int32.ofInt 2))) (hq_213 S e (i2 + (Int32.ofInt 3)))).1 0 = true then ((Int32.ofInt 0), (hq_193 S b (hq_213 S e (i2 + (Int32.ofInt 1))) (hq_213 S e (i2 + (Int32.ofInt 2))) (hq_213 S e (i2 + (Int32.ofInt 3)))).2) else ((Int32.ofInt 1), (hq_193 S b (hq_213 S e (i2 + (Int32.ofInt 1))) (hq_213 S e (i2 + (Int32.ofInt 2))) (hq_213 S e (i2 + (Int32.ofInt 3)))).2)) else (if (S (30 + 2 * e) i2.toNatClampNeg) = (Int32.ofInt 105) then (if hz_cmp .lt (hq_196 S b (hq_213 S e (i2 + (Int32.ofInt 1))) (hq_213 S e (i2 + (Int32.ofInt 2)))).1 0 = true then ((Int32.ofInt 0), (hq_196 S b (hq_213 S e (i2 + (Int32.ofInt 1))) (hq_213 S e (i2 + (Int32.ofInt 2)))).2) else ((Int32.ofInt 1), (hq_196 S b (hq_213 S e (i2 + (Int32.ofInt 1))) (hq_213 S e (i2 + (Int32.ofInt 2)))).2)) else (if (S (30 + 2 * e) i2.toNatClampNeg) = (Int32.ofInt 108) then (if hz_cmp .lt (hq_195 S b (((Int32.ofInt 10) * (hq_213 S e (i2 + (Int32.ofInt 1)))) + (hq_213 S e (i2 + (Int32.ofInt 2))))).1 0 = true then ((Int32.ofInt 0), (hq_195 S b (((Int32.ofInt 10) * (hq_213 S e (i2 + (Int32.ofInt 1)))) + (hq_213 S e (i2 + (Int32.ofInt 2))))).2) else ((Int32.ofInt 1), (hq_195 S b (((Int32.ofInt 10) * (hq_213 S e (i2 + (Int32.ofInt 1)))) + (hq_213 S e (i2 + (Int32.ofInt 2))))).2)) else (if (S (30 + 2 * e) i2.toNatClampNeg) = (Int32.ofInt 112) then (if hz_cmp .lt (hq_192 S b (((Int32.ofInt 10) * (hq_213 S e (i2 + (Int32.ofInt 1)))) + (hq_213 S e (i2 + (Int32.ofInt 2)))) (hq_213 S e (i2 + (Int32.ofInt 3)))).1 0 = true then ((Int32.ofInt 0), (hq_192 S b (((Int32.ofInt 10) * (hq_213 S e (i2 + (Int32.ofInt 1)))) + (hq_213 S e (i2 + (Int32.ofInt 2)))) (hq_213 S e (i2 + (Int32.ofInt 3)))).2) else ((Int32.ofInt 1), (hq_192 S b (((Int32.ofInt 10) * (hq_213 S e (i2 + (Int32.ofInt 1)))) + (hq_213 S e (i2 + (Int32.ofInt 2)))) (hq_213 S e (i2 + (Int32.ofInt 3)))).2)) else (if (S (30 + 2 * e) i2.toNatClampNeg) = (Int32.ofInt 116) then (if hz_cmp .lt (hq_199 S b (((Int32.ofInt 10) * (hq_213 S e (i2 + (Int32.ofInt 1)))) + (hq_213 S e (i2 + (Int32.ofInt 2))))).1 0 = true then ((Int32.ofInt 0), (hq_199 S b (((Int32.ofInt 10) * (hq_213 S e (i2 + (Int32.ofInt 1)))) + (hq_213 S e (i2 + (Int32.ofInt 2))))).2) else ((Int32.ofInt 1), (hq_199 S b (((Int32.ofInt 10) * (hq_213 S e (i2 + (Int32.ofInt 1)))) + (hq_213 S e (i2 + (Int32.ofInt 2))))).2)) else (if (S (30 + 2 * e) i2.toNatClampNeg) = (Int32.ofInt 119) then (if hz_cmp .lt (hq_194 S b (((Int32.ofInt 10) * (hq_213 S e (i2 + (Int32.ofInt 1)))) + (hq_213 S e (i2 + (Int32.ofInt 2)))) (hq_213 S e (i2 + (Int32.ofInt 3)))).1 0 = true then ((Int32.ofInt 0), (hq_194 S b (((Int32.ofInt 10) * (hq_213 S e (i2 + (Int32.ofInt 1)))) + (hq_213 S e (i2 + (Int32.ofInt 2)))) (hq_213 S e (i2 + (Int32.ofInt 3)))).2) else ((Int32.ofInt 1), (hq_194 S b (((Int32.ofInt 10) * (hq_213 S e (i2 + (Int32.ofInt 1)))) + (hq_213 S e (i2 + (Int32.ofInt 2)))) (hq_213 S e (i2 + (Int32.ofInt 3)))).2)) else ((Int32.ofInt 0), S)))))))
theorem hf_212 {e : Nat} {b : Nat} (S : hp_S) (i2 : Int32) (j : Nat) (z0 : j ≠ (b + 5)) (z1 : j ≠ (b + 6)) (z2 : j ≠ (b + 7)) (z3 : j ≠ (b + 8)) (z4 : j ≠ b) (z5 : j ≠ (b + 4)) (z6 : j ≠ (b + 2)) (z7 : j ≠ (b + 3)) (z8 : j ≠ (b + 1)) : (hq_212 S e b i2).2 j = S j := by
  unfold hq_212
  repeat' split
  all_goals simp [hp_wo, hp_wgo, hp_cpo, hf_192, hf_193, hf_194, hf_195, hf_196, hf_199, z0, z1, z2, z3, z4, z5, z6, z7, z8]
set_option maxRecDepth 10000 in
theorem ht_212 {X : hp_X} {e : Nat} {b : Nat} (he : e < 8) (hb : hp_b b) (S : hp_S) (i2 : Int32) (n : Nat) : hp_T n 212 0 [some (.ref (29 + 2 * e)), some (.int i2), some (.ref b), none, none, none, none] [] (hp_mem X S) (hp_is X) (hq_212 S e b i2) := by
  unfold hq_212
  refine hp_sN [1, 2, 3, 4] (pc' := 4) (L' := [some (.ref (29 + 2 * e)), some (.int i2), some (.ref b), none, none, none, none]) (st' := [.int (i2 + (Int32.ofInt 1)), .ref (29 + 2 * e)]) rfl rfl ?_
  refine hp_iv (virt := false) (pc' := 7) (rv := some (.int (hq_213 S e (i2 + (Int32.ofInt 1))))) (M1 := hp_mem X (S)) rfl rfl (by decide) (hk_213 he S ((i2 + (Int32.ofInt 1)))) rfl rfl ?_
  show hp_T _ 212 7 _ [.int (hq_213 S e (i2 + (Int32.ofInt 1)))] _ _ _
  refine hp_sN [8, 9, 10, 11, 12] (pc' := 12) (L' := [some (.ref (29 + 2 * e)), some (.int i2), some (.ref b), some (.int (hq_213 S e (i2 + (Int32.ofInt 1)))), none, none, none]) (st' := [.int (i2 + (Int32.ofInt 2)), .ref (29 + 2 * e)]) rfl rfl ?_
  refine hp_iv (virt := false) (pc' := 15) (rv := some (.int (hq_213 S e (i2 + (Int32.ofInt 2))))) (M1 := hp_mem X (S)) rfl rfl (by decide) (hk_213 he S ((i2 + (Int32.ofInt 2)))) rfl rfl ?_
  show hp_T _ 212 15 _ [.int (hq_213 S e (i2 + (Int32.ofInt 2)))] _ _ _
  refine hp_sN [17, 18, 19, 20, 21] (pc' := 21) (L' := [some (.ref (29 + 2 * e)), some (.int i2), some (.ref b), some (.int (hq_213 S e (i2 + (Int32.ofInt 1)))), some (.int (hq_213 S e (i2 + (Int32.ofInt 2)))), none, none]) (st' := [.int (i2 + (Int32.ofInt 3)), .ref (29 + 2 * e)]) rfl rfl ?_
  refine hp_iv (virt := false) (pc' := 24) (rv := some (.int (hq_213 S e (i2 + (Int32.ofInt 3))))) (M1 := hp_mem X (S)) rfl rfl (by decide) (hk_213 he S ((i2 + (Int32.ofInt 3)))) rfl rfl ?_
  show hp_T _ 212 24 _ [.int (hq_213 S e (i2 + (Int32.ofInt 3)))] _ _ _
  refine hp_sN [26, 28, 29, 30, 32, 33, 35, 36] (pc' := 36) (L' := [some (.ref (29 + 2 * e)), some (.int i2), some (.ref b), some (.int (hq_213 S e (i2 + (Int32.ofInt 1)))), some (.int (hq_213 S e (i2 + (Int32.ofInt 2)))), some (.int (hq_213 S e (i2 + (Int32.ofInt 3)))), some (.int (((Int32.ofInt 10) * (hq_213 S e (i2 + (Int32.ofInt 1)))) + (hq_213 S e (i2 + (Int32.ofInt 2)))))]) (st' := [.ref (29 + 2 * e)]) rfl rfl ?_
  refine hp_gf (pc' := 39) rfl (hp_sl0 he) (hp_s0 he X _) rfl rfl ?_
  refine hp_sN [40] (pc' := 40) (L' := [some (.ref (29 + 2 * e)), some (.int i2), some (.ref b), some (.int (hq_213 S e (i2 + (Int32.ofInt 1)))), some (.int (hq_213 S e (i2 + (Int32.ofInt 2)))), some (.int (hq_213 S e (i2 + (Int32.ofInt 3)))), some (.int (((Int32.ofInt 10) * (hq_213 S e (i2 + (Int32.ofInt 1)))) + (hq_213 S e (i2 + (Int32.ofInt 2)))))]) (st' := [.int i2, .ref (30 + 2 * e)]) rfl rfl ?_
  refine hp_al (pc' := 41) rfl (hp_sl1 he) (hp_s1 he X _) rfl ?_
  refine hp_st (c := 104) (t := 137) rfl (by decide) (by decide) rfl (fun h1 => ?_) (fun h2 => ?_)
  · refine hp_sN [138, 139, 141, 143] (pc' := 143) (L' := [some (.ref (29 + 2 * e)), some (.int i2), some (.ref b), some (.int (hq_213 S e (i2 + (Int32.ofInt 1)))), some (.int (hq_213 S e (i2 + (Int32.ofInt 2)))), some (.int (hq_213 S e (i2 + (Int32.ofInt 3)))), some (.int (((Int32.ofInt 10) * (hq_213 S e (i2 + (Int32.ofInt 1)))) + (hq_213 S e (i2 + (Int32.ofInt 2)))))]) (st' := [.int (hq_213 S e (i2 + (Int32.ofInt 3))), .int (hq_213 S e (i2 + (Int32.ofInt 2))), .int (hq_213 S e (i2 + (Int32.ofInt 1))), .ref b]) rfl rfl ?_
    refine hp_iv (virt := true) (pc' := 146) (rv := some (.int (hq_193 S b (hq_213 S e (i2 + (Int32.ofInt 1))) (hq_213 S e (i2 + (Int32.ofInt 2))) (hq_213 S e (i2 + (Int32.ofInt 3)))).1)) (M1 := hp_mem X ((hq_193 S b (hq_213 S e (i2 + (Int32.ofInt 1))) (hq_213 S e (i2 + (Int32.ofInt 2))) (hq_213 S e (i2 + (Int32.ofInt 3)))).2)) rfl rfl (by decide) (hk_193 hb S ((hq_213 S e (i2 + (Int32.ofInt 1)))) ((hq_213 S e (i2 + (Int32.ofInt 2)))) ((hq_213 S e (i2 + (Int32.ofInt 3))))) rfl rfl ?_
    show hp_T _ 212 146 _ [.int (hq_193 S b (hq_213 S e (i2 + (Int32.ofInt 1))) (hq_213 S e (i2 + (Int32.ofInt 2))) (hq_213 S e (i2 + (Int32.ofInt 3)))).1] _ _ _
    refine hp_if (pc' := 149) rfl rfl (fun h3 => ?_) (fun h3 => ?_)
    · refine hp_sN [154] (pc' := 154) (L' := [some (.ref (29 + 2 * e)), some (.int i2), some (.ref b), some (.int (hq_213 S e (i2 + (Int32.ofInt 1)))), some (.int (hq_213 S e (i2 + (Int32.ofInt 2)))), some (.int (hq_213 S e (i2 + (Int32.ofInt 3)))), some (.int (((Int32.ofInt 10) * (hq_213 S e (i2 + (Int32.ofInt 1)))) + (hq_213 S e (i2 + (Int32.ofInt 2)))))]) (st' := [.int (Int32.ofInt 0)]) rfl rfl ?_
      exact hp_Ris rfl
    · refine hp_sN [150, 154] (pc' := 154) (L' := [some (.ref (29 + 2 * e)), some (.int i2), some (.ref b), some (.int (hq_213 S e (i2 + (Int32.ofInt 1)))), some (.int (hq_213 S e (i2 + (Int32.ofInt 2)))), some (.int (hq_213 S e (i2 + (Int32.ofInt 3)))), some (.int (((Int32.ofInt 10) * (hq_213 S e (i2 + (Int32.ofInt 1)))) + (hq_213 S e (i2 + (Int32.ofInt 2)))))]) (st' := [.int (Int32.ofInt 1)]) rfl rfl ?_
      exact hp_Ris rfl
  refine hp_st (c := 105) (t := 187) rfl (by decide) (by decide) rfl (fun h4 => ?_) (fun h5 => ?_)
  · refine hp_sN [188, 189, 191] (pc' := 191) (L' := [some (.ref (29 + 2 * e)), some (.int i2), some (.ref b), some (.int (hq_213 S e (i2 + (Int32.ofInt 1)))), some (.int (hq_213 S e (i2 + (Int32.ofInt 2)))), some (.int (hq_213 S e (i2 + (Int32.ofInt 3)))), some (.int (((Int32.ofInt 10) * (hq_213 S e (i2 + (Int32.ofInt 1)))) + (hq_213 S e (i2 + (Int32.ofInt 2)))))]) (st' := [.int (hq_213 S e (i2 + (Int32.ofInt 2))), .int (hq_213 S e (i2 + (Int32.ofInt 1))), .ref b]) rfl rfl ?_
    refine hp_iv (virt := true) (pc' := 194) (rv := some (.int (hq_196 S b (hq_213 S e (i2 + (Int32.ofInt 1))) (hq_213 S e (i2 + (Int32.ofInt 2)))).1)) (M1 := hp_mem X ((hq_196 S b (hq_213 S e (i2 + (Int32.ofInt 1))) (hq_213 S e (i2 + (Int32.ofInt 2)))).2)) rfl rfl (by decide) (hk_196 hb S ((hq_213 S e (i2 + (Int32.ofInt 1)))) ((hq_213 S e (i2 + (Int32.ofInt 2))))) rfl rfl ?_
    show hp_T _ 212 194 _ [.int (hq_196 S b (hq_213 S e (i2 + (Int32.ofInt 1))) (hq_213 S e (i2 + (Int32.ofInt 2)))).1] _ _ _
    refine hp_if (pc' := 197) rfl rfl (fun h6 => ?_) (fun h6 => ?_)
    · refine hp_sN [202] (pc' := 202) (L' := [some (.ref (29 + 2 * e)), some (.int i2), some (.ref b), some (.int (hq_213 S e (i2 + (Int32.ofInt 1)))), some (.int (hq_213 S e (i2 + (Int32.ofInt 2)))), some (.int (hq_213 S e (i2 + (Int32.ofInt 3)))), some (.int (((Int32.ofInt 10) * (hq_213 S e (i2 + (Int32.ofInt 1)))) + (hq_213 S e (i2 + (Int32.ofInt 2)))))]) (st' := [.int (Int32.ofInt 0)]) rfl rfl ?_
      exact hp_Ris rfl
    · refine hp_sN [198, 202] (pc' := 202) (L' := [some (.ref (29 + 2 * e)), some (.int i2), some (.ref b), some (.int (hq_213 S e (i2 + (Int32.ofInt 1)))), some (.int (hq_213 S e (i2 + (Int32.ofInt 2)))), some (.int (hq_213 S e (i2 + (Int32.ofInt 3)))), some (.int (((Int32.ofInt 10) * (hq_213 S e (i2 + (Int32.ofInt 1)))) + (hq_213 S e (i2 + (Int32.ofInt 2)))))]) (st' := [.int (Int32.ofInt 1)]) rfl rfl ?_
      exact hp_Ris rfl
  refine hp_st (c := 108) (t := 172) rfl (by decide) (by decide) rfl (fun h7 => ?_) (fun h8 => ?_)
  · refine hp_sN [173, 175] (pc' := 175) (L' := [some (.ref (29 + 2 * e)), some (.int i2), some (.ref b), some (.int (hq_213 S e (i2 + (Int32.ofInt 1)))), some (.int (hq_213 S e (i2 + (Int32.ofInt 2)))), some (.int (hq_213 S e (i2 + (Int32.ofInt 3)))), some (.int (((Int32.ofInt 10) * (hq_213 S e (i2 + (Int32.ofInt 1)))) + (hq_213 S e (i2 + (Int32.ofInt 2)))))]) (st' := [.int (((Int32.ofInt 10) * (hq_213 S e (i2 + (Int32.ofInt 1)))) + (hq_213 S e (i2 + (Int32.ofInt 2)))), .ref b]) rfl rfl ?_
    refine hp_iv (virt := true) (pc' := 178) (rv := some (.int (hq_195 S b (((Int32.ofInt 10) * (hq_213 S e (i2 + (Int32.ofInt 1)))) + (hq_213 S e (i2 + (Int32.ofInt 2))))).1)) (M1 := hp_mem X ((hq_195 S b (((Int32.ofInt 10) * (hq_213 S e (i2 + (Int32.ofInt 1)))) + (hq_213 S e (i2 + (Int32.ofInt 2))))).2)) rfl rfl (by decide) (hk_195 hb S ((((Int32.ofInt 10) * (hq_213 S e (i2 + (Int32.ofInt 1)))) + (hq_213 S e (i2 + (Int32.ofInt 2)))))) rfl rfl ?_
    show hp_T _ 212 178 _ [.int (hq_195 S b (((Int32.ofInt 10) * (hq_213 S e (i2 + (Int32.ofInt 1)))) + (hq_213 S e (i2 + (Int32.ofInt 2))))).1] _ _ _
    refine hp_if (pc' := 181) rfl rfl (fun h9 => ?_) (fun h9 => ?_)
    · refine hp_sN [186] (pc' := 186) (L' := [some (.ref (29 + 2 * e)), some (.int i2), some (.ref b), some (.int (hq_213 S e (i2 + (Int32.ofInt 1)))), some (.int (hq_213 S e (i2 + (Int32.ofInt 2)))), some (.int (hq_213 S e (i2 + (Int32.ofInt 3)))), some (.int (((Int32.ofInt 10) * (hq_213 S e (i2 + (Int32.ofInt 1)))) + (hq_213 S e (i2 + (Int32.ofInt 2)))))]) (st' := [.int (Int32.ofInt 0)]) rfl rfl ?_
      exact hp_Ris rfl
    · refine hp_sN [182, 186] (pc' := 186) (L' := [some (.ref (29 + 2 * e)), some (.int i2), some (.ref b), some (.int (hq_213 S e (i2 + (Int32.ofInt 1)))), some (.int (hq_213 S e (i2 + (Int32.ofInt 2)))), some (.int (hq_213 S e (i2 + (Int32.ofInt 3)))), some (.int (((Int32.ofInt 10) * (hq_213 S e (i2 + (Int32.ofInt 1)))) + (hq_213 S e (i2 + (Int32.ofInt 2)))))]) (st' := [.int (Int32.ofInt 1)]) rfl rfl ?_
      exact hp_Ris rfl
  refine hp_st (c := 112) (t := 120) rfl (by decide) (by decide) rfl (fun h10 => ?_) (fun h11 => ?_)
  · refine hp_sN [121, 123, 125] (pc' := 125) (L' := [some (.ref (29 + 2 * e)), some (.int i2), some (.ref b), some (.int (hq_213 S e (i2 + (Int32.ofInt 1)))), some (.int (hq_213 S e (i2 + (Int32.ofInt 2)))), some (.int (hq_213 S e (i2 + (Int32.ofInt 3)))), some (.int (((Int32.ofInt 10) * (hq_213 S e (i2 + (Int32.ofInt 1)))) + (hq_213 S e (i2 + (Int32.ofInt 2)))))]) (st' := [.int (hq_213 S e (i2 + (Int32.ofInt 3))), .int (((Int32.ofInt 10) * (hq_213 S e (i2 + (Int32.ofInt 1)))) + (hq_213 S e (i2 + (Int32.ofInt 2)))), .ref b]) rfl rfl ?_
    refine hp_iv (virt := true) (pc' := 128) (rv := some (.int (hq_192 S b (((Int32.ofInt 10) * (hq_213 S e (i2 + (Int32.ofInt 1)))) + (hq_213 S e (i2 + (Int32.ofInt 2)))) (hq_213 S e (i2 + (Int32.ofInt 3)))).1)) (M1 := hp_mem X ((hq_192 S b (((Int32.ofInt 10) * (hq_213 S e (i2 + (Int32.ofInt 1)))) + (hq_213 S e (i2 + (Int32.ofInt 2)))) (hq_213 S e (i2 + (Int32.ofInt 3)))).2)) rfl rfl (by decide) (hk_192 hb S ((((Int32.ofInt 10) * (hq_213 S e (i2 + (Int32.ofInt 1)))) + (hq_213 S e (i2 + (Int32.ofInt 2))))) ((hq_213 S e (i2 + (Int32.ofInt 3))))) rfl rfl ?_
    show hp_T _ 212 128 _ [.int (hq_192 S b (((Int32.ofInt 10) * (hq_213 S e (i2 + (Int32.ofInt 1)))) + (hq_213 S e (i2 + (Int32.ofInt 2)))) (hq_213 S e (i2 + (Int32.ofInt 3)))).1] _ _ _
    refine hp_if (pc' := 131) rfl rfl (fun h12 => ?_) (fun h12 => ?_)
    · refine hp_sN [136] (pc' := 136) (L' := [some (.ref (29 + 2 * e)), some (.int i2), some (.ref b), some (.int (hq_213 S e (i2 + (Int32.ofInt 1)))), some (.int (hq_213 S e (i2 + (Int32.ofInt 2)))), some (.int (hq_213 S e (i2 + (Int32.ofInt 3)))), some (.int (((Int32.ofInt 10) * (hq_213 S e (i2 + (Int32.ofInt 1)))) + (hq_213 S e (i2 + (Int32.ofInt 2)))))]) (st' := [.int (Int32.ofInt 0)]) rfl rfl ?_
      exact hp_Ris rfl
    · refine hp_sN [132, 136] (pc' := 136) (L' := [some (.ref (29 + 2 * e)), some (.int i2), some (.ref b), some (.int (hq_213 S e (i2 + (Int32.ofInt 1)))), some (.int (hq_213 S e (i2 + (Int32.ofInt 2)))), some (.int (hq_213 S e (i2 + (Int32.ofInt 3)))), some (.int (((Int32.ofInt 10) * (hq_213 S e (i2 + (Int32.ofInt 1)))) + (hq_213 S e (i2 + (Int32.ofInt 2)))))]) (st' := [.int (Int32.ofInt 1)]) rfl rfl ?_
      exact hp_Ris rfl
  refine hp_st (c := 116) (t := 203) rfl (by decide) (by decide) rfl (fun h13 => ?_) (fun h14 => ?_)
  · refine hp_sN [204, 206] (pc' := 206) (L' := [some (.ref (29 + 2 * e)), some (.int i2), some (.ref b), some (.int (hq_213 S e (i2 + (Int32.ofInt 1)))), some (.int (hq_213 S e (i2 + (Int32.ofInt 2)))), some (.int (hq_213 S e (i2 + (Int32.ofInt 3)))), some (.int (((Int32.ofInt 10) * (hq_213 S e (i2 + (Int32.ofInt 1)))) + (hq_213 S e (i2 + (Int32.ofInt 2)))))]) (st' := [.int (((Int32.ofInt 10) * (hq_213 S e (i2 + (Int32.ofInt 1)))) + (hq_213 S e (i2 + (Int32.ofInt 2)))), .ref b]) rfl rfl ?_
    refine hp_iv (virt := true) (pc' := 209) (rv := some (.int (hq_199 S b (((Int32.ofInt 10) * (hq_213 S e (i2 + (Int32.ofInt 1)))) + (hq_213 S e (i2 + (Int32.ofInt 2))))).1)) (M1 := hp_mem X ((hq_199 S b (((Int32.ofInt 10) * (hq_213 S e (i2 + (Int32.ofInt 1)))) + (hq_213 S e (i2 + (Int32.ofInt 2))))).2)) rfl rfl (by decide) (hk_199 hb S ((((Int32.ofInt 10) * (hq_213 S e (i2 + (Int32.ofInt 1)))) + (hq_213 S e (i2 + (Int32.ofInt 2)))))) rfl rfl ?_
    show hp_T _ 212 209 _ [.int (hq_199 S b (((Int32.ofInt 10) * (hq_213 S e (i2 + (Int32.ofInt 1)))) + (hq_213 S e (i2 + (Int32.ofInt 2))))).1] _ _ _
    refine hp_if (pc' := 212) rfl rfl (fun h15 => ?_) (fun h15 => ?_)
    · refine hp_sN [217] (pc' := 217) (L' := [some (.ref (29 + 2 * e)), some (.int i2), some (.ref b), some (.int (hq_213 S e (i2 + (Int32.ofInt 1)))), some (.int (hq_213 S e (i2 + (Int32.ofInt 2)))), some (.int (hq_213 S e (i2 + (Int32.ofInt 3)))), some (.int (((Int32.ofInt 10) * (hq_213 S e (i2 + (Int32.ofInt 1)))) + (hq_213 S e (i2 + (Int32.ofInt 2)))))]) (st' := [.int (Int32.ofInt 0)]) rfl rfl ?_
      exact hp_Ris rfl
    · refine hp_sN [213, 217] (pc' := 217) (L' := [some (.ref (29 + 2 * e)), some (.int i2), some (.ref b), some (.int (hq_213 S e (i2 + (Int32.ofInt 1)))), some (.int (hq_213 S e (i2 + (Int32.ofInt 2)))), some (.int (hq_213 S e (i2 + (Int32.ofInt 3)))), some (.int (((Int32.ofInt 10) * (hq_213 S e (i2 + (Int32.ofInt 1)))) + (hq_213 S e (i2 + (Int32.ofInt 2)))))]) (st' := [.int (Int32.ofInt 1)]) rfl rfl ?_
      exact hp_Ris rfl
  refine hp_st (c := 119) (t := 155) rfl (by decide) (by decide) rfl (fun h16 => ?_) (fun h17 => ?_)
  · refine hp_sN [156, 158, 160] (pc' := 160) (L' := [some (.ref (29 + 2 * e)), some (.int i2), some (.ref b), some (.int (hq_213 S e (i2 + (Int32.ofInt 1)))), some (.int (hq_213 S e (i2 + (Int32.ofInt 2)))), some (.int (hq_213 S e (i2 + (Int32.ofInt 3)))), some (.int (((Int32.ofInt 10) * (hq_213 S e (i2 + (Int32.ofInt 1)))) + (hq_213 S e (i2 + (Int32.ofInt 2)))))]) (st' := [.int (hq_213 S e (i2 + (Int32.ofInt 3))), .int (((Int32.ofInt 10) * (hq_213 S e (i2 + (Int32.ofInt 1)))) + (hq_213 S e (i2 + (Int32.ofInt 2)))), .ref b]) rfl rfl ?_
    refine hp_iv (virt := true) (pc' := 163) (rv := some (.int (hq_194 S b (((Int32.ofInt 10) * (hq_213 S e (i2 + (Int32.ofInt 1)))) + (hq_213 S e (i2 + (Int32.ofInt 2)))) (hq_213 S e (i2 + (Int32.ofInt 3)))).1)) (M1 := hp_mem X ((hq_194 S b (((Int32.ofInt 10) * (hq_213 S e (i2 + (Int32.ofInt 1)))) + (hq_213 S e (i2 + (Int32.ofInt 2)))) (hq_213 S e (i2 + (Int32.ofInt 3)))).2)) rfl rfl (by decide) (hk_194 hb S ((((Int32.ofInt 10) * (hq_213 S e (i2 + (Int32.ofInt 1)))) + (hq_213 S e (i2 + (Int32.ofInt 2))))) ((hq_213 S e (i2 + (Int32.ofInt 3))))) rfl rfl ?_
    show hp_T _ 212 163 _ [.int (hq_194 S b (((Int32.ofInt 10) * (hq_213 S e (i2 + (Int32.ofInt 1)))) + (hq_213 S e (i2 + (Int32.ofInt 2)))) (hq_213 S e (i2 + (Int32.ofInt 3)))).1] _ _ _
    refine hp_if (pc' := 166) rfl rfl (fun h18 => ?_) (fun h18 => ?_)
    · refine hp_sN [171] (pc' := 171) (L' := [some (.ref (29 + 2 * e)), some (.int i2), some (.ref b), some (.int (hq_213 S e (i2 + (Int32.ofInt 1)))), some (.int (hq_213 S e (i2 + (Int32.ofInt 2)))), some (.int (hq_213 S e (i2 + (Int32.ofInt 3)))), some (.int (((Int32.ofInt 10) * (hq_213 S e (i2 + (Int32.ofInt 1)))) + (hq_213 S e (i2 + (Int32.ofInt 2)))))]) (st' := [.int (Int32.ofInt 0)]) rfl rfl ?_
      exact hp_Ris rfl
    · refine hp_sN [167, 171] (pc' := 171) (L' := [some (.ref (29 + 2 * e)), some (.int i2), some (.ref b), some (.int (hq_213 S e (i2 + (Int32.ofInt 1)))), some (.int (hq_213 S e (i2 + (Int32.ofInt 2)))), some (.int (hq_213 S e (i2 + (Int32.ofInt 3)))), some (.int (((Int32.ofInt 10) * (hq_213 S e (i2 + (Int32.ofInt 1)))) + (hq_213 S e (i2 + (Int32.ofInt 2)))))]) (st' := [.int (Int32.ofInt 1)]) rfl rfl ?_
      exact hp_Ris rfl
  refine hp_td (t := 218) [104, 105, 108, 112, 116, 119] rfl rfl rfl (by decide) (fun c q => ?_) ?_
  · simp only [List.mem_cons, List.not_mem_nil, or_false] at q
    omega
  refine hp_sN [219] (pc' := 219) (L' := [some (.ref (29 + 2 * e)), some (.int i2), some (.ref b), some (.int (hq_213 S e (i2 + (Int32.ofInt 1)))), some (.int (hq_213 S e (i2 + (Int32.ofInt 2)))), some (.int (hq_213 S e (i2 + (Int32.ofInt 3)))), some (.int (((Int32.ofInt 10) * (hq_213 S e (i2 + (Int32.ofInt 1)))) + (hq_213 S e (i2 + (Int32.ofInt 2)))))]) (st' := [.int (Int32.ofInt 0)]) rfl rfl ?_
  exact hp_Ris rfl
theorem hk_212 {X : hp_X} {e : Nat} {b : Nat} (he : e < 8) (hb : hp_b b) (S : hp_S) (i2 : Int32) : hp_K 212 [.ref (29 + 2 * e), .int i2, .ref b] (hp_mem X S) (hp_is X) (hq_212 S e b i2) := by
  refine hp_mk (q := hzq_212) rfl (by decide) (L := [some (.ref (29 + 2 * e)), some (.int i2), some (.ref b), none, none, none, none]) rfl (fun n => ?_)
  exact ht_212 he hb S i2 n

