/-! BY HAND: what throws and what catches: Kinds.fail, failureCaught -/
theorem hx_in {L : List Jvm.Cond} (ps : List Nat) (h : L = ps.filterMap (fun i => lw_tbl[i]?)) (g : L.all (fun w => goodWord w || hz_isO w) = true) : ∀ w ∈ L, w ∈ hzTB ∨ w ∈ hzOW := by
  intro w hw
  have h1 := List.all_eq_true.mp g w hw
  rw [h] at hw
  obtain ⟨i, -, hi⟩ := List.mem_filterMap.mp hw
  have hm : w ∈ lw_tbl := List.mem_of_getElem? hi
  cases hg : goodWord w with
  | true => exact Or.inl (List.mem_filter.mpr ⟨hm, hg⟩)
  | false =>
    rw [hg, Bool.false_or] at h1
    exact Or.inr (List.mem_filter.mpr ⟨hm, h1⟩)
theorem hx_use {s : State} {args : Array Value} {L : List Jvm.Cond} (h : ∀ w ∈ L, w ∈ hzTB ∨ w ∈ hzOW) (hts : ∀ w ∈ hzTB, w.before args s = true) (hV : hz_VS s) : ∀ w ∈ L, w.before args s = true := by
  intro w hw
  rcases h w hw with h | h
  · exact hts w h
  · exact va_Nw.use (hz_OW_on h) (hV.2.1 w h)
theorem hx_tb (i : Nat) {w : Jvm.Cond} (h : lw_tbl[i]? = some w) (g : goodWord w = true) : w ∈ hzTB := List.mem_filter.mpr ⟨List.mem_of_getElem? h, g⟩
theorem hx_ow (i : Nat) {w : Jvm.Cond} (h : lw_tbl[i]? = some w) (g : hz_isO w = true) : w ∈ hzOW := List.mem_filter.mpr ⟨List.mem_of_getElem? h, g⟩
def hx_Lu : List Jvm.Cond := .classLink "HatsOfTheWind$Kinds" 9 "java/lang/UnsupportedOperationException" :: .initialized "java/lang/UnsupportedOperationException" :: vx_atS "HatsOfTheWind$Kinds" 13 "java/lang/UnsupportedOperationException" ["java/lang/RuntimeException", "java/lang/Exception"]
theorem hx_Iu : ∀ w ∈ hx_Lu, w ∈ hzTB ∨ w ∈ hzOW := hx_in [687, 53, 48, 709, 718, 722, 725, 727, 710, 711, 60, 61, 712, 717, 723, 743, 699, 744, 701, 745, 703, 713, 715, 705, 739, 740, 742, 705, 730, 731, 732, 733, 691, 733, 734, 735, 736, 693, 736, 737, 738, 739, 695, 729, 688, 689, 696, 697, 698, 700, 702, 704, 708, 707, 706] (by decide +kernel) (by decide +kernel)
theorem hx_Ou : ∀ w ∈ hx_Lu, vx_ot w = true := List.all_eq_true.mp (by decide +kernel)
def hx_Li : List Jvm.Cond := .classLink "HatsOfTheWind$Kinds" 16 "java/lang/IllegalArgumentException" :: .initialized "java/lang/IllegalArgumentException" :: vx_atS "HatsOfTheWind$Kinds" 20 "java/lang/IllegalArgumentException" ["java/lang/RuntimeException", "java/lang/Exception"]
theorem hx_Ii : ∀ w ∈ hx_Li, w ∈ hzTB ∨ w ∈ hzOW := hx_in [755, 51, 48, 709, 718, 722, 725, 727, 710, 711, 60, 61, 712, 717, 723, 743, 699, 744, 701, 745, 703, 713, 715, 705, 739, 740, 742, 705, 766, 767, 768, 733, 691, 733, 734, 735, 736, 693, 736, 737, 738, 739, 695, 765, 756, 757, 758, 720, 759, 760, 761, 762, 708, 707, 763] (by decide +kernel) (by decide +kernel)
theorem hx_Oi : ∀ w ∈ hx_Li, vx_ot w = true := List.all_eq_true.mp (by decide +kernel)
def hx_Ls : List Jvm.Cond := .classLink "HatsOfTheWind$Kinds" 21 "java/lang/IllegalStateException" :: .initialized "java/lang/IllegalStateException" :: vx_atS "HatsOfTheWind$Kinds" 25 "java/lang/IllegalStateException" ["java/lang/RuntimeException", "java/lang/Exception"]
theorem hx_Is : ∀ w ∈ hx_Ls, w ∈ hzTB ∨ w ∈ hzOW := hx_in [771, 52, 48, 709, 718, 722, 725, 727, 710, 711, 60, 61, 712, 717, 723, 743, 699, 744, 701, 745, 703, 713, 715, 705, 739, 740, 742, 705, 782, 783, 784, 733, 691, 733, 734, 735, 736, 693, 736, 737, 738, 739, 695, 781, 772, 773, 774, 721, 775, 776, 777, 778, 708, 707, 779] (by decide +kernel) (by decide +kernel)
theorem hx_Os : ∀ w ∈ hx_Ls, vx_ot w = true := List.all_eq_true.mp (by decide +kernel)
theorem hx_d0 : decode prog_2_method_5_code 0 = .ok (.iload_n 0, 1) := by decide +kernel
theorem hx_d1 : decode prog_2_method_5_code 1 = .ok (.iconst 3, 1) := by decide +kernel
theorem hx_d2 : decode prog_2_method_5_code 2 = .ok (.if_icmp .eq 13, 3) := by decide +kernel
theorem hx_d5 : decode prog_2_method_5_code 5 = .ok (.iload_n 0, 1) := by decide +kernel
theorem hx_d6 : decode prog_2_method_5_code 6 = .ok (.bipush 6, 2) := by decide +kernel
theorem hx_d8 : decode prog_2_method_5_code 8 = .ok (.if_icmp .eq 7, 3) := by decide +kernel
theorem hx_d11 : decode prog_2_method_5_code 11 = .ok (.iload_n 1, 1) := by decide +kernel
theorem hx_d12 : decode prog_2_method_5_code 12 = .ok (.ifCond .ne 4, 3) := by decide +kernel
theorem hx_d15 : decode prog_2_method_5_code 15 = .ok (.return_, 1) := by decide +kernel
theorem hx_d16 : decode prog_2_method_5_code 16 = .ok (.iload_n 0, 1) := by decide +kernel
theorem hx_d17 : decode prog_2_method_5_code 17 = .ok (.iconst 4, 1) := by decide +kernel
theorem hx_d18 : decode prog_2_method_5_code 18 = .ok (.if_icmp .ne 13, 3) := by decide +kernel
theorem hx_d21 : decode prog_2_method_5_code 21 = .ok (.new 9, 3) := by decide +kernel
theorem hx_d24 : decode prog_2_method_5_code 24 = .ok (.dup, 1) := by decide +kernel
theorem hx_d25 : decode prog_2_method_5_code 25 = .ok (.ldc 11, 2) := by decide +kernel
theorem hx_d27 : decode prog_2_method_5_code 27 = .ok (.invokespecial 13, 3) := by decide +kernel
theorem hx_d30 : decode prog_2_method_5_code 30 = .ok (.athrow, 1) := by decide +kernel
theorem hx_d31 : decode prog_2_method_5_code 31 = .ok (.iload_n 0, 1) := by decide +kernel
theorem hx_d32 : decode prog_2_method_5_code 32 = .ok (.iconst 1, 1) := by decide +kernel
theorem hx_d33 : decode prog_2_method_5_code 33 = .ok (.if_icmp .ne 13, 3) := by decide +kernel
theorem hx_d36 : decode prog_2_method_5_code 36 = .ok (.new 16, 3) := by decide +kernel
theorem hx_d39 : decode prog_2_method_5_code 39 = .ok (.dup, 1) := by decide +kernel
theorem hx_d40 : decode prog_2_method_5_code 40 = .ok (.ldc 18, 2) := by decide +kernel
theorem hx_d42 : decode prog_2_method_5_code 42 = .ok (.invokespecial 20, 3) := by decide +kernel
theorem hx_d45 : decode prog_2_method_5_code 45 = .ok (.athrow, 1) := by decide +kernel
theorem hx_d46 : decode prog_2_method_5_code 46 = .ok (.new 21, 3) := by decide +kernel
theorem hx_d49 : decode prog_2_method_5_code 49 = .ok (.dup, 1) := by decide +kernel
theorem hx_d50 : decode prog_2_method_5_code 50 = .ok (.ldc 23, 2) := by decide +kernel
theorem hx_d52 : decode prog_2_method_5_code 52 = .ok (.invokespecial 25, 3) := by decide +kernel
theorem hx_d55 : decode prog_2_method_5_code 55 = .ok (.athrow, 1) := by decide +kernel
def hx_fail : MethodName := ⟨"HatsOfTheWind$Kinds", "fail", "(II)V"⟩
def hx_cx (k : Int32) : String := if k = 4 then "java/lang/UnsupportedOperationException" else if k = 1 then "java/lang/IllegalArgumentException" else "java/lang/IllegalStateException"
def hx_thr (k f : Int32) : Prop := ¬ (k = 3 ∨ k = 6 ∨ f = 0)
def hx_PF (k f : Int32) (sz : Nat) : Array Value → State → Prop := va_Pc [.int k, .int f] (fun U => U.heap.size = sz ∧ hz_NS (fun q => sz ≤ q) U.heap U)
theorem hx_bl (k f : Int32) (sz : Nat) : FrameBlind (hx_PF k f sz) := fun a U g mk q => by
  obtain ⟨q0, q1, qN⟩ := q
  exact ⟨q0, q1, hz_VS_same (u := U) (U := U.calling g mk a) rfl qN.1, vx_Zq.moved (u := U) (U := U.calling g mk a) (Vm.Alike.refl U.vm) qN.2.1, vx_Zq.moved (u := U) (U := U.calling g mk a) (Vm.Alike.refl U.vm) qN.2.2⟩
set_option maxHeartbeats 4000000 in
set_option maxRecDepth 100000 in
theorem hx_failM {l : Launch} (hfl : l.stackTraces = false) (k f : Int32) (sz : Nat) : vx_Met l hx_fail (hz_ws hx_fail prog_2_method_5_code 2 none) ({ frames := 6, cells := 1, slots := 6, locals := 100 }) (hx_PF k f sz) (va_Qv (fun _ : Unit => ¬ hx_thr k f) (fun _ _ => True) (fun q => sz ≤ q)) (vx_X (fun _ : Unit => hx_thr k f) (fun E _ _ => E = hx_cx k) (fun q => sz ≤ q)) 1 6 (fun q => sz ≤ q) := by
  refine vx_ofW (by decide) rfl ?_
  intro p e s m args below meth c s₁ B hml ht hv
  obtain ⟨rfl, hsz, hN⟩ := hv
  have hx := B.exec
  have hb := B.bytes
  have hr := B.returns
  have hts := atoms_spec (ws := hz_ws hx_fail prog_2_method_5_code 2 none) B.pre
  have htb : ∀ w ∈ hzTB, w.before #[.int k, .int f] s = true := fun w hw => hts w (List.mem_cons_of_mem _ hw)
  have hown : s.vm.findClass "HatsOfTheWind$Kinds" = some m.cls := findClass_of_methodNamed B.named
  have hlocks := B.notSynchronized
  subst hsz
  have hS : va_S (fun q : Nat => s.heap.size ≤ q) s.heap s.heap [] := va_S.rf
  have hl := lv_entry ([.int k, .int f]) (n := 2) (Nat.le_of_ble_eq_true rfl)
  rw [lg_entry_eq]
  generalize (lg_sl ([.int k, .int f]) ++ List.replicate (2 - (lg_sl ([.int k, .int f])).length) Slot.unset).toArray = ls at hl ⊢
  have hl : lv_has ls 2 [(0, .int k), (1, .int f)] := hl
  have out : ¬ hx_thr k f → W p l e ({ frames := 6, cells := 1, slots := 6, locals := 100 } : Room) s m #[.int k, .int f] below meth c s.heap [] 0 0 (vx_MQ below (va_Qv (fun _ : Unit => ¬ hx_thr k f) (fun _ _ => True) (fun q => s.heap.size ≤ q)) (vx_X (fun _ : Unit => hx_thr k f) (fun E _ _ => E = hx_cx k) (fun q => s.heap.size ≤ q)) #[.int k, .int f] s 1 6 (fun q => s.heap.size ≤ q)) (F0 m 15 ls []) := by
    intro h
    refine vx_ret ?_
    refine W.widen (k := 1) (n := 6) (by omega) (by omega) ?_
    exact W.vret hx hb hr (fun t ht hW => ⟨⟨(), rfl, h, trivial⟩, hS.F ht⟩) hS.2.2 hx_d15
  refine lv_iload_n hx hb hx_d0 rfl (lv_at hl 0 rfl) ?_
  refine lv_iconst (v := 3) hx hb hx_d1 (by decide) ?_
  refine lv_icmp_eq (tgt := 15) hx hb hx_d2 (by decide) (fun h1 => out (fun q => q (Or.inl h1))) (fun h1 => ?_)
  refine lv_iload_n hx hb hx_d5 rfl (lv_at hl 0 rfl) ?_
  refine lv_bipush (v := 6) hx hb hx_d6 (by decide) ?_
  refine lv_icmp_eq (tgt := 15) hx hb hx_d8 (by decide) (fun h2 => out (fun q => q (Or.inr (Or.inl h2)))) (fun h2 => ?_)
  refine lv_iload_n hx hb hx_d11 rfl (lv_at hl 1 rfl) ?_
  refine lv_if_ne (tgt := 16) hx hb hx_d12 (by decide) (fun h3 => ?_) (fun h3 => out (fun q => q (Or.inr (Or.inr h3))))
  have hthr : hx_thr k f := fun q => q.elim h1 (fun q => q.elim h2 h3)
  refine lv_iload_n hx hb hx_d16 rfl (lv_at hl 0 rfl) ?_
  refine lv_iconst (v := 4) hx hb hx_d17 (by decide) ?_
  refine lv_icmp_ne (tgt := 31) hx hb hx_d18 (by decide) (fun h4 => ?_) (fun h4 => ?_)
  case' refine_2 =>
    have h4 : k = 4 := h4
    have hu := hx_use hx_Iu htb hN.1
    obtain ⟨a, ha⟩ := hN.1.2.2.1 ("HatsOfTheWind$Kinds", 11, "an aunt's hat") (by decide +kernel)
    refine vx_throwS (own := "HatsOfTheWind$Kinds") (cls := "java/lang/UnsupportedOperationException") (text := "an aunt's hat") (names := ["java/lang/RuntimeException", "java/lang/Exception"]) (ik := 9) (is := 11) (ic := 13) (sa := a) (A := fun q => s.heap.size ≤ q) hx hb hfl hown (by decide +kernel) (by decide +kernel) (hu _ List.mem_cons_self) (hu _ (List.mem_cons_of_mem _ List.mem_cons_self)) ha (fun w hw => hu w (List.mem_cons_of_mem _ (List.mem_cons_of_mem _ hw))) hx_Ou hN.2.1 hN.2.2 hS (hl.1.trans hml.symm) hx_d21 hx_d24 hx_d25 hx_d27 hx_d30 (fun x hx => (ht x hx).elim) (Nat.le_of_ble_eq_true rfl) (Nat.le_of_ble_eq_true rfl) (Nat.le_of_ble_eq_true rfl) (Nat.le_of_ble_eq_true rfl) hlocks (fun t _ hz hq => ⟨(), hthr, (if_pos h4).symm, ⟨hz, fun q h1 _ => hq q h1⟩⟩) (fun z hz => absurd hz List.not_mem_nil) (Nat.le_refl 1) (Nat.le_refl 6)
  refine lv_iload_n hx hb hx_d31 rfl (lv_at hl 0 rfl) ?_
  refine lv_iconst (v := 1) hx hb hx_d32 (by decide) ?_
  refine lv_icmp_ne (tgt := 46) hx hb hx_d33 (by decide) (fun h5 => ?_) (fun h5 => ?_)
  case' refine_2 =>
    have h5 : k = 1 := h5
    have hu := hx_use hx_Ii htb hN.1
    obtain ⟨a, ha⟩ := hN.1.2.2.1 ("HatsOfTheWind$Kinds", 18, "a pinned hat") (by decide +kernel)
    refine vx_throwS (own := "HatsOfTheWind$Kinds") (cls := "java/lang/IllegalArgumentException") (text := "a pinned hat") (names := ["java/lang/RuntimeException", "java/lang/Exception"]) (ik := 16) (is := 18) (ic := 20) (sa := a) (A := fun q => s.heap.size ≤ q) hx hb hfl hown (by decide +kernel) (by decide +kernel) (hu _ List.mem_cons_self) (hu _ (List.mem_cons_of_mem _ List.mem_cons_self)) ha (fun w hw => hu w (List.mem_cons_of_mem _ (List.mem_cons_of_mem _ hw))) hx_Oi hN.2.1 hN.2.2 hS (hl.1.trans hml.symm) hx_d36 hx_d39 hx_d40 hx_d42 hx_d45 (fun x hx => (ht x hx).elim) (Nat.le_of_ble_eq_true rfl) (Nat.le_of_ble_eq_true rfl) (Nat.le_of_ble_eq_true rfl) (Nat.le_of_ble_eq_true rfl) hlocks (fun t _ hz hq => ⟨(), hthr, ((if_neg h4).trans (if_pos h5)).symm, ⟨hz, fun q h1 _ => hq q h1⟩⟩) (fun z hz => absurd hz List.not_mem_nil) (Nat.le_refl 1) (Nat.le_refl 6)
  have hu := hx_use hx_Is htb hN.1
  obtain ⟨a, ha⟩ := hN.1.2.2.1 ("HatsOfTheWind$Kinds", 23, "a hat") (by decide +kernel)
  refine vx_throwS (own := "HatsOfTheWind$Kinds") (cls := "java/lang/IllegalStateException") (text := "a hat") (names := ["java/lang/RuntimeException", "java/lang/Exception"]) (ik := 21) (is := 23) (ic := 25) (sa := a) (A := fun q => s.heap.size ≤ q) hx hb hfl hown (by decide +kernel) (by decide +kernel) (hu _ List.mem_cons_self) (hu _ (List.mem_cons_of_mem _ List.mem_cons_self)) ha (fun w hw => hu w (List.mem_cons_of_mem _ (List.mem_cons_of_mem _ hw))) hx_Os hN.2.1 hN.2.2 hS (hl.1.trans hml.symm) hx_d46 hx_d49 hx_d50 hx_d52 hx_d55 (fun x hx => (ht x hx).elim) (Nat.le_of_ble_eq_true rfl) (Nat.le_of_ble_eq_true rfl) (Nat.le_of_ble_eq_true rfl) (Nat.le_of_ble_eq_true rfl) hlocks (fun t _ hz hq => ⟨(), hthr, ((if_neg h4).trans (if_neg h5)).symm, ⟨hz, fun q h1 _ => hq q h1⟩⟩) (fun z hz => absurd hz List.not_mem_nil) (Nat.le_refl 1) (Nat.le_refl 6)
theorem hx_e0 : decode prog_1_method_72_code 0 = .ok (.iload_n 0, 1) := by decide +kernel
theorem hx_e1 : decode prog_1_method_72_code 1 = .ok (.iload_n 1, 1) := by decide +kernel
theorem hx_e2 : decode prog_1_method_72_code 2 = .ok (.invokestatic 344, 3) := by decide +kernel
theorem hx_e5 : decode prog_1_method_72_code 5 = .ok (.goto 23, 3) := by decide +kernel
theorem hx_e8 : decode prog_1_method_72_code 8 = .ok (.astore_n 2, 1) := by decide +kernel
theorem hx_e9 : decode prog_1_method_72_code 9 = .ok (.sipush 200, 3) := by decide +kernel
theorem hx_e12 : decode prog_1_method_72_code 12 = .ok (.iload_n 0, 1) := by decide +kernel
theorem hx_e13 : decode prog_1_method_72_code 13 = .ok (.iload_n 1, 1) := by decide +kernel
theorem hx_e14 : decode prog_1_method_72_code 14 = .ok (.invokestatic 87, 3) := by decide +kernel
theorem hx_e17 : decode prog_1_method_72_code 17 = .ok (.iadd, 1) := by decide +kernel
theorem hx_e18 : decode prog_1_method_72_code 18 = .ok (.ireturn, 1) := by decide +kernel
theorem hx_e19 : decode prog_1_method_72_code 19 = .ok (.astore_n 2, 1) := by decide +kernel
theorem hx_e20 : decode prog_1_method_72_code 20 = .ok (.bipush 100, 2) := by decide +kernel
theorem hx_e22 : decode prog_1_method_72_code 22 = .ok (.iload_n 1, 1) := by decide +kernel
theorem hx_e23 : decode prog_1_method_72_code 23 = .ok (.iadd, 1) := by decide +kernel
theorem hx_e24 : decode prog_1_method_72_code 24 = .ok (.ireturn, 1) := by decide +kernel
theorem hx_e25 : decode prog_1_method_72_code 25 = .ok (.astore_n 2, 1) := by decide +kernel
theorem hx_e26 : decode prog_1_method_72_code 26 = .ok (.iload_n 1, 1) := by decide +kernel
theorem hx_e27 : decode prog_1_method_72_code 27 = .ok (.ireturn, 1) := by decide +kernel
theorem hx_e28 : decode prog_1_method_72_code 28 = .ok (.bipush (-15), 2) := by decide +kernel
theorem hx_e30 : decode prog_1_method_72_code 30 = .ok (.ireturn, 1) := by decide +kernel
abbrev hx_hh : List (Nat × Nat × Nat × Nat) := [(0, 5, 8, 347), (0, 5, 19, 297), (0, 5, 25, 307)]
def hx_ext0 (x : Nat) (_ : List Value) (_ : hzMem) : Option (Option (Option Value × hzMem)) := if x = 69 ∨ x = 214 ∨ x = 215 then some none else none
theorem hx_69 : hzM.zipIdx.all (fun q => decide (q.1.2.2.2.2.2.2.2.2.1 ≠ 0) == decide (¬ (q.2 = 69 ∨ q.2 = 214 ∨ q.2 = 215))) = true := by decide +kernel
theorem hx_iff {x : Nat} {q : hzN} (h : hzM[x]? = some q) : (¬ (x = 69 ∨ x = 214 ∨ x = 215)) ↔ q.2.2.2.2.2.2.2.2.1 ≠ 0 := by
  have h1 := List.all_eq_true.mp hx_69 (q, x) (List.mem_zipIdx_iff_getElem?.mpr h)
  have h2 := eq_of_beq h1
  rw [decide_eq_decide] at h2
  exact h2.symm
theorem hx_hn {x : Nat} {As : List Value} {M : hzMem} {q : hzN} (h : hzM[x]? = some q) : hx_ext0 x As M = none ↔ q.2.2.2.2.2.2.2.2.1 ≠ 0 := by
  rw [← hx_iff h]
  unfold hx_ext0
  split
  · rename_i h2
    exact ⟨fun z => (by cases z), fun z => absurd h2 z⟩
  · rename_i h2
    exact ⟨fun _ => h2, fun _ => rfl⟩
theorem hx_snd0 {l : Launch} {D : va_G} {ad : Nat → Nat} {t0 t1 t2 : ClassId} {n k pc : Nat} {L : List (Option Value)} {st : List Value} {M : hzMem} {b : Nat} {rv : Option Value} {M' : hzMem} (h : hz_run hx_ext0 n k pc L st M b = some (rv, M')) : hz_Snd l D ad t0 t1 t2 k pc L st M b rv M' :=
  hz_sound hx_ext0 hz_okW_all hz_okM_all (fun x As M z zb zn zr rc f lx cs hh hz => hx_hn hz) (fun x As M rv M' h => by
    unfold hx_ext0 at h
    split at h <;> cases h) n k pc L st M b rv M' h
/-- what an aunt's hat is worth -/
theorem hx_w4 (f : Int32) (M : hzMem) : hz_run hx_ext0 30 169 0 (hz_ent 3 [.int 4, .int f]) [] M 0 = some (some (.int 6), M) := rfl
def hx_r (k f : Int32) : Int32 := if k = 3 ∨ k = 6 ∨ f = 0 then -15 else if k = 4 then 206 else if k = 1 then 100 + f else f
set_option maxHeartbeats 4000000 in
set_option maxRecDepth 100000 in
theorem hx_fcM {l : Launch} (hfl : l.stackTraces = false) {D : va_G} {ad : Nat → Nat} {t0 t1 t2 : ClassId} (k f : Int32) (M : hzMem) (sz : Nat) : vx_Met l hzy_69 (.codeWith hzy_69 prog_1_method_72_code 3 (some .int) hx_hh :: hzTB) ({ frames := 8, cells := 1, slots := 16, locals := 260 }) (hz_Pc D ad (hz_tys t0 t1 t2) [.int k, .int f] M sz) (hz_Qc D ad (hz_tys t0 t1 t2) M sz (some (.int (hx_r k f))) M) (fun _ _ _ => False) 1 16 (va_A (hz_wl ad (hz_tys t0 t1 t2) M) sz) := by
  refine vx_ofWH (by decide) rfl ?_
  intro p e s m args below meth c s₁ B hml hv
  obtain ⟨rfl, hsz, hP, hK, hD0, hN⟩ := hv
  have hx := B.exec
  have hb := B.bytes
  have hr := B.returns
  have hts := atoms_spec (ws := .codeWith hzy_69 prog_1_method_72_code 3 (some .int) hx_hh :: hzTB) B.pre
  have htb : ∀ w ∈ hzTB, w.before _ s = true := fun w hw => hts w (List.mem_cons_of_mem _ hw)
  have hown : s.vm.findClass "HatsOfTheWind" = some m.cls := findClass_of_methodNamed B.named
  have hlocks := B.notSynchronized
  have htab := vx_table (x := hzy_69) B (hts _ List.mem_cons_self)
  subst hsz
  have hD := hD0.self (sz := s.heap.size)
  generalize hAe : va_A (hz_wl ad (hz_tys t0 t1 t2) M) s.heap.size = A at hD hN ⊢
  have hA : ∀ q : Nat, s.heap.size ≤ q → A q := fun q h => by rw [← hAe]; exact Or.inr h
  have hS : va_S A s.heap s.heap [] := va_S.rf
  have hl := lv_entry ([.int k, .int f]) (n := 3) (Nat.le_of_ble_eq_true rfl)
  rw [lg_entry_eq]
  generalize hls : (lg_sl (List.map (hz_eV ad) [.int k, .int f]) ++ List.replicate (3 - (lg_sl (List.map (hz_eV ad) [.int k, .int f])).length) Slot.unset).toArray = ls
  rw [show (lg_sl ([.int k, .int f]) ++ List.replicate (3 - (lg_sl ([.int k, .int f])).length) Slot.unset).toArray = ls from hls] at hl
  have hl : lv_has ls 3 [(0, .int k), (1, .int f)] := hl
  show W p l e ({ frames := 8, cells := 1, slots := 16, locals := 260 } : Room) _ _ _ _ _ _ _ _ _ _ _ _
  refine lv_iload_n hx hb hx_e0 rfl (lv_at hl 0 rfl) ?_
  refine lv_iload_n hx hb hx_e1 rfl (lv_at hl 1 rfl) ?_
  have ret : ∀ (H1 : Heap) (locs1 : List Loc) (ls1 : Array Slot) (pc : Nat) (cl sl : Nat) (v : Int32), v = hx_r k f → cl ≤ 1 → sl ≤ 16 → (∀ q : Nat, q < s.heap.size → H1[q]? = s.heap[q]?) → va_S A s.heap H1 locs1 → decode prog_1_method_72_code pc = .ok (.ireturn, 1) → W p l e ({ frames := 8, cells := 1, slots := 16, locals := 260 } : Room) s m (List.map (hz_eV ad) [.int k, .int f]).toArray below meth c H1 locs1 cl sl (vx_MQ below (hz_Qc D ad (hz_tys t0 t1 t2) M s.heap.size (some (.int (hx_r k f))) M) (fun _ _ _ => False) (List.map (hz_eV ad) [.int k, .int f]).toArray s 1 16 A) (F0 m pc ls1 [.int v]) := by
    intro H1 locs1 ls1 pc cl sl v hv h1 h2 hq hS1 hd
    refine vx_ret ?_
    refine W.widen (k := 1) (n := 16) h1 h2 ?_
    have hP1 : va_P D hzCl (hz_wl ad (hz_tys t0 t1 t2) M) H1 := hP.kept (fun j q hj => hq q.1 (vx_lt hP hj))
    subst hv
    refine W.iret (v := hx_r k f) hx hb hr (fun t ht hW => ?_) hS1.2.2 hd
    subst hAe
    exact ⟨⟨rfl, by rw [ht]; exact hP1, va_K.moved hW.alike hK, hD⟩, hS1.F ht⟩
  have hNf : ∀ U : State, U.heap = s.heap → s.WarmedH U.vm → hz_NS (fun q => s.heap.size ≤ q) U.heap U := by
    intro U hU hw
    rw [hU]
    exact ⟨hz_VS_warm hw hN.1, vx_Zq.moved hw.alike (vx_Zq.narrow hN.2.1 hA), vx_Zq.moved hw.alike (vx_Zq.narrow hN.2.2 hA)⟩
  have hgood : GoodIn hzTB (hz_ws hx_fail prog_2_method_5_code 2 none) := hz_good _ _ _ _ (hx_tb 686 rfl (by decide +kernel))
  have gIn : GoodIn (Cond.codeWith hzy_69 prog_1_method_72_code 3 (some .int) hx_hh :: hzTB) (hz_ws hx_fail prog_2_method_5_code 2 none) := fun w hw => ⟨List.mem_cons_of_mem _ (hgood w hw).1, (hgood w hw).2⟩
  refine vx_callv (vx_runS (As := [.int k, .int f]) (rest := []) ⟨hx, hb, hml, hown, hts⟩ (hx_failM hfl k f s.heap.size) ⟨callB_of 2 hts gIn rfl rfl rfl (htb _ (hx_tb 45 rfl (by decide +kernel))) (htb _ (hx_tb 684 rfl (by decide +kernel))) ⟨by decide, by decide, by decide +kernel⟩ ⟨Nat.le_of_ble_eq_true rfl, Nat.le_of_ble_eq_true rfl⟩, htb _ (hx_tb 685 rfl (by decide +kernel))⟩ ⟨hx_bl k f _, fun U hU hw => ⟨rfl, by rw [hU], hNf U hU hw⟩⟩ rfl rfl hl.1 rfl (lv_room (Nat.le_of_ble_eq_true rfl)) hx_e2 ⟨Nat.le_of_ble_eq_true rfl, Nat.le_of_ble_eq_true rfl⟩) hS (fun q _ h => hA q h) hA (fun q _ h => hA q h) (fun E ce q9 u t H1 locs1 ht hal hthr hE hsz1 hkeep hS1 hce hcv hcl => ?_) (fun u t H1 locs1 ht hal hthr _ hsz1 hkeep hS1 => ?_)
  case' refine_2 =>
    refine lv_goto (tgt := 28) hx hb hx_e5 (by decide) ?_
    refine lv_bipush (v := -15) hx hb hx_e28 (by decide) ?_
    have e : hx_r k f = -15 := if_pos (Decidable.not_not.mp hthr)
    exact ret H1 locs1 ls 30 1 6 _ e.symm (Nat.le_refl 1) (Nat.le_of_ble_eq_true rfl) (fun q hq => hkeep q hq (Nat.not_le.mpr hq)) hS1 hx_e30
  have hq : ∀ q : Nat, q < s.heap.size → H1[q]? = s.heap[q]? := fun q hq => hkeep q hq (Nat.not_le.mpr hq)
  have l1 : (Cond.classLink "HatsOfTheWind" 347 "java/lang/UnsupportedOperationException").before (List.map (hz_eV ad) [.int k, .int f]).toArray s = true := htb _ (hx_tb 681 rfl (by decide +kernel))
  have l2 : (Cond.classLink "HatsOfTheWind" 297 "java/lang/IllegalArgumentException").before (List.map (hz_eV ad) [.int k, .int f]).toArray s = true := htb _ (hx_tb 682 rfl (by decide +kernel))
  have l3 : (Cond.classLink "HatsOfTheWind" 307 "java/lang/IllegalStateException").before (List.map (hz_eV ad) [.int k, .int f]).toArray s = true := htb _ (hx_tb 683 rfl (by decide +kernel))
  have hne : ¬ (k = 3 ∨ k = 6 ∨ f = 0) := hthr
  by_cases h4 : k = 4
  · have hE : E = "java/lang/UnsupportedOperationException" := by rw [hE]; exact if_pos h4
    subst hE
    refine vx_catch (own := "HatsOfTheWind") (name := "java/lang/UnsupportedOperationException") hown [] ⟨0, 5, 8, 347⟩ [⟨0, 5, 19, 297⟩, ⟨0, 5, 25, 307⟩] (htab.trans rfl) (fun z hz => absurd hz List.not_mem_nil) (by decide) (by decide) l1 (va_Nw.use (hz_OW_on (hx_ow 689 rfl rfl)) (hN.1.2.1 _ (hx_ow 689 rfl rfl))) hce hcv hcl ?_
    refine lv_astore_n (lv' := [(2, .ref q9), (0, .int k), (1, .int f)]) hx hb hx_e8 rfl hl (by decide) rfl (fun ls hl => ?_)
    refine lv_sipush (v := 200) hx hb hx_e9 (by decide) ?_
    refine lv_iload_n hx hb hx_e12 rfl (lv_at hl 1 rfl) ?_
    refine lv_iload_n hx hb hx_e13 rfl (lv_at hl 2 rfl) ?_
    subst h4
    have hworth := hx_snd0 (l := l) (D := D) (ad := ad) (t0 := t0) (t1 := t1) (t2 := t2) (hx_w4 f M)
    have hPw : va_P D hzCl (hz_wl ad (hz_tys t0 t1 t2) M) H1 := hP.kept (fun j q hj => hq q.1 (vx_lt hP hj))
    have hWo : hz_Wo D ad (hz_tys t0 t1 t2) A s.heap M H1 locs1 := ⟨hPw, hD, hS1⟩
    have hmet := hz_met (k := 169) H1.size rfl (hz_okW_all 169 (by decide +kernel)) (by decide +kernel) (Nat.le_of_ble_eq_true rfl) hworth
    have hgoodw : GoodIn hzTB (hz_ws hzy_169 prog_2_method_4_code 3 (some .int)) := hz_good _ _ _ _ (hx_tb 346 rfl (by decide +kernel))
    have gInw : GoodIn (Cond.codeWith hzy_69 prog_1_method_72_code 3 (some .int) hx_hh :: hzTB) (hz_ws hzy_169 prog_2_method_4_code 3 (some .int)) := fun w hw => ⟨List.mem_cons_of_mem _ (hgoodw w hw).1, (hgoodw w hw).2⟩
    refine hz_back (va_runS (As := [.int 4, .int f]) (rest := [.int 200]) ⟨hx, hb, hml, hown, hts⟩ hmet ⟨callB_of 2 hts gInw rfl rfl rfl (htb _ (hx_tb 45 rfl (by decide +kernel))) (htb _ (hx_tb 344 rfl (by decide +kernel))) ⟨by decide, by decide, by decide +kernel⟩ ⟨Nat.le_of_ble_eq_true rfl, Nat.le_of_ble_eq_true rfl⟩, htb _ (hx_tb 345 rfl (by decide +kernel))⟩ ⟨hz_blind _ _ _, fun U hU hw => ⟨rfl, by rw [hU], by rw [hU]; exact hPw, va_K.moved hw.alike hK, hD.weaken (fun _ _ _ _ => trivial), hz_NS_call hN hWo hA hU hw⟩⟩ rfl rfl hl.1 rfl (lv_room (Nat.le_of_ble_eq_true rfl)) hx_e14 ⟨Nat.le_of_ble_eq_true rfl, Nat.le_of_ble_eq_true rfl⟩) hWo hA (fun H2 locs2 hW2 => ?_)
    show W _ _ _ _ _ _ _ _ _ _ _ _ _ _ _ (F0 m 17 ls [.int 6, .int 200])
    refine lv_iadd hx hb hx_e17 ?_
    have e : hx_r 4 f = 200 + 6 := (if_neg hne).trans ((if_pos rfl).trans rfl)
    refine vx_ret ?_
    refine W.widen (k := 1) (n := 16) (Nat.le_of_ble_eq_true rfl) (Nat.le_of_ble_eq_true rfl) ?_
    refine W.iret (v := 200 + 6) hx hb hr (fun t ht hW => ?_) hW2.2.2.2.2 hx_e18
    subst hAe
    rw [e]
    exact ⟨⟨rfl, by rw [ht]; exact hW2.1, va_K.moved hW.alike hK, hW2.2.1⟩, hW2.2.2.F ht⟩
  by_cases h5 : k = 1
  · have hE : E = "java/lang/IllegalArgumentException" := by rw [hE]; exact (if_neg h4).trans (if_pos h5)
    subst hE
    refine vx_catch (own := "HatsOfTheWind") (name := "java/lang/IllegalArgumentException") hown [⟨0, 5, 8, 347⟩] ⟨0, 5, 19, 297⟩ [⟨0, 5, 25, 307⟩] (htab.trans rfl) (fun z hz => ?_) (by decide) (by decide) l2 (va_Nw.use (hz_OW_on (hx_ow 757 rfl rfl)) (hN.1.2.1 _ (hx_ow 757 rfl rfl))) hce hcv hcl ?_
    · cases List.mem_singleton.mp hz
      exact Or.inr ⟨by decide, _, l1, hN.1.2.2.2 (_, _) (by decide +kernel)⟩
    refine lv_astore_n (lv' := [(2, .ref q9), (0, .int k), (1, .int f)]) hx hb hx_e19 rfl hl (by decide) rfl (fun ls hl => ?_)
    refine lv_bipush (v := 100) hx hb hx_e20 (by decide) ?_
    refine lv_iload_n hx hb hx_e22 rfl (lv_at hl 2 rfl) ?_
    refine lv_iadd hx hb hx_e23 ?_
    have e : hx_r k f = 100 + f := (if_neg hne).trans ((if_neg h4).trans (if_pos h5))
    exact ret H1 locs1 ls 24 1 6 _ e.symm (Nat.le_refl 1) (Nat.le_of_ble_eq_true rfl) hq hS1 hx_e24
  · have hE : E = "java/lang/IllegalStateException" := by rw [hE]; exact (if_neg h4).trans (if_neg h5)
    subst hE
    refine vx_catch (own := "HatsOfTheWind") (name := "java/lang/IllegalStateException") hown [⟨0, 5, 8, 347⟩, ⟨0, 5, 19, 297⟩] ⟨0, 5, 25, 307⟩ [] (htab.trans rfl) (fun z hz => ?_) (by decide) (by decide) l3 (va_Nw.use (hz_OW_on (hx_ow 773 rfl rfl)) (hN.1.2.1 _ (hx_ow 773 rfl rfl))) hce hcv hcl ?_
    · rcases List.mem_cons.mp hz with rfl | hz
      · exact Or.inr ⟨by decide, _, l1, hN.1.2.2.2 (_, _) (by decide +kernel)⟩
      · cases List.mem_singleton.mp hz
        exact Or.inr ⟨by decide, _, l2, hN.1.2.2.2 (_, _) (by decide +kernel)⟩
    refine lv_astore_n (lv' := [(2, .ref q9), (0, .int k), (1, .int f)]) hx hb hx_e25 rfl hl (by decide) rfl (fun ls hl => ?_)
    refine lv_iload_n hx hb hx_e26 rfl (lv_at hl 2 rfl) ?_
    have e : hx_r k f = f := (if_neg hne).trans ((if_neg h4).trans (if_neg h5))
    exact ret H1 locs1 ls 27 1 6 _ e.symm (Nat.le_refl 1) (Nat.le_of_ble_eq_true rfl) hq hS1 hx_e27
