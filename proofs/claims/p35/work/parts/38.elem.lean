/-! BY HAND: HatsOfTheWind.element, and the law's element -/
def hx_Mi : List Jvm.Cond := .classLink "HatsOfTheWind" 297 "java/lang/IllegalArgumentException" :: .initialized "java/lang/IllegalArgumentException" :: vx_atS "HatsOfTheWind" 301 "java/lang/IllegalArgumentException" ["java/lang/RuntimeException", "java/lang/Exception"]
theorem hx_Ji : ∀ w ∈ hx_Mi, w ∈ hzTB ∨ w ∈ hzOW := hx_in [682, 51, 48, 709, 718, 722, 725, 727, 710, 711, 60, 61, 712, 717, 723, 743, 699, 744, 701, 745, 703, 713, 715, 705, 739, 740, 742, 705, 766, 767, 768, 733, 691, 733, 734, 735, 736, 693, 736, 737, 738, 739, 695, 797, 756, 757, 758, 720, 759, 760, 761, 762, 708, 707, 763] (by decide +kernel) (by decide +kernel)
theorem hx_Pi : ∀ w ∈ hx_Mi, vx_ot w = true := List.all_eq_true.mp (by decide +kernel)
def hx_Ms : List Jvm.Cond := .classLink "HatsOfTheWind" 307 "java/lang/IllegalStateException" :: .initialized "java/lang/IllegalStateException" :: vx_atS "HatsOfTheWind" 311 "java/lang/IllegalStateException" ["java/lang/RuntimeException", "java/lang/Exception"]
theorem hx_Js : ∀ w ∈ hx_Ms, w ∈ hzTB ∨ w ∈ hzOW := hx_in [683, 52, 48, 709, 718, 722, 725, 727, 710, 711, 60, 61, 712, 717, 723, 743, 699, 744, 701, 745, 703, 713, 715, 705, 739, 740, 742, 705, 782, 783, 784, 733, 691, 733, 734, 735, 736, 693, 736, 737, 738, 739, 695, 799, 772, 773, 774, 721, 775, 776, 777, 778, 708, 707, 779] (by decide +kernel) (by decide +kernel)
theorem hx_Ps : ∀ w ∈ hx_Ms, vx_ot w = true := List.all_eq_true.mp (by decide +kernel)
theorem hx_f0 : decode prog_1_method_43_code 0 = .ok (.iload_n 1, 1) := by decide +kernel
theorem hx_f1 : decode prog_1_method_43_code 1 = .ok (.invokestatic 273, 3) := by decide +kernel
theorem hx_f4 : decode prog_1_method_43_code 4 = .ok (.ifCond .ne 14, 3) := by decide +kernel
theorem hx_f7 : decode prog_1_method_43_code 7 = .ok (.new 297, 3) := by decide +kernel
theorem hx_f10 : decode prog_1_method_43_code 10 = .ok (.dup, 1) := by decide +kernel
theorem hx_f11 : decode prog_1_method_43_code 11 = .ok (.ldc_w 299, 3) := by decide +kernel
theorem hx_f14 : decode prog_1_method_43_code 14 = .ok (.invokespecial 301, 3) := by decide +kernel
theorem hx_f17 : decode prog_1_method_43_code 17 = .ok (.athrow, 1) := by decide +kernel
theorem hx_f18 : decode prog_1_method_43_code 18 = .ok (.aload_n 0, 1) := by decide +kernel
theorem hx_f19 : decode prog_1_method_43_code 19 = .ok (.getfield 28, 3) := by decide +kernel
theorem hx_f22 : decode prog_1_method_43_code 22 = .ok (.iload_n 1, 1) := by decide +kernel
theorem hx_f23 : decode prog_1_method_43_code 23 = .ok (.aaload, 1) := by decide +kernel
theorem hx_f24 : decode prog_1_method_43_code 24 = .ok (.astore_n 3, 1) := by decide +kernel
theorem hx_f25 : decode prog_1_method_43_code 25 = .ok (.aload_n 3, 1) := by decide +kernel
theorem hx_f26 : decode prog_1_method_43_code 26 = .ok (.getfield 304, 3) := by decide +kernel
theorem hx_f29 : decode prog_1_method_43_code 29 = .ok (.iconst 2, 1) := by decide +kernel
theorem hx_f30 : decode prog_1_method_43_code 30 = .ok (.if_icmp .eq 14, 3) := by decide +kernel
theorem hx_f33 : decode prog_1_method_43_code 33 = .ok (.new 307, 3) := by decide +kernel
theorem hx_f36 : decode prog_1_method_43_code 36 = .ok (.dup, 1) := by decide +kernel
theorem hx_f37 : decode prog_1_method_43_code 37 = .ok (.ldc_w 309, 3) := by decide +kernel
theorem hx_f40 : decode prog_1_method_43_code 40 = .ok (.invokespecial 311, 3) := by decide +kernel
theorem hx_f43 : decode prog_1_method_43_code 43 = .ok (.athrow, 1) := by decide +kernel
theorem hx_f44 : decode prog_1_method_43_code 44 = .ok (.aload_n 3, 1) := by decide +kernel
theorem hx_f45 : decode prog_1_method_43_code 45 = .ok (.iload_n 2, 1) := by decide +kernel
theorem hx_f46 : decode prog_1_method_43_code 46 = .ok (.invokevirtual 291, 3) := by decide +kernel
theorem hx_f49 : decode prog_1_method_43_code 49 = .ok (.ifCond .ne 14, 3) := by decide +kernel
theorem hx_f52 : decode prog_1_method_43_code 52 = .ok (.new 307, 3) := by decide +kernel
theorem hx_f55 : decode prog_1_method_43_code 55 = .ok (.dup, 1) := by decide +kernel
theorem hx_f56 : decode prog_1_method_43_code 56 = .ok (.ldc_w 312, 3) := by decide +kernel
theorem hx_f59 : decode prog_1_method_43_code 59 = .ok (.invokespecial 311, 3) := by decide +kernel
theorem hx_f62 : decode prog_1_method_43_code 62 = .ok (.athrow, 1) := by decide +kernel
theorem hx_f63 : decode prog_1_method_43_code 63 = .ok (.aload_n 3, 1) := by decide +kernel
theorem hx_f64 : decode prog_1_method_43_code 64 = .ok (.getfield 249, 3) := by decide +kernel
theorem hx_f67 : decode prog_1_method_43_code 67 = .ok (.iload_n 2, 1) := by decide +kernel
theorem hx_f68 : decode prog_1_method_43_code 68 = .ok (.iaload, 1) := by decide +kernel
theorem hx_f69 : decode prog_1_method_43_code 69 = .ok (.i2l, 1) := by decide +kernel
theorem hx_f70 : decode prog_1_method_43_code 70 = .ok (.lreturn, 1) := by decide +kernel
theorem hx_g0 : decode method_3_code 0 = .ok (.aload_n 3, 1) := by decide +kernel
theorem hx_g1 : decode method_3_code 1 = .ok (.iconst 0, 1) := by decide +kernel
theorem hx_g2 : decode method_3_code 2 = .ok (.aload_n 0, 1) := by decide +kernel
theorem hx_g3 : decode method_3_code 3 = .ok (.iload_n 1, 1) := by decide +kernel
theorem hx_g4 : decode method_3_code 4 = .ok (.iload_n 2, 1) := by decide +kernel
theorem hx_g5 : decode method_3_code 5 = .ok (.invokevirtual 7, 3) := by decide +kernel
theorem hx_g8 : decode method_3_code 8 = .ok (.lastore, 1) := by decide +kernel
theorem hx_g9 : decode method_3_code 9 = .ok (.goto 11, 3) := by decide +kernel
theorem hx_g12 : decode method_3_code 12 = .ok (.astore 4, 2) := by decide +kernel
theorem hx_g14 : decode method_3_code 14 = .ok (.iconst 1, 1) := by decide +kernel
theorem hx_g15 : decode method_3_code 15 = .ok (.ireturn, 1) := by decide +kernel
theorem hx_g16 : decode method_3_code 16 = .ok (.astore 4, 2) := by decide +kernel
theorem hx_g18 : decode method_3_code 18 = .ok (.iconst 2, 1) := by decide +kernel
theorem hx_g19 : decode method_3_code 19 = .ok (.ireturn, 1) := by decide +kernel
theorem hx_g20 : decode method_3_code 20 = .ok (.iconst 0, 1) := by decide +kernel
theorem hx_g21 : decode method_3_code 21 = .ok (.ireturn, 1) := by decide +kernel
section HN
variable {ext : Nat → List Value → hzMem → Option (Option (Option Value × hzMem))}
set_option maxRecDepth 10000 in
theorem hm_is173 (hn : hm_no ext) {A : Nat} {vs : List Value} {z : Int32} {M : hzMem} (hM : M[A]? = some (.inr (0, vs))) (h4 : vs[4]? = some (.int z)) (i : Int32) : ∃ m v, ha_C ext m 173 [.ref A, .int i] M 2 0 = some (some (.int v), M) ∧ (v = Int32.ofInt 1 ∧ 0 ≤ i.toInt ∧ i.toInt < z.toInt ∨ v = Int32.ofInt 0) := by
  have key : ha_RT ext 173 0 [some (.ref A), some (.int i)] [] M 0 (fun rv M' => M' = M ∧ ∃ v : Int32, rv = some (.int v) ∧ (v = Int32.ofInt 1 ∧ 0 ≤ i.toInt ∧ i.toInt < z.toInt ∨ v = Int32.ofInt 0)) := by
    have no : ha_RT ext 173 16 [some (.ref A), some (.int i)] [] M 0 (fun rv M' => M' = M ∧ ∃ v : Int32, rv = some (.int v) ∧ (v = Int32.ofInt 1 ∧ 0 ≤ i.toInt ∧ i.toInt < z.toInt ∨ v = Int32.ofInt 0)) := by
      refine ha_RT_sN [17] (pc' := 17) (L' := [some (.ref A), some (.int i)]) (st' := [.int (Int32.ofInt 0)]) rfl rfl ?_
      exact ha_RT_ret (rv := some (.int (Int32.ofInt 0))) rfl rfl rfl rfl ⟨rfl, _, rfl, Or.inr rfl⟩
    refine ha_RT_sN [1] (pc' := 1) (L' := [some (.ref A), some (.int i)]) (st' := [.int i]) rfl rfl ?_
    refine ha_RT_if rfl (fun _ => no) (fun h1 => ?_)
    show ha_RT ext 173 4 _ _ _ _ _
    refine ha_RT_sN [5, 6] (pc' := 6) (L' := [some (.ref A), some (.int i)]) (st' := [.ref A, .int i]) rfl rfl ?_
    refine ha_RT_mem rfl rfl (hm_rd hM h4 _ _) ?_
    show ha_RT ext 173 9 _ _ _ _ _
    refine ha_RT_ic rfl (fun _ => no) (fun h3 => ?_)
    show ha_RT ext 173 12 _ _ _ _ _
    refine ha_RT_sN [13, 17] (pc' := 17) (L' := [some (.ref A), some (.int i)]) (st' := [.int (Int32.ofInt 1)]) rfl rfl ?_
    simp only [hz_cmp, decide_eq_false_iff_not, Int32.lt_iff_toInt_lt, Int32.le_iff_toInt_le, show (0 : Int32).toInt = 0 from rfl] at h1 h3
    exact ha_RT_ret (rv := some (.int (Int32.ofInt 1))) rfl rfl rfl rfl ⟨rfl, _, rfl, Or.inl ⟨rfl, by omega, by omega⟩⟩
  obtain ⟨n, rv, M', h1, rfl, v, rfl, hv⟩ := key
  exact ⟨n, v, hm_toC hn (q := hzq_173) rfl (by decide) h1, hv⟩
end HN
section HO
variable {p : Program} {l : Launch} {e : Env} {R : Room} {s : State} {m : MethodId} {args : Array Value} {below : List Frame} {meth : Method} {c : Code} {H : Heap} {locs : List Loc} {cells slots : Nat} {Q : State → Prop} {cc : ByteArray} {pc nL : Nat} {ls : Array Slot} {ad : Nat → Nat} {own : String} {D : va_G} {A : Nat → Prop} {H0 : Heap} {t0 t1 t2 : ClassId}
/-- a static call, of a method that the pure machine runs, out of a body that is walked by hand -/
theorem hx_cS (hfl : l.stackTraces = false) (hx : p.tables.exec = Jvm.exec) (hb : c.code = cc) (hml : c.maxLocals = nL) (hls : ls.size = nL) (hown : s.vm.findClass own = some m.cls) (hts : ∀ w ∈ hzTB, w.before args s = true) (hN : hz_NS A H0 s) (hK : va_K D hzCl (hz_tys t0 t1 t2) s) {M : hzMem} (hW : hz_Wo D ad (hz_tys t0 t1 t2) A H0 M H locs) (hA : ∀ q, H0.size ≤ q → A q)
    {x j : Nat} {z : MethodName} {zb : ByteArray} {zn : Nat} {zr : Option FieldType} {zf zl zs : Nat} {zh : Nat × Nat × Nat × Nat × Nat} (hz : hzM[x]? = some (z, zb, zn, zr, 99, zf, zl, zs, zh)) (hzn : zh.1 ≠ 0) (hlk : Jvm.Cond.methodLink own j z ∈ hzTB) (hd : decode cc pc = .ok (.invokestatic j, 3)) (hR : zf + 1 ≤ R.frames ∧ 8 + (zn + 11) + zl ≤ R.locals) (hroom : cells + zs ≤ R.cells ∧ slots + hzSL * zs ≤ R.slots)
    {As rest : List Value} (hlen : As.length = zh.2.2.2.2) (hsum : (rest.map fun v => v.category).sum ≤ 8) (hlay : (hz_lay As).length ≤ zn) {fu : Nat} {rv : Option Value} {M1 : hzMem} (hrun : hz_run hx_ext fu x 0 (hz_ent zn As) [] M zs = some (rv, M1))
    (kk : ∀ (H1 : Heap) (locs1 : List Loc), hz_Wo D ad (hz_tys t0 t1 t2) A H0 M1 H1 locs1 → W p l e R s m args below meth c H1 locs1 (cells + zs) (slots + hzSL * zs) Q (F0 m (pc + 3) ls ((rv.map (hz_eV ad)).toList ++ rest))) : W p l e R s m args below meth c H locs cells slots Q (F0 m pc ls ((As.map (hz_eV ad)).reverse ++ rest)) := by
  have hxl : x < hzM.length := (List.getElem?_eq_some_iff.mp hz).1
  obtain ⟨zh1, zh2, zh3, zh4, zh5⟩ := zh
  obtain ⟨k1, k2, k3, kp, k9, kw⟩ := hz_okM_all x hxl _ _ _ _ _ _ _ _ _ _ _ _ _ hz hzn
  have kw : hz_wds ((zh4, .initialized z.cls) :: (zh1, .code z zb zn zr) :: [(zh2, .static z)]) := by
    have := kw
    unfold hz_ndM at this
    simp only [if_neg (show ¬ zh1 = 0 from hzn), if_pos] at this
    exact this
  have k4 := hz_wds_good kw (q := (zh4, .initialized z.cls)) (by simp) rfl
  have hcode := hz_wds_good kw (q := (zh1, .code z zb zn zr)) (by simp) rfl
  have k5 := hz_wds_good kw (q := (zh2, .static z)) (by simp) rfl
  have hmet := hz_met (M' := M1) (rv := rv) H.size hz (hz_okW_all x hxl) k1 hlay (hx_sound hfl (D := D) (ad := ad) (t0 := t0) (t1 := t1) (t2 := t2) hrun)
  have hpre : PreS s H (hz_Pc D ad (hz_tys t0 t1 t2) As M H.size) (As.map (hz_eV ad)) :=
    ⟨hz_blind _ _ _, fun U hU hwm => ⟨rfl, by rw [hU], by rw [hU]; exact hW.1, va_K.moved hwm.alike hK, hW.2.1.weaken (fun _ _ _ _ => trivial), hz_NS_call hN hW hA hU hwm⟩⟩
  have hgood := hz_good z zb zn zr hcode
  have hdd : z.cls ≠ "java/lang/invoke/MethodHandle" ∧ z.cls ≠ "java/lang/invoke/VarHandle" ∧ (parseMethodDescriptor z.desc).map (fun d => d.parameters.length) = some As.length := ⟨k2, k3, by rw [kp]; exact congrArg some hlen.symm⟩
  exact hz_back (va_runS ⟨hx, hb, hml, hown, hts⟩ hmet ⟨callB_of As.length hts hgood rfl rfl rfl (hts _ k4) (hts _ hlk) hdd hR, hts _ k5⟩ hpre rfl (by rw [List.length_map]) hls rfl (lv_room hsum) hd hroom) hW hA kk
/-- a call on an object -/
theorem hx_cV (hfl : l.stackTraces = false) (hx : p.tables.exec = Jvm.exec) (hb : c.code = cc) (hml : c.maxLocals = nL) (hls : ls.size = nL) (hown : s.vm.findClass own = some m.cls) (hts : ∀ w ∈ hzTB, w.before args s = true) (hN : hz_NS A H0 s) (hK : va_K D hzCl (hz_tys t0 t1 t2) s) {M : hzMem} (hW : hz_Wo D ad (hz_tys t0 t1 t2) A H0 M H locs) (hA : ∀ q, H0.size ≤ q → A q)
    {x j q : Nat} {z : MethodName} {zb : ByteArray} {zn : Nat} {zr : Option FieldType} {zc zf zl zs : Nat} {fs : List Value} {zh : Nat × Nat × Nat × Nat × Nat} (hz : hzM[x]? = some (z, zb, zn, zr, zc, zf, zl, zs, zh)) (hzc : zc ≠ 99) (hzn : zh.1 ≠ 0) (hlk : Jvm.Cond.methodLink own j z ∈ hzTB) (hd : decode cc pc = .ok (.invokevirtual j, 3)) (hR : zf + 1 ≤ R.frames ∧ 8 + (zn + 11) + zl ≤ R.locals) (hroom : cells + zs ≤ R.cells ∧ slots + hzSL * zs ≤ R.slots) (hq : M[q]? = some (.inr (zc, fs)))
    {As rest : List Value} (hlen : As.length = zh.2.2.2.2) (hsum : (rest.map fun v => v.category).sum ≤ 8) (hlay : (hz_lay (.ref q :: As)).length ≤ zn) {fu : Nat} {rv : Option Value} {M1 : hzMem} (hrun : hz_run hx_ext fu x 0 (hz_ent zn (.ref q :: As)) [] M zs = some (rv, M1))
    (kk : ∀ (H1 : Heap) (locs1 : List Loc), hz_Wo D ad (hz_tys t0 t1 t2) A H0 M1 H1 locs1 → W p l e R s m args below meth c H1 locs1 (cells + zs) (slots + hzSL * zs) Q (F0 m (pc + 3) ls ((rv.map (hz_eV ad)).toList ++ rest))) : W p l e R s m args below meth c H locs cells slots Q (F0 m pc ls ((As.map (hz_eV ad)).reverse ++ .ref (ad q) :: rest)) := by
  have hxl : x < hzM.length := (List.getElem?_eq_some_iff.mp hz).1
  obtain ⟨zh1, zh2, zh3, zh4, zh5⟩ := zh
  obtain ⟨k1, k2, k3, kp, k9, kw⟩ := hz_okM_all x hxl _ _ _ _ _ _ _ _ _ _ _ _ _ hz hzn
  have k9 := k9 hzc
  have kw : hz_wds ((zh4, .initialized z.cls) :: (zh1, .code z zb zn zr) :: [(zh2, .instanceMethod z), (zh3, .selects z.cls z z)]) := by
    have := kw
    unfold hz_ndM at this
    simp only [if_neg (show ¬ zh1 = 0 from hzn), if_neg hzc] at this
    exact this
  have k4 := hz_wds_good kw (q := (zh4, .initialized z.cls)) (by simp) rfl
  have hcode := hz_wds_good kw (q := (zh1, .code z zb zn zr)) (by simp) rfl
  have k7 := hz_wds_good kw (q := (zh2, .instanceMethod z)) (by simp) rfl
  have k8 := hz_wds_good kw (q := (zh3, .selects z.cls z z)) (by simp) rfl
  obtain ⟨r9, hr9, hr8⟩ := Option.map_eq_some_iff.mp k9
  have hmet := hz_met (M' := M1) (rv := rv) H.size hz (hz_okW_all x hxl) k1 hlay (hx_sound hfl (D := D) (ad := ad) (t0 := t0) (t1 := t1) (t2 := t2) hrun)
  have hpre : PreV s H z.cls (ad q) (hz_Pc D ad (hz_tys t0 t1 t2) (.ref q :: As) M H.size) (As.map (hz_eV ad)) := by
    refine ⟨hz_blind _ _ _, ?_, fun U hU hwm => ?_⟩
    · have := va_recv hK hW.1 hr9 (hz_wl_get hq)
      rwa [hr8] at this
    · exact ⟨rfl, by rw [hU], by rw [hU]; exact hW.1, va_K.moved hwm.alike hK, hW.2.1.weaken (fun _ _ _ _ => trivial), hz_NS_call hN hW hA hU hwm⟩
  have hgood := hz_good z zb zn zr hcode
  have hdd : z.cls ≠ "java/lang/invoke/MethodHandle" ∧ z.cls ≠ "java/lang/invoke/VarHandle" ∧ (parseMethodDescriptor z.desc).map (fun d => d.parameters.length) = some As.length := ⟨k2, k3, by rw [kp]; exact congrArg some hlen.symm⟩
  exact hz_back (va_runV ⟨hx, hb, hml, hown, hts⟩ hmet ⟨callB_of As.length hts hgood rfl rfl rfl (hts _ k4) (hts _ hlk) hdd hR, hts _ k7, hts _ k8⟩ hpre rfl (by rw [List.length_map]) hls rfl (lv_room hsum) hd hroom) hW hA kk
end HO
def hx_el : MethodName := ⟨"HatsOfTheWind", "element", "(II)J"⟩
def hx_IS (E : String) : Prop := E = "java/lang/IllegalArgumentException" ∨ E = "java/lang/IllegalStateException"
set_option maxHeartbeats 8000000 in
set_option maxRecDepth 100000 in
/-- HatsOfTheWind.element: a long, or one of two exceptions; the cells stay -/
theorem hx_elM {l : Launch} (hfl : l.stackTraces = false) {D : va_G} {ad : Nat → Nat} {t0 t1 t2 : ClassId} (d i : Int32) {M : hzMem} (hi : ha_inv hw_W M) (sz : Nat) : vx_Met l hx_el (hz_ws hx_el prog_1_method_43_code 4 (some .long)) ({ frames := 8, cells := 1, slots := 16, locals := 200 }) (hz_Pc D ad (hz_tys t0 t1 t2) [.ref 0, .int d, .int i] M sz) (va_Ql (fun (_ : Int64) (_ : Unit) => True) (fun _ t => va_P D hzCl (hz_wl ad (hz_tys t0 t1 t2) M) t.heap ∧ va_K D hzCl (hz_tys t0 t1 t2) t) (va_A (hz_wl ad (hz_tys t0 t1 t2) M) sz)) (vx_X (fun _ : Unit => True) (fun E _ t => hx_IS E ∧ va_P D hzCl (hz_wl ad (hz_tys t0 t1 t2) M) t.heap) (va_A (hz_wl ad (hz_tys t0 t1 t2) M) sz)) 1 16 (va_A (hz_wl ad (hz_tys t0 t1 t2) M) sz) := by
  refine vx_ofW (by decide) rfl ?_
  intro p e s m args below meth c s₁ B hml ht hv
  obtain ⟨rfl, hsz, hP, hK, hD0, hN⟩ := hv
  have hx := B.exec
  have hb := B.bytes
  have hr := B.returns
  have hts0 := atoms_spec (ws := hz_ws hx_el prog_1_method_43_code 4 (some .long)) B.pre
  have hts : ∀ w ∈ hzTB, w.before (List.map (hz_eV ad) [.ref 0, .int d, .int i]).toArray s = true := fun w hw => hts0 w (List.mem_cons_of_mem _ hw)
  have hown : s.vm.findClass "HatsOfTheWind" = some m.cls := findClass_of_methodNamed B.named
  have hlocks := B.notSynchronized
  subst hsz
  have hD := hD0.self (sz := s.heap.size)
  generalize hAe : va_A (hz_wl ad (hz_tys t0 t1 t2) M) s.heap.size = A at hD hN ⊢
  have hA : ∀ q : Nat, s.heap.size ≤ q → A q := fun q h => by rw [← hAe]; exact Or.inr h
  have hW : hz_Wo D ad (hz_tys t0 t1 t2) A s.heap M s.heap [] := ⟨hP, hD, va_S.rf⟩
  have hl := lv_entry ([.ref (ad 0), .int d, .int i]) (n := 4) (Nat.le_of_ble_eq_true rfl)
  rw [lg_entry_eq]
  generalize hls : (lg_sl (List.map (hz_eV ad) [.ref 0, .int d, .int i]) ++ List.replicate (4 - (lg_sl (List.map (hz_eV ad) [.ref 0, .int d, .int i])).length) Slot.unset).toArray = ls
  rw [show (lg_sl ([.ref (ad 0), .int d, .int i]) ++ List.replicate (4 - (lg_sl ([.ref (ad 0), .int d, .int i])).length) Slot.unset).toArray = ls from hls] at hl
  have hl : lv_has ls 4 [(0, .ref (ad 0)), (1, .int d), (2, .int i)] := hl
  clear hls
  show W p l e ({ frames := 8, cells := 1, slots := 16, locals := 200 } : Room) _ _ _ _ _ _ _ _ _ _ _ _
  have hxf : ∀ (H1 : Heap) (locs1 : List Loc), hz_Wo D ad (hz_tys t0 t1 t2) A s.heap M H1 locs1 → ∀ (E : String), hx_IS E → ∀ t : State, s.vm.Alike t.vm → H1.size ≤ t.heap.size → (∀ q : Nat, q < H1.size → t.heap[q]? = H1[q]?) → vx_X (fun _ : Unit => True) (fun E _ t => hx_IS E ∧ va_P D hzCl (hz_wl ad (hz_tys t0 t1 t2) M) t.heap) A E s t := by
    intro H1 locs1 hW1 E hE t _ hz hq
    exact ⟨(), trivial, ⟨hE, hW1.1.kept (fun j q hj => hq q.1 (vx_lt hW1.1 hj))⟩, ⟨Nat.le_trans hW1.2.2.1 hz, fun q h1 h2 => (hq q (Nat.lt_of_lt_of_le h1 hW1.2.2.1)).trans (hW1.2.2.2.1 q h1 h2)⟩⟩
  refine lv_iload_n hx hb hx_f0 rfl (lv_at hl 1 rfl) ?_
  obtain ⟨fu, v, hc, hv⟩ := hm_sh51 hx_no d M
  unfold ha_C at hc
  rw [hx_no 51 _ _ _ rfl (by decide)] at hc
  refine hx_cS (As := [.int d]) (rest := []) (x := 51) hfl hx hb hml hl.1 hown hts hN hK hW hA rfl (by decide) (hx_tb 189 rfl (by decide +kernel)) hx_f1 ⟨Nat.le_of_ble_eq_true rfl, Nat.le_of_ble_eq_true rfl⟩ ⟨Nat.le_of_ble_eq_true rfl, Nat.le_of_ble_eq_true rfl⟩ rfl (Nat.le_of_ble_eq_true rfl) (Nat.le_of_ble_eq_true rfl) hc (fun H1 locs1 hW1 => ?_)
  show W _ _ _ _ _ _ _ _ _ _ _ _ _ _ _ (F0 m 4 ls [.int v])
  rcases hv with ⟨rfl, d0, d7⟩ | rfl
  case' inr =>
    refine lv_if_ne (tgt := 18) hx hb hx_f4 (by decide) (fun h3 => absurd rfl h3) (fun h3 => ?_)
    have hu := hx_use hx_Ji hts hN.1
    obtain ⟨a, ha⟩ := hN.1.2.2.1 ("HatsOfTheWind", 299, "no such shelf") (by decide +kernel)
    exact vx_throwSW (own := "HatsOfTheWind") (cls := "java/lang/IllegalArgumentException") (text := "no such shelf") (names := ["java/lang/RuntimeException", "java/lang/Exception"]) (ik := 297) (is := 299) (ic := 301) (sa := a) (A := A) hx hb hfl hown (by decide +kernel) (by decide +kernel) (hu _ List.mem_cons_self) (hu _ (List.mem_cons_of_mem _ List.mem_cons_self)) ha (fun w hw => hu w (List.mem_cons_of_mem _ (List.mem_cons_of_mem _ hw))) hx_Pi hN.2.1 hN.2.2 hW1.2.2 (hl.1.trans hml.symm) hx_f7 hx_f10 hx_f11 hx_f14 hx_f17 (fun x hx => (ht x hx).elim) (Nat.le_of_ble_eq_true rfl) (Nat.le_of_ble_eq_true rfl) (Nat.le_of_ble_eq_true rfl) (Nat.le_of_ble_eq_true rfl) hlocks (hxf _ _ hW1 _ (Or.inl rfl)) hW1.2.2.2.2 (Nat.le_of_ble_eq_true rfl) (Nat.le_of_ble_eq_true rfl)
  refine lv_if_ne (tgt := 18) hx hb hx_f4 (by decide) (fun h3 => ?_) (fun h3 => absurd h3 (by decide))
  obtain ⟨vs0, hO, h4⟩ := hm_fld4 hi
  obtain ⟨f, hR, hf⟩ := hm_row hi
  obtain ⟨vs, vh, vsrt, vz, fe, aM, a0, a3, a4, az0, az1, a5, aF⟩ := hm_shelf hi (k := d.toNatClampNeg) (by show d.toInt.toNat < 8; omega)
  generalize hAd : 29 + 2 * d.toNatClampNeg = Ad at aM
  refine lv_aload_n hx hb hx_f18 rfl (lv_at hl 0 rfl) ?_
  refine hz_mem_ok (st := [.ref 0]) hx hb hts hown hK (hm_rd hO h4 28 []) hx_f19 ⟨_, _, _, rfl, by decide, hts _ (hx_tb 159 rfl (by decide +kernel))⟩ hW1 (fun H2 locs2 hW2 => ?_)
  show W _ _ _ _ _ _ _ _ _ _ _ _ _ _ _ (F0 m 22 ls [.ref (ad 28)])
  refine lv_iload_n hx hb hx_f22 rfl (lv_at hl 1 rfl) ?_
  have hal := hm_aal hR hf d0 d7 0 0 []
  rw [hAd] at hal
  refine hz_mem_ok (st := [.int d, .ref 28]) (own := "HatsOfTheWind") hx hb hts hown hK hal hx_f23 trivial hW2 (fun H3 locs3 hW3 => ?_)
  show W _ _ _ _ _ _ _ _ _ _ _ _ _ _ _ (F0 m 24 ls [.ref (ad Ad)])
  refine lv_astore_n (lv' := [(3, .ref (ad Ad)), (0, .ref (ad 0)), (1, .int d), (2, .int i)]) hx hb hx_f24 rfl hl (by decide) rfl (fun ls hl => ?_)
  refine lv_aload_n hx hb hx_f25 rfl (lv_at hl 0 rfl) ?_
  refine hz_mem_ok (st := [.ref Ad]) hx hb hts hown hK (hm_rd aM a0 304 []) hx_f26 ⟨_, _, _, rfl, by decide, hts _ (hx_tb 129 rfl (by decide +kernel))⟩ hW3 (fun H4 locs4 hW4 => ?_)
  show W _ _ _ _ _ _ _ _ _ _ _ _ _ _ _ (F0 m 29 ls [.int vh])
  refine lv_iconst (v := 2) hx hb hx_f29 (by decide) ?_
  refine lv_icmp_eq (tgt := 44) hx hb hx_f30 (by decide) (fun h5 => ?_) (fun h5 => ?_)
  case' refine_2 =>
    have hu := hx_use hx_Js hts hN.1
    obtain ⟨a, ha⟩ := hN.1.2.2.1 ("HatsOfTheWind", 309, "no row is there") (by decide +kernel)
    exact vx_throwSW (own := "HatsOfTheWind") (cls := "java/lang/IllegalStateException") (text := "no row is there") (names := ["java/lang/RuntimeException", "java/lang/Exception"]) (ik := 307) (is := 309) (ic := 311) (sa := a) (A := A) hx hb hfl hown (by decide +kernel) (by decide +kernel) (hu _ List.mem_cons_self) (hu _ (List.mem_cons_of_mem _ List.mem_cons_self)) ha (fun w hw => hu w (List.mem_cons_of_mem _ (List.mem_cons_of_mem _ hw))) hx_Ps hN.2.1 hN.2.2 hW4.2.2 (hl.1.trans hml.symm) hx_f33 hx_f36 hx_f37 hx_f40 hx_f43 (fun x hx => (ht x hx).elim) (Nat.le_of_ble_eq_true rfl) (Nat.le_of_ble_eq_true rfl) (Nat.le_of_ble_eq_true rfl) (Nat.le_of_ble_eq_true rfl) hlocks (hxf _ _ hW4 _ (Or.inr rfl)) hW4.2.2.2.2 (Nat.le_of_ble_eq_true rfl) (Nat.le_of_ble_eq_true rfl)
  refine lv_aload_n hx hb hx_f44 rfl (lv_at hl 0 rfl) ?_
  refine lv_iload_n hx hb hx_f45 rfl (lv_at hl 3 rfl) ?_
  obtain ⟨fu2, v2, hc2, hv2⟩ := hm_is173 hx_no aM a4 i
  unfold ha_C at hc2
  rw [hx_no 173 _ _ _ rfl (by decide)] at hc2
  refine hx_cV (As := [.int i]) (rest := []) (x := 173) (q := Ad) hfl hx hb hml hl.1 hown hts hN hK hW4 hA rfl (by decide) (by decide) (hx_tb 656 rfl (by decide +kernel)) hx_f46 ⟨Nat.le_of_ble_eq_true rfl, Nat.le_of_ble_eq_true rfl⟩ ⟨Nat.le_of_ble_eq_true rfl, Nat.le_of_ble_eq_true rfl⟩ aM rfl (Nat.le_of_ble_eq_true rfl) (Nat.le_of_ble_eq_true rfl) hc2 (fun H5 locs5 hW5 => ?_)
  show W _ _ _ _ _ _ _ _ _ _ _ _ _ _ _ (F0 m 49 ls [.int v2])
  rcases hv2 with ⟨rfl, i0, i7⟩ | rfl
  case' inr =>
    refine lv_if_ne (tgt := 63) hx hb hx_f49 (by decide) (fun h3 => absurd rfl h3) (fun h3 => ?_)
    have hu := hx_use hx_Js hts hN.1
    obtain ⟨a, ha⟩ := hN.1.2.2.1 ("HatsOfTheWind", 312, "no such place in the row") (by decide +kernel)
    exact vx_throwSW (own := "HatsOfTheWind") (cls := "java/lang/IllegalStateException") (text := "no such place in the row") (names := ["java/lang/RuntimeException", "java/lang/Exception"]) (ik := 307) (is := 312) (ic := 311) (sa := a) (A := A) hx hb hfl hown (by decide +kernel) (by decide +kernel) (hu _ List.mem_cons_self) (hu _ (List.mem_cons_of_mem _ List.mem_cons_self)) ha (fun w hw => hu w (List.mem_cons_of_mem _ (List.mem_cons_of_mem _ hw))) hx_Ps hN.2.1 hN.2.2 hW5.2.2 (hl.1.trans hml.symm) hx_f52 hx_f55 hx_f56 hx_f59 hx_f62 (fun x hx => (ht x hx).elim) (Nat.le_of_ble_eq_true rfl) (Nat.le_of_ble_eq_true rfl) (Nat.le_of_ble_eq_true rfl) (Nat.le_of_ble_eq_true rfl) hlocks (hxf _ _ hW5 _ (Or.inr rfl)) hW5.2.2.2.2 (Nat.le_of_ble_eq_true rfl) (Nat.le_of_ble_eq_true rfl)
  refine lv_if_ne (tgt := 63) hx hb hx_f49 (by decide) (fun h3 => ?_) (fun h3 => absurd h3 (by decide))
  refine lv_aload_n hx hb hx_f63 rfl (lv_at hl 0 rfl) ?_
  refine hz_mem_ok (st := [.ref Ad]) hx hb hts hown hK (hm_rd aM a5 249 []) hx_f64 ⟨_, _, _, rfl, by decide, hts _ (hx_tb 141 rfl (by decide +kernel))⟩ hW5 (fun H6 locs6 hW6 => ?_)
  show W _ _ _ _ _ _ _ _ _ _ _ _ _ _ _ (F0 m 67 ls [.ref (ad (30 + 2 * d.toNatClampNeg))])
  refine lv_iload_n hx hb hx_f67 rfl (lv_at hl 3 rfl) ?_
  refine hz_mem_ok (st := [.int i, .ref (30 + 2 * d.toNatClampNeg)]) (own := "HatsOfTheWind") hx hb hts hown hK (hm_ial aF i0 (by show i.toInt < 100; omega) 0 0 []) hx_f68 trivial hW6 (fun H7 locs7 hW7 => ?_)
  show W _ _ _ _ _ _ _ _ _ _ _ _ _ _ _ (F0 m 69 ls [.int (fe i.toNatClampNeg)])
  refine lv_i2l hx hb hx_f69 rfl ?_
  refine vx_ret ?_
  refine W.widen (k := 1) (n := 16) (Nat.le_of_ble_eq_true rfl) (Nat.le_of_ble_eq_true rfl) ?_
  exact W.lret hx hb hr (fun t ht hw => ⟨⟨_, (), rfl, trivial, by rw [ht]; exact hW7.1, va_K.moved hw.alike hK⟩, hW7.2.2.F ht⟩) hW7.2.2.2.2 hx_f70
