/-! BY HAND: the law's element catches; its case -/
abbrev hx_h2 : List (Nat × Nat × Nat × Nat) := [(0, 9, 12, 13), (0, 9, 16, 15)]
theorem hx_set {α : Type} {M : List α} {k : Nat} {e : α} (h : M[k]? = some e) : M.set k e = M := by
  apply List.ext_getElem?
  intro j
  by_cases q : k = j
  · subst q
    rw [List.getElem?_set_self (List.getElem?_eq_some_iff.mp h).1, h]
  · rw [List.getElem?_set_ne q]
set_option maxHeartbeats 8000000 in
set_option maxRecDepth 100000 in
theorem hx_leM {l : Launch} (hfl : l.stackTraces = false) {D : va_G} {ad : Nat → Nat} {t0 t1 t2 : ClassId} (d i : Int32) {M : hzMem} (hi : ha_inv hw_W M) {g0 : Nat → Int64} (h59 : M[59]? = some (.inl (1, 1, .inr (.inl g0)))) (sz : Nat) : vx_Met l hzy_214 (.codeWith hzy_214 method_3_code 5 (some .int) hx_h2 :: hzTB) ({ frames := 9, cells := 1, slots := 16, locals := 330 }) (hz_Pc D ad (hz_tys t0 t1 t2) [.ref 0, .int d, .int i, .ref 59] M sz) (va_Qi (fun (_ : Int32) (_ : Nat → Int64) => True) (fun g t => va_P D hzCl (hz_wl ad (hz_tys t0 t1 t2) (M.set 59 (.inl (1, 1, .inr (.inl g))))) t.heap ∧ va_D (va_A (hz_wl ad (hz_tys t0 t1 t2) M) sz) (hz_wl ad (hz_tys t0 t1 t2) (M.set 59 (.inl (1, 1, .inr (.inl g)))))) (va_A (hz_wl ad (hz_tys t0 t1 t2) M) sz)) (fun _ _ _ => False) 1 16 (va_A (hz_wl ad (hz_tys t0 t1 t2) M) sz) := by
  refine vx_ofWH (by decide) rfl ?_
  intro p e s m args below meth c s₁ B hml hv
  obtain ⟨rfl, hsz, hP, hK, hD0, hN⟩ := hv
  have hx := B.exec
  have hb := B.bytes
  have hr := B.returns
  have hts := atoms_spec (ws := .codeWith hzy_214 method_3_code 5 (some .int) hx_h2 :: hzTB) B.pre
  have htb : ∀ w ∈ hzTB, w.before _ s = true := fun w hw => hts w (List.mem_cons_of_mem _ hw)
  have hown : s.vm.findClass "HatsOfTheWindLaw" = some m.cls := findClass_of_methodNamed B.named
  have hlocks := B.notSynchronized
  have htab := vx_table (x := hzy_214) B (hts _ List.mem_cons_self)
  subst hsz
  have hD := hD0.self (sz := s.heap.size)
  have hA : ∀ q : Nat, s.heap.size ≤ q → va_A (hz_wl ad (hz_tys t0 t1 t2) M) s.heap.size q := fun q h => Or.inr h
  have hS : va_S (va_A (hz_wl ad (hz_tys t0 t1 t2) M) s.heap.size) s.heap s.heap [] := va_S.rf
  have hW : hz_Wo D ad (hz_tys t0 t1 t2) (va_A (hz_wl ad (hz_tys t0 t1 t2) M) s.heap.size) s.heap M s.heap [] := ⟨hP, hD, hS⟩
  obtain ⟨vs0, hO, h4⟩ := hm_fld4 hi
  have hl := lv_entry ([.ref (ad 0), .int d, .int i, .ref (ad 59)]) (n := 5) (Nat.le_of_ble_eq_true rfl)
  rw [lg_entry_eq]
  generalize hls : (lg_sl (List.map (hz_eV ad) [.ref 0, .int d, .int i, .ref 59]) ++ List.replicate (5 - (lg_sl (List.map (hz_eV ad) [.ref 0, .int d, .int i, .ref 59])).length) Slot.unset).toArray = ls
  rw [show (lg_sl ([.ref (ad 0), .int d, .int i, .ref (ad 59)]) ++ List.replicate (5 - (lg_sl ([.ref (ad 0), .int d, .int i, .ref (ad 59)])).length) Slot.unset).toArray = ls from hls] at hl
  have hl : lv_has ls 5 [(0, .ref (ad 0)), (1, .int d), (2, .int i), (3, .ref (ad 59))] := hl
  clear hls
  show W p l e ({ frames := 9, cells := 1, slots := 16, locals := 330 } : Room) _ _ _ _ _ _ _ _ _ _ _ _
  refine lv_aload_n hx hb hx_g0 rfl (lv_at hl 3 rfl) ?_
  refine lv_iconst (v := 0) hx hb hx_g1 (by decide) ?_
  refine lv_aload_n hx hb hx_g2 rfl (lv_at hl 0 rfl) ?_
  refine lv_iload_n hx hb hx_g3 rfl (lv_at hl 1 rfl) ?_
  refine lv_iload_n hx hb hx_g4 rfl (lv_at hl 2 rfl) ?_
  have hgood : GoodIn hzTB (hz_ws hx_el prog_1_method_43_code 4 (some .long)) := hz_good _ _ _ _ (hx_tb 795 rfl (by decide +kernel))
  have gIn : GoodIn (Cond.codeWith hzy_214 method_3_code 5 (some .int) hx_h2 :: hzTB) (hz_ws hx_el prog_1_method_43_code 4 (some .long)) := fun w hw => ⟨List.mem_cons_of_mem _ (hgood w hw).1, (hgood w hw).2⟩
  have fin : ∀ (v : Int32) (g : Nat → Int64) (H1 : Heap) (locs1 : List Loc) (ls1 : Array Slot) (pc cl sl : Nat), cl ≤ 1 → sl ≤ 16 → va_P D hzCl (hz_wl ad (hz_tys t0 t1 t2) (M.set 59 (.inl (1, 1, .inr (.inl g))))) H1 → va_D (va_A (hz_wl ad (hz_tys t0 t1 t2) M) s.heap.size) (hz_wl ad (hz_tys t0 t1 t2) (M.set 59 (.inl (1, 1, .inr (.inl g))))) → va_S (va_A (hz_wl ad (hz_tys t0 t1 t2) M) s.heap.size) s.heap H1 locs1 → decode method_3_code pc = .ok (.ireturn, 1) → W p l e ({ frames := 9, cells := 1, slots := 16, locals := 330 } : Room) s m (List.map (hz_eV ad) [.ref 0, .int d, .int i, .ref 59]).toArray below meth c H1 locs1 cl sl (vx_MQ below (va_Qi (fun (_ : Int32) (_ : Nat → Int64) => True) (fun g t => va_P D hzCl (hz_wl ad (hz_tys t0 t1 t2) (M.set 59 (.inl (1, 1, .inr (.inl g))))) t.heap ∧ va_D (va_A (hz_wl ad (hz_tys t0 t1 t2) M) s.heap.size) (hz_wl ad (hz_tys t0 t1 t2) (M.set 59 (.inl (1, 1, .inr (.inl g)))))) (va_A (hz_wl ad (hz_tys t0 t1 t2) M) s.heap.size)) (fun _ _ _ => False) (List.map (hz_eV ad) [.ref 0, .int d, .int i, .ref 59]).toArray s 1 16 (va_A (hz_wl ad (hz_tys t0 t1 t2) M) s.heap.size)) (F0 m pc ls1 [.int v]) := by
    intro v g H1 locs1 ls1 pc cl sl h1 h2 hP1 hD1 hS1 hd
    refine vx_ret ?_
    refine W.widen (k := 1) (n := 16) h1 h2 ?_
    exact W.iret (v := v) hx hb hr (fun t ht hw => ⟨⟨v, g, rfl, trivial, by rw [ht]; exact hP1, hD1⟩, hS1.F ht⟩) hS1.2.2 hd
  have l1 : (Cond.classLink "HatsOfTheWindLaw" 13 "java/lang/IllegalArgumentException").before (List.map (hz_eV ad) [.ref 0, .int d, .int i, .ref 59]).toArray s = true := htb _ (hx_tb 790 rfl (by decide +kernel))
  have l2 : (Cond.classLink "HatsOfTheWindLaw" 15 "java/lang/IllegalStateException").before (List.map (hz_eV ad) [.ref 0, .int d, .int i, .ref 59]).toArray s = true := htb _ (hx_tb 791 rfl (by decide +kernel))
  refine vx_calll (vx_runV (As := [.int d, .int i]) (rest := [.int 0, .ref (ad 59)]) (b := ad 0) (C := "HatsOfTheWind") ⟨hx, hb, hml, hown, hts⟩ (hx_elM hfl (D := D) (ad := ad) (t0 := t0) (t1 := t1) (t2 := t2) d i hi s.heap.size) ⟨callB_of 2 hts gIn rfl rfl rfl (htb _ (hx_tb 39 rfl (by decide +kernel))) (htb _ (hx_tb 792 rfl (by decide +kernel))) ⟨by decide, by decide, by decide +kernel⟩ ⟨Nat.le_of_ble_eq_true rfl, Nat.le_of_ble_eq_true rfl⟩, htb _ (hx_tb 793 rfl (by decide +kernel)), htb _ (hx_tb 794 rfl (by decide +kernel))⟩ ⟨hz_blind _ _ _, va_recv hK hP (ci := 2) rfl (hz_wl_get hO), fun U hU hw => ⟨rfl, by rw [hU], by rw [hU]; exact hP, va_K.moved hw.alike hK, hD.weaken (fun _ _ _ _ => trivial), hz_NS_call hN hW hA hU hw⟩⟩ rfl rfl hl.1 rfl (lv_room (Nat.le_of_ble_eq_true rfl)) hx_g5 ⟨Nat.le_of_ble_eq_true rfl, Nat.le_of_ble_eq_true rfl⟩) hS (fun q _ h => h) (fun q h => h) (fun q _ h => h) (fun E ce q9 u t H1 locs1 ht hal _ hE hsz1 hkeep hS1 hce hcv hcl => ?_) (fun r u t H1 locs1 ht hal _ hB hsz1 hkeep hS1 => ?_)
  case' refine_2 =>
    have hP1 : va_P D hzCl (hz_wl ad (hz_tys t0 t1 t2) M) H1 := by rw [← ht]; exact hB.1
    refine va_last (D := D) (x := r) (i := 0) hx hb hK hP1 hD hS1 59 1 (hz_wl_get h59) rfl (hz_in_ok (by decide)) hx_g8 (fun H2 locs2 hP2 hD2 hS2 => ?_)
    have e : (hz_wl ad (hz_tys t0 t1 t2) (M.set 59 (.inl (1, 1, .inr (.inl (vp_updL g0 (0 : Int32).toNatClampNeg r)))))) = (hz_wl ad (hz_tys t0 t1 t2) M).set 59 (ad 59, hz_eC ad (hz_tys t0 t1 t2) (.inl (1, 1, .inr (.inl (vp_updL g0 (0 : Int32).toNatClampNeg r))))) := hz_wl_set h59
    refine lv_goto (tgt := 20) hx hb hx_g9 (by decide) ?_
    refine lv_iconst (v := 0) hx hb hx_g20 (by decide) ?_
    exact fin 0 (vp_updL g0 (0 : Int32).toNatClampNeg r) H2 locs2 ls 21 _ _ (Nat.le_of_ble_eq_true rfl) (Nat.le_of_ble_eq_true rfl) (by rw [e]; exact hP2) (by rw [e]; exact hD2) hS2 hx_g21
  have hP1 : va_P D hzCl (hz_wl ad (hz_tys t0 t1 t2) (M.set 59 (.inl (1, 1, .inr (.inl g0))))) H1 := by rw [hx_set h59, ← ht]; exact hE.2
  have hD1 : va_D (va_A (hz_wl ad (hz_tys t0 t1 t2) M) s.heap.size) (hz_wl ad (hz_tys t0 t1 t2) (M.set 59 (.inl (1, 1, .inr (.inl g0))))) := by rw [hx_set h59]; exact hD
  rcases hE.1 with rfl | rfl
  · refine vx_catch (own := "HatsOfTheWindLaw") (name := "java/lang/IllegalArgumentException") hown [] ⟨0, 9, 12, 13⟩ [⟨0, 9, 16, 15⟩] (htab.trans rfl) (fun z hz => absurd hz List.not_mem_nil) (by decide) (by decide) l1 (va_Nw.use (hz_OW_on (hx_ow 757 rfl rfl)) (hN.1.2.1 _ (hx_ow 757 rfl rfl))) hce hcv hcl ?_
    refine lv_astore (lv' := [(4, .ref q9), (0, .ref (ad 0)), (1, .int d), (2, .int i), (3, .ref (ad 59))]) hx hb hx_g12 hl (by decide) rfl (fun ls hl => ?_)
    refine lv_iconst (v := 1) hx hb hx_g14 (by decide) ?_
    exact fin 1 g0 H1 locs1 ls 15 _ _ (Nat.le_of_ble_eq_true rfl) (Nat.le_of_ble_eq_true rfl) hP1 hD1 hS1 hx_g15
  · refine vx_catch (own := "HatsOfTheWindLaw") (name := "java/lang/IllegalStateException") hown [⟨0, 9, 12, 13⟩] ⟨0, 9, 16, 15⟩ [] (htab.trans rfl) (fun z hz => ?_) (by decide) (by decide) l2 (va_Nw.use (hz_OW_on (hx_ow 773 rfl rfl)) (hN.1.2.1 _ (hx_ow 773 rfl rfl))) hce hcv hcl ?_
    · cases List.mem_singleton.mp hz
      exact Or.inr ⟨by decide, _, l1, hN.1.2.2.2 (_, _) (by decide +kernel)⟩
    refine lv_astore (lv' := [(4, .ref q9), (0, .ref (ad 0)), (1, .int d), (2, .int i), (3, .ref (ad 59))]) hx hb hx_g16 hl (by decide) rfl (fun ls hl => ?_)
    refine lv_iconst (v := 2) hx hb hx_g18 (by decide) ?_
    exact fin 2 g0 H1 locs1 ls 19 _ _ (Nat.le_of_ble_eq_true rfl) (Nat.le_of_ble_eq_true rfl) hP1 hD1 hS1 hx_g19
section HL
variable {p : Program} {l : Launch} {e : Env} {s : State} {m : MethodId} {below : List Frame} {meth : Method} {c : Code} {b : Nat} {D : va_G} {ad : Nat → Nat} {t0 t1 t2 : ClassId} {N : Nat} {xs : Nat → Int32}
set_option maxHeartbeats 4000000 in
set_option maxRecDepth 100000 in
theorem hl_elem (C : hl_C p l s m meth c b N xs D ad t0 t1 t2) {L : List (Option Value)} {M : hzMem} {n : Nat} {d i : Int32} (hI : hl_I M) (hAs : hl_St M) (hn : 1 ≤ n) (kk : ∀ (z : Int32) (M1 : hzMem), hl_I M1 → hl_St M1 → hl_R p l e s m below meth c b D ad t0 t1 t2 1650 L [.int z] M1 (n - 1)) : hl_R p l e s m below meth c b D ad t0 t1 t2 1647 L [.ref 59, .int i, .int d, .ref 0] M n := by
  intro ls H locs cells slots hL hW hc hs
  obtain ⟨hfl, hx, hb, hr, hml, hown, hts, hX, hbl, hlocks, hN, hK, had, hN3⟩ := C
  have hd : decode code 1647 = .ok (.invokestatic 192, 3) := by decide +kernel
  have hA : ∀ q : Nat, s.heap.size ≤ q → hl_A s q := fun q h => h
  obtain ⟨hi, hlen, ⟨g0, h59⟩, σ, hs0, hsC, hsM⟩ := hI
  obtain ⟨hP, hD, hS⟩ := id hW
  have hf : ∀ q, va_A (hz_wl ad (hz_tys t0 t1 t2) M) H.size q → hl_A s q := fun q h => by
    rcases h with ⟨k, x, h⟩ | h
    · exact hD.2 k (q, x) h
    · exact hA q (Nat.le_trans hS.1 h)
  have hmem : Cond.codeWith hzy_214 method_3_code 5 (some .int) hx_h2 ∈ hzTB := hx_tb 789 rfl (by decide +kernel)
  have hG : GoodIn hzTB (Cond.codeWith hzy_214 method_3_code 5 (some .int) hx_h2 :: hzTB) := by
    have key : ∀ w ∈ hzTB, w ∈ hzTB ∧ ((w.onTables && w.keeps) = true ∨ ∃ ty, w = .arrayClass ty) := fun w hw => ⟨hw, good_of_word (List.mem_filter.mp hw).2⟩
    intro w hw
    rcases List.mem_cons.mp hw with rfl | hw
    · exact key _ hmem
    · exact key w hw
  have hsig : ∀ sig, parseMethodDescriptor hzy_214.desc = some sig → 4 = sig.parameters.length := by
    intro sig h
    have h2 : (parseMethodDescriptor hzy_214.desc).map (fun d => d.parameters.length) = some 4 := by decide +kernel
    rw [h] at h2
    exact (Option.some.inj h2).symm
  refine va_calli (hx_run0 (vx_runSX (hh := hx_h2) (As := List.map (hz_eV ad) [.ref 0, .int d, .int i, .ref 59]) (rest := []) ⟨hx, hb, hml, hown, hts⟩ (hx_leM hfl (D := D) (ad := ad) (t0 := t0) (t1 := t1) (t2 := t2) d i hi h59 H.size) ⟨⟨rfl, rfl, by decide, by decide, pay_in hts hG, List.mem_cons_self⟩, hts _ hmem, hts _ (hx_tb 38 rfl (by decide +kernel)), ⟨by decide, by decide⟩, hsig, hts _ (hx_tb 787 rfl (by decide +kernel)), hts _ (hx_tb 788 rfl (by decide +kernel))⟩ ⟨hz_blind _ _ _, fun U hU hw => ⟨rfl, by rw [hU], by rw [hU]; exact hP, va_K.moved hw.alike hK, hD.weaken (fun _ _ _ _ => trivial), hz_NS_call hN hW hA hU hw⟩⟩ rfl rfl hL.1 rfl (lv_room (Nat.le_of_ble_eq_true rfl)) hd ⟨by show cells + 1 ≤ 601024; omega, by show slots + 16 ≤ 7293034; omega⟩)) hS (fun q _ h => hf q h) hf (fun r g t H1 locs1 ht hal _ hB hsz1 hkeep hS1 => ?_)
  refine kk r (M.set 59 (.inl (1, 1, .inr (.inl g)))) ⟨ha_inv_set hi h59 (fun sh h => by cases (show hw_W[59]? = none from rfl).symm.trans h), by rw [List.length_set]; exact hlen, ⟨g, List.getElem?_set_self (List.getElem?_eq_some_iff.mp h59).1⟩, σ, hs0, hl_Ck hsC (fun j a b => List.getElem?_set_ne (by omega)), hl_Mk hsM (fun j a b => List.getElem?_set_ne (by omega))⟩ (hl_Ax hAs (fun j hj => List.getElem?_set_ne (fun q => by subst q; exact absurd hj (by decide))) (by rw [hp_rdx (List.getElem?_set_ne (by decide))])) ls H1 locs1 (cells + 1) (slots + 16) hL ⟨by rw [← ht]; exact hB.1, hB.2.weaken (fun k q _ h => hf q.1 h), hS1⟩ (by omega) (by omega)
set_option maxRecDepth 10000 in
theorem hl_k41 (C : hl_C p l s m meth c b N xs D ad t0 t1 t2) {M : hzMem} {n : Nat} {i : Int32} {x5 x6 x7 : Option Value} (hI : hl_I M) (hA : hl_St M) (h1 : vp_in (i + Int32.ofInt 1) N) (h2 : vp_in (i + Int32.ofInt 2) N) (h3 : vp_in (i + Int32.ofInt 3) N) (h4 : vp_in (i + Int32.ofInt 4) N) (h5 : vp_in (i + Int32.ofInt 5) N) (hn : 1 ≤ n) (kk : ∀ (M' : hzMem) (y5 y6 y7 : Option Value), hl_I M' → hl_St M' → hl_R p l e s m below meth c b D ad t0 t1 t2 1796 (hl_L i y5 y6 y7) [] M' (n - 1)) : hl_R p l e s m below meth c b D ad t0 t1 t2 1633 (hl_L i x5 x6 x7) [] M n := by
  refine hl_sN C [1634, 1635, 1637, 1638, 1639] (pc' := 1639) (L' := (hl_L i x5 x6 x7)) (st' := [.int (i + (Int32.ofInt 1)), .ref 60, .ref 0]) rfl rfl ?_
  refine hl_ld C rfl h1 ?_
  show hl_R p l e s m below meth c b D ad t0 t1 t2 1640 (hl_L i x5 x6 x7) [.int (xs (i + Int32.ofInt 1).toNatClampNeg), .ref 0] M (n)
  refine hl_sN C [1641, 1643, 1644, 1645] (pc' := 1645) (L' := (hl_L i x5 x6 x7)) (st' := [.int (i + (Int32.ofInt 2)), .ref 60, .int (xs (i + Int32.ofInt 1).toNatClampNeg), .ref 0]) rfl rfl ?_
  refine hl_ld C rfl h2 ?_
  show hl_R p l e s m below meth c b D ad t0 t1 t2 1646 (hl_L i x5 x6 x7) [.int (xs (i + Int32.ofInt 2).toNatClampNeg), .int (xs (i + Int32.ofInt 1).toNatClampNeg), .ref 0] M (n)
  refine hl_sN C [1647] (pc' := 1647) (L' := (hl_L i x5 x6 x7)) (st' := [.ref 59, .int (xs (i + Int32.ofInt 2).toNatClampNeg), .int (xs (i + Int32.ofInt 1).toNatClampNeg), .ref 0]) rfl rfl ?_
  refine hl_elem C hI hA (by omega) (fun z1 M1 hI1 hA1 => ?_)
  show hl_R p l e s m below meth c b D ad t0 t1 t2 1650 (hl_L i x5 x6 x7) [.int z1] M1 (n - 1)
  refine hl_sN C [1652, 1653, 1654, 1656, 1657, 1658] (pc' := 1658) (L' := (hl_L i (some (.int z1)) x6 x7)) (st' := [.int (i + (Int32.ofInt 1)), .ref 60, .ref 47]) rfl rfl ?_
  refine hl_ld C rfl h1 ?_
  show hl_R p l e s m below meth c b D ad t0 t1 t2 1659 (hl_L i (some (.int z1)) x6 x7) [.int (xs (i + Int32.ofInt 1).toNatClampNeg), .ref 47] M1 (n - 1)
  refine hl_sN C [1660, 1662, 1663, 1664] (pc' := 1664) (L' := (hl_L i (some (.int z1)) x6 x7)) (st' := [.int (i + (Int32.ofInt 2)), .ref 60, .int (xs (i + Int32.ofInt 1).toNatClampNeg), .ref 47]) rfl rfl ?_
  refine hl_ld C rfl h2 ?_
  show hl_R p l e s m below meth c b D ad t0 t1 t2 1665 (hl_L i (some (.int z1)) x6 x7) [.int (xs (i + Int32.ofInt 2).toNatClampNeg), .int (xs (i + Int32.ofInt 1).toNatClampNeg), .ref 47] M1 (n - 1)
  obtain ⟨X, S, hX, hS⟩ := hp_of2 hI1
  subst hX
  have hK := hk_163 (X := X) S (xs (i + Int32.ofInt 1).toNatClampNeg) (xs (i + Int32.ofInt 2).toNatClampNeg)
  have hg := hg_163 S (xs (i + Int32.ofInt 1).toNatClampNeg) (xs (i + Int32.ofInt 2).toNatClampNeg)
  generalize hq_163 S (xs (i + Int32.ofInt 1).toNatClampNeg) (xs (i + Int32.ofInt 2).toNatClampNeg) = R at hK hg
  refine hl_cz C 244 rfl rfl rfl rfl (by decide) hI1 (hl_r47 hI1 [.int (xs (i + Int32.ofInt 1).toNatClampNeg), .int (xs (i + Int32.ofInt 2).toNatClampNeg)]) (Nat.le_of_ble_eq_true rfl) (Nat.le_of_ble_eq_true rfl) (Nat.le_of_ble_eq_true rfl) ⟨rfl, ⟨_, rfl, ha_rng _⟩, ⟨_, rfl, ha_rng _⟩, trivial⟩ rfl (by omega) hK (fun hI2 hw2 => ?_)
  show hl_R p l e s m below meth c b D ad t0 t1 t2 1668 (hl_L i (some (.int z1)) x6 x7) [.long R.1] (hp_mem X R.2) (n - 1 - 0)
  refine hl_sN C [1670, 1796] (pc' := 1796) (L' := (hl_L i (some (.int z1)) (some (.long R.1)) none)) (st' := []) rfl rfl ?_
  exact hl_mono (by omega) (kk (hp_mem X R.2) _ _ _ hI2 (hl_As hA1 hw2 rfl hg))
end HL
