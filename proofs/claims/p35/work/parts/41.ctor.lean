/-! THE CONSTRUCTORS over the machine -/
abbrev hc_ia (t0 : ClassId) (q n : Nat) : Nat × va_E := (q, .inl (t0, n, .inl (fun _ => 0)))
abbrev hc_u (L : List Nat) (k : Nat) : Nat := L.getD k 0
section HCN
variable {p : Program} {l : Launch} {e : Env} {R : Room} {s : State} {m : MethodId} {args : Array Value} {below : List Frame} {meth : Method} {c : Code} {H : Heap} {locs : List Loc} {cells slots : Nat} {Q : State → Prop} {cc : ByteArray} {pc : Nat} {ls : Array Slot} {D : va_G} {A : Nat → Prop} {H0 : Heap} {t0 t1 t2 : ClassId} {ws : va_W} {rest : List Value}
theorem hc_newI (hexec : p.tables.exec = Jvm.exec) (hb : c.code = cc) (harr : (Cond.arrayClass .int).before args s = true) (hK : va_K D hzCl (hz_tys t0 t1 t2) s) (hP : va_P D hzCl ws H) (hD : va_D A ws) (hS : va_S A H0 H locs) (hA : ∀ q, H0.size ≤ q → A q)
    {n : Int32} (N' : Nat) (hn : ¬ n < 0) (hN : n.toNatClampNeg = N') (hbytes : N' * componentBytes .int ≤ 536870912) (hcells : cells + 1 ≤ R.cells) (hslots : slots + N' ≤ R.slots) (hdg : decode cc pc = .ok (.newarray .int, 2))
    (kk : ∀ (q : Nat) (H1 : Heap), va_P D hzCl (ws ++ [hc_ia t0 q N']) H1 → va_D A (ws ++ [hc_ia t0 q N']) → va_S A H0 H1 locs → W p l e R s m args below meth c H1 locs (cells + 1) (slots + N') Q (F0 m (pc + 2) ls (.ref q :: rest))) : W p l e R s m args below meth c H locs cells slots Q (F0 m pc ls (.int n :: rest)) := by
  refine va_newa (atype := .int) (ty := .int) (a0 := (N', .inl (fun _ => 0))) hexec hb harr rfl hK hP hD hS hA (fun _ => rfl) hn hN hbytes hcells hslots hdg (fun q cA H1 hK1 hP1 hD1 hS1 => ?_)
  have e1 : va_RA s t0 .int := (hK.2 0 (t0, .int) rfl).2
  have e2 : va_RA s cA .int := (hK1.2 3 (cA, .int) rfl).2
  have e : cA = t0 := Option.some.inj (e2.symm.trans e1)
  subst e
  exact kk q H1 hP1 hD1 hS1
theorem hc_newL (hexec : p.tables.exec = Jvm.exec) (hb : c.code = cc) (harr : (Cond.arrayClass .long).before args s = true) (hK : va_K D hzCl (hz_tys t0 t1 t2) s) (hP : va_P D hzCl ws H) (hD : va_D A ws) (hS : va_S A H0 H locs) (hA : ∀ q, H0.size ≤ q → A q)
    {n : Int32} (N' : Nat) (hn : ¬ n < 0) (hN : n.toNatClampNeg = N') (hbytes : N' * componentBytes .long ≤ 536870912) (hcells : cells + 1 ≤ R.cells) (hslots : slots + N' ≤ R.slots) (hdg : decode cc pc = .ok (.newarray .long, 2))
    (kk : ∀ (q : Nat) (H1 : Heap), va_P D hzCl (ws ++ [(q, .inl (t1, N', .inr (.inl (fun _ => 0))))]) H1 → va_D A (ws ++ [(q, .inl (t1, N', .inr (.inl (fun _ => 0))))]) → va_S A H0 H1 locs → W p l e R s m args below meth c H1 locs (cells + 1) (slots + N') Q (F0 m (pc + 2) ls (.ref q :: rest))) : W p l e R s m args below meth c H locs cells slots Q (F0 m pc ls (.int n :: rest)) := by
  refine va_newa (atype := .long) (ty := .long) (a0 := (N', .inr (.inl (fun _ => 0)))) hexec hb harr rfl hK hP hD hS hA (fun _ => rfl) hn hN hbytes hcells hslots hdg (fun q cA H1 hK1 hP1 hD1 hS1 => ?_)
  have e1 : va_RA s t1 .long := (hK.2 1 (t1, .long) rfl).2
  have e2 : va_RA s cA .long := (hK1.2 3 (cA, .long) rfl).2
  have e : cA = t1 := Option.some.inj (e2.symm.trans e1)
  subst e
  exact kk q H1 hP1 hD1 hS1
theorem hc_newQ (hexec : p.tables.exec = Jvm.exec) (hb : c.code = cc) {own : String} {index : Nat} (hown : s.vm.findClass own = some m.cls) (hclink : (Cond.classLink own index hzR0).before args s = true) (hover : va_AO hzR0 s) (hK : va_K D hzCl (hz_tys t0 t1 t2) s) (hP : va_P D hzCl ws H) (hD : va_D A ws) (hS : va_S A H0 H locs) (hA : ∀ q, H0.size ≤ q → A q)
    {n : Int32} (N' : Nat) (hn : ¬ n < 0) (hN : n.toNatClampNeg = N') (hbytes : N' * 4 ≤ 536870912) (hcells : cells + 1 ≤ R.cells) (hslots : slots + N' ≤ R.slots) (hdg : decode cc pc = .ok (.anewarray index, 3))
    (kk : ∀ (q : Nat) (H1 : Heap), va_P D hzCl (ws ++ [(q, .inl (t2, N', .inr (.inr (.inr (.inr (fun _ => none))))))]) H1 → va_D A (ws ++ [(q, .inl (t2, N', .inr (.inr (.inr (.inr (fun _ => none))))))]) → va_S A H0 H1 locs → W p l e R s m args below meth c H1 locs (cells + 1) (slots + N') Q (F0 m (pc + 3) ls (.ref q :: rest))) : W p l e R s m args below meth c H locs cells slots Q (F0 m pc ls (.int n :: rest)) := by
  refine va_newq hexec hb hown hclink hover hK hP hD hS hA hn hN hbytes hcells hslots hdg (fun q cA H1 hK1 hP1 hD1 hS1 => ?_)
  obtain ⟨k1, c1, g1, g2, g3, g4⟩ : va_RA s t2 (.object hzR0) := (hK.2 2 (t2, .object hzR0) rfl).2
  obtain ⟨k2, c2, g5, g6, g7, g8⟩ : va_RA s cA (.object hzR0) := (hK1.2 3 (cA, .object hzR0) rfl).2
  have e : cA = t2 := Option.some.inj (g8.symm.trans g4)
  subst e
  exact kk q H1 hP1 hD1 hS1
end HCN
def hc_y0 : MethodName := ⟨"HatsOfTheWind$Shelf", "<init>", "()V"⟩
abbrev hc_f0 : List Value := [.int 0, .int 0, .int 0, .int 0, .int 0, .null]
theorem hc_df0 : ∀ j : Nat, j < 6 → defaultValue (hz_ty 0 j) = vp_V hc_f0 j := by
  intro j hj
  match j, hj with
  | 0, _ => rfl
  | 1, _ => rfl
  | 2, _ => rfl
  | 3, _ => rfl
  | 4, _ => rfl
  | 5, _ => rfl
  | j + 6, h => exact absurd h (by omega)
def hc_y1 : MethodName := ⟨"HatsOfTheWind$Street", "<init>", "()V"⟩
abbrev hc_f1 : List Value := [.null, .int 0, .int 0, .int 0, .int 0, .null, .null, .null, .int 0, .null, .null, .null, .null]
theorem hc_df1 : ∀ j : Nat, j < 13 → defaultValue (hz_ty 1 j) = vp_V hc_f1 j := by
  intro j hj
  match j, hj with
  | 0, _ => rfl
  | 1, _ => rfl
  | 2, _ => rfl
  | 3, _ => rfl
  | 4, _ => rfl
  | 5, _ => rfl
  | 6, _ => rfl
  | 7, _ => rfl
  | 8, _ => rfl
  | 9, _ => rfl
  | 10, _ => rfl
  | 11, _ => rfl
  | 12, _ => rfl
  | j + 13, h => exact absurd h (by omega)
def hc_y2 : MethodName := ⟨"HatsOfTheWind", "<init>", "()V"⟩
abbrev hc_f2 : List Value := [.null, .null, .null, .int 0, .null, .null, .null]
theorem hc_df2 : ∀ j : Nat, j < 7 → defaultValue (hz_ty 2 j) = vp_V hc_f2 j := by
  intro j hj
  match j, hj with
  | 0, _ => rfl
  | 1, _ => rfl
  | 2, _ => rfl
  | 3, _ => rfl
  | 4, _ => rfl
  | 5, _ => rfl
  | 6, _ => rfl
  | j + 7, h => exact absurd h (by omega)
def hc_y3 : MethodName := ⟨"HatsOfTheWindModel", "<init>", "()V"⟩
abbrev hc_f3 : List Value := [.null, .null, .null, .null, .int 0, .int 0, .int 0, .int 0, .null, .int 0, .null, .null, .null, .null, .null, .null, .int 0]
theorem hc_df3 : ∀ j : Nat, j < 17 → defaultValue (hz_ty 3 j) = vp_V hc_f3 j := by
  intro j hj
  match j, hj with
  | 0, _ => rfl
  | 1, _ => rfl
  | 2, _ => rfl
  | 3, _ => rfl
  | 4, _ => rfl
  | 5, _ => rfl
  | 6, _ => rfl
  | 7, _ => rfl
  | 8, _ => rfl
  | 9, _ => rfl
  | 10, _ => rfl
  | 11, _ => rfl
  | 12, _ => rfl
  | 13, _ => rfl
  | 14, _ => rfl
  | 15, _ => rfl
  | 16, _ => rfl
  | j + 17, h => exact absurd h (by omega)
abbrev hc_w0 (t0 : ClassId) (h0 : Nat) (u : Nat → Nat) : va_W := [(h0, .inr (0, [.int 0, .int 0, .int 0, .int 0, .int 0, .ref (u 0)])), hc_ia t0 (u 0) 100]
theorem hc_d0_0 : decode prog_3_method_1_code 0 = .ok (.aload_n 0, 1) := by decide +kernel
theorem hc_d0_1 : decode prog_3_method_1_code 1 = .ok (.invokespecial 3, 3) := by decide +kernel
theorem hc_d0_4 : decode prog_3_method_1_code 4 = .ok (.aload_n 0, 1) := by decide +kernel
theorem hc_d0_5 : decode prog_3_method_1_code 5 = .ok (.iconst 0, 1) := by decide +kernel
theorem hc_d0_6 : decode prog_3_method_1_code 6 = .ok (.putfield 11, 3) := by decide +kernel
theorem hc_d0_9 : decode prog_3_method_1_code 9 = .ok (.aload_n 0, 1) := by decide +kernel
theorem hc_d0_10 : decode prog_3_method_1_code 10 = .ok (.iconst 0, 1) := by decide +kernel
theorem hc_d0_11 : decode prog_3_method_1_code 11 = .ok (.putfield 15, 3) := by decide +kernel
theorem hc_d0_14 : decode prog_3_method_1_code 14 = .ok (.aload_n 0, 1) := by decide +kernel
theorem hc_d0_15 : decode prog_3_method_1_code 15 = .ok (.iconst 0, 1) := by decide +kernel
theorem hc_d0_16 : decode prog_3_method_1_code 16 = .ok (.putfield 18, 3) := by decide +kernel
theorem hc_d0_19 : decode prog_3_method_1_code 19 = .ok (.aload_n 0, 1) := by decide +kernel
theorem hc_d0_20 : decode prog_3_method_1_code 20 = .ok (.iconst 0, 1) := by decide +kernel
theorem hc_d0_21 : decode prog_3_method_1_code 21 = .ok (.putfield 21, 3) := by decide +kernel
theorem hc_d0_24 : decode prog_3_method_1_code 24 = .ok (.aload_n 0, 1) := by decide +kernel
theorem hc_d0_25 : decode prog_3_method_1_code 25 = .ok (.iconst 0, 1) := by decide +kernel
theorem hc_d0_26 : decode prog_3_method_1_code 26 = .ok (.putfield 24, 3) := by decide +kernel
theorem hc_d0_29 : decode prog_3_method_1_code 29 = .ok (.aload_n 0, 1) := by decide +kernel
theorem hc_d0_30 : decode prog_3_method_1_code 30 = .ok (.bipush 100, 2) := by decide +kernel
theorem hc_d0_32 : decode prog_3_method_1_code 32 = .ok (.newarray .int, 2) := by decide +kernel
theorem hc_d0_34 : decode prog_3_method_1_code 34 = .ok (.putfield 27, 3) := by decide +kernel
theorem hc_d0_37 : decode prog_3_method_1_code 37 = .ok (.return_, 1) := by decide +kernel
set_option maxHeartbeats 8000000 in
set_option maxRecDepth 100000 in
theorem hc_M0 {l : Launch} {D : va_G} {t0 t1 t2 : ClassId} (h0 sz : Nat) : Met l hc_y0 (hz_ws hc_y0 prog_3_method_1_code 1 none) ({ frames := 1, cells := 1, slots := 100, locals := 12 }) (va_Pc [.ref h0] (fun U => U.heap.size = sz ∧ va_P D hzCl [(h0, .inr (0, hc_f0))] U.heap ∧ va_K D hzCl (hz_tys t0 t1 t2) U ∧ va_D (fun _ => True) [(h0, .inr (0, hc_f0))])) (va_Qv (fun _ : Nat → Nat => True) (fun u t => va_P D hzCl (hc_w0 t0 h0 u) t.heap ∧ va_D (va_A [(h0, .inr (0, hc_f0))] sz) (hc_w0 t0 h0 u)) (va_A [(h0, .inr (0, hc_f0))] sz)) 1 100 (va_A [(h0, .inr (0, hc_f0))] sz) := by
  refine Met.ofW (cc := prog_3_method_1_code) (maxL := 1) (ret := none) (by decide) rfl ?_
  intro p e s m args below meth c s₁ B hml hv
  obtain ⟨rfl, hsz, hP, hK, hD0⟩ := hv
  have hx := B.exec
  have hb := B.bytes
  have hr := B.returns
  have hts := atoms_spec (ws := hz_ws hc_y0 prog_3_method_1_code 1 none) B.pre
  have htb : ∀ w ∈ hzTB, w.before #[.ref h0] s = true := fun w hw => hts w (List.mem_cons_of_mem _ hw)
  have hown : s.vm.findClass "HatsOfTheWind$Shelf" = some m.cls := findClass_of_methodNamed B.named
  have hlocks := B.notSynchronized
  have hin : meth.name = "<init>" := (name_of_methodNamed B.named B.method).1
  subst hsz
  have hD := hD0.self (sz := s.heap.size)
  generalize hAe : va_A [(h0, .inr (0, hc_f0))] s.heap.size = A at hD ⊢
  have hA : ∀ q : Nat, s.heap.size ≤ q → A q := fun q h => by rw [← hAe]; exact Or.inr h
  have hS : va_S A s.heap s.heap [] := va_S.rf
  obtain ⟨g01, g02, g03⟩ := hz_cls (ci := 0) rfl
  have hl := lv_entry ([.ref h0]) (n := 1) (Nat.le_of_ble_eq_true rfl)
  rw [lg_entry_eq]
  generalize (lg_sl ([.ref h0]) ++ List.replicate (1 - (lg_sl ([.ref h0])).length) Slot.unset).toArray = ls at hl ⊢
  have hl : lv_has ls 1 [(0, .ref h0)] := hl
  refine lv_aload_n hx hb hc_d0_0 rfl (lv_at hl 0 rfl) ?_
  refine W.objInit hx hb hown (htb _ (hx_tb 127 rfl (by decide +kernel))) (htb _ (hx_tb 60 rfl (by decide +kernel))) (htb _ (hx_tb 61 rfl (by decide +kernel))) rfl (by rw [hml]; exact hl.1) rfl hc_d0_1 (Nat.le_of_ble_eq_true rfl) (Nat.le_of_ble_eq_true rfl) ?_
  refine W.eq (g2 := F0 m 4 ls []) rfl ?_
  refine lv_aload_n hx hb hc_d0_4 rfl (lv_at hl 0 rfl) ?_
  refine lv_iconst (v := 0) hx hb hc_d0_5 (by decide) ?_
  refine va_put (D := D) (ci := 0) (v := .int 0) (ty := .int) (C := hzR0) (T := hzT0) (N := 6) hx hb htb g01 _ g02 g03 hown hK hP hD hS 0 rfl rfl 0 (by decide) (htb _ (hx_tb 128 rfl (by decide +kernel))) (fun _ q => q) rfl (by decide +kernel) rfl rfl (Nat.le_of_ble_eq_true rfl) hc_d0_6 (fun H locs hP hD hS => ?_)
  have hP : va_P D hzCl [(h0, .inr (0, [.int 0, .int 0, .int 0, .int 0, .int 0, .null]))] H := hP
  have hD : va_D A [(h0, .inr (0, [.int 0, .int 0, .int 0, .int 0, .int 0, .null]))] := hD
  refine lv_aload_n hx hb hc_d0_9 rfl (lv_at hl 0 rfl) ?_
  refine lv_iconst (v := 0) hx hb hc_d0_10 (by decide) ?_
  refine va_put (D := D) (ci := 0) (v := .int 0) (ty := .int) (C := hzR0) (T := hzT0) (N := 6) hx hb htb g01 _ g02 g03 hown hK hP hD hS 0 rfl rfl 1 (by decide) (htb _ (hx_tb 130 rfl (by decide +kernel))) (fun _ q => q) rfl (by decide +kernel) rfl rfl (Nat.le_of_ble_eq_true rfl) hc_d0_11 (fun H locs hP hD hS => ?_)
  have hP : va_P D hzCl [(h0, .inr (0, [.int 0, .int 0, .int 0, .int 0, .int 0, .null]))] H := hP
  have hD : va_D A [(h0, .inr (0, [.int 0, .int 0, .int 0, .int 0, .int 0, .null]))] := hD
  refine lv_aload_n hx hb hc_d0_14 rfl (lv_at hl 0 rfl) ?_
  refine lv_iconst (v := 0) hx hb hc_d0_15 (by decide) ?_
  refine va_put (D := D) (ci := 0) (v := .int 0) (ty := .int) (C := hzR0) (T := hzT0) (N := 6) hx hb htb g01 _ g02 g03 hown hK hP hD hS 0 rfl rfl 2 (by decide) (htb _ (hx_tb 132 rfl (by decide +kernel))) (fun _ q => q) rfl (by decide +kernel) rfl rfl (Nat.le_of_ble_eq_true rfl) hc_d0_16 (fun H locs hP hD hS => ?_)
  have hP : va_P D hzCl [(h0, .inr (0, [.int 0, .int 0, .int 0, .int 0, .int 0, .null]))] H := hP
  have hD : va_D A [(h0, .inr (0, [.int 0, .int 0, .int 0, .int 0, .int 0, .null]))] := hD
  refine lv_aload_n hx hb hc_d0_19 rfl (lv_at hl 0 rfl) ?_
  refine lv_iconst (v := 0) hx hb hc_d0_20 (by decide) ?_
  refine va_put (D := D) (ci := 0) (v := .int 0) (ty := .int) (C := hzR0) (T := hzT0) (N := 6) hx hb htb g01 _ g02 g03 hown hK hP hD hS 0 rfl rfl 3 (by decide) (htb _ (hx_tb 134 rfl (by decide +kernel))) (fun _ q => q) rfl (by decide +kernel) rfl rfl (Nat.le_of_ble_eq_true rfl) hc_d0_21 (fun H locs hP hD hS => ?_)
  have hP : va_P D hzCl [(h0, .inr (0, [.int 0, .int 0, .int 0, .int 0, .int 0, .null]))] H := hP
  have hD : va_D A [(h0, .inr (0, [.int 0, .int 0, .int 0, .int 0, .int 0, .null]))] := hD
  refine lv_aload_n hx hb hc_d0_24 rfl (lv_at hl 0 rfl) ?_
  refine lv_iconst (v := 0) hx hb hc_d0_25 (by decide) ?_
  refine va_put (D := D) (ci := 0) (v := .int 0) (ty := .int) (C := hzR0) (T := hzT0) (N := 6) hx hb htb g01 _ g02 g03 hown hK hP hD hS 0 rfl rfl 4 (by decide) (htb _ (hx_tb 136 rfl (by decide +kernel))) (fun _ q => q) rfl (by decide +kernel) rfl rfl (Nat.le_of_ble_eq_true rfl) hc_d0_26 (fun H locs hP hD hS => ?_)
  have hP : va_P D hzCl [(h0, .inr (0, [.int 0, .int 0, .int 0, .int 0, .int 0, .null]))] H := hP
  have hD : va_D A [(h0, .inr (0, [.int 0, .int 0, .int 0, .int 0, .int 0, .null]))] := hD
  refine lv_aload_n hx hb hc_d0_29 rfl (lv_at hl 0 rfl) ?_
  refine lv_bipush (v := 100) hx hb hc_d0_30 (by decide) ?_
  refine hc_newI hx hb (htb _ (hx_tb 120 rfl (by decide +kernel))) hK hP hD hS hA 100 (by decide) rfl (Nat.le_of_ble_eq_true rfl) (Nat.le_of_ble_eq_true rfl) (Nat.le_of_ble_eq_true rfl) hc_d0_32 (fun q0 H hP hD hS => ?_)
  have hP : va_P D hzCl [(h0, .inr (0, [.int 0, .int 0, .int 0, .int 0, .int 0, .null])), hc_ia t0 q0 100] H := hP
  have hD : va_D A [(h0, .inr (0, [.int 0, .int 0, .int 0, .int 0, .int 0, .null])), hc_ia t0 q0 100] := hD
  refine va_putF (D := D) (ci := 0) (v := .ref q0) (ty := (.array .int)) (C := hzR0) (T := hzT0) (N := 6) hx hb htb g01 _ g02 g03 hown hK hP hD hS 0 rfl rfl 5 (by decide) (htb _ (hx_tb 139 rfl (by decide +kernel))) (fun _ q => q) rfl hin rfl (by decide +kernel) rfl rfl (Nat.le_of_ble_eq_true rfl) hc_d0_34 (fun H locs hP hD hS => ?_)
  have hP : va_P D hzCl [(h0, .inr (0, [.int 0, .int 0, .int 0, .int 0, .int 0, .ref q0])), hc_ia t0 q0 100] H := hP
  have hD : va_D A [(h0, .inr (0, [.int 0, .int 0, .int 0, .int 0, .int 0, .ref q0])), hc_ia t0 q0 100] := hD
  refine W.widen (k := 1) (n := 100) (Nat.le_of_ble_eq_true rfl) (Nat.le_of_ble_eq_true rfl) ?_
  refine W.vret hx hb hr (fun t ht hW => ?_) hS.2.2 hc_d0_37
  subst hAe
  exact ⟨⟨hc_u [q0], rfl, trivial, by rw [ht]; exact hP, hD⟩, hS.F ht⟩
abbrev hc_w1 (t0 : ClassId) (h0 : Nat) (u : Nat → Nat) : va_W := [(h0, .inr (1, [.ref (u 0), .int 0, .int 9, .int 0, .int 0, .ref (u 1), .ref (u 2), .ref (u 3), .int 0, .ref (u 4), .ref (u 5), .ref (u 6), .ref (u 7)])), hc_ia t0 (u 0) 24, hc_ia t0 (u 1) 6, hc_ia t0 (u 2) 6, hc_ia t0 (u 3) 6, hc_ia t0 (u 4) 8, hc_ia t0 (u 5) 8, hc_ia t0 (u 6) 8, hc_ia t0 (u 7) 8]
theorem hc_d1_0 : decode prog_4_method_1_code 0 = .ok (.aload_n 0, 1) := by decide +kernel
theorem hc_d1_1 : decode prog_4_method_1_code 1 = .ok (.invokespecial 3, 3) := by decide +kernel
theorem hc_d1_4 : decode prog_4_method_1_code 4 = .ok (.aload_n 0, 1) := by decide +kernel
theorem hc_d1_5 : decode prog_4_method_1_code 5 = .ok (.bipush 24, 2) := by decide +kernel
theorem hc_d1_7 : decode prog_4_method_1_code 7 = .ok (.newarray .int, 2) := by decide +kernel
theorem hc_d1_9 : decode prog_4_method_1_code 9 = .ok (.putfield 9, 3) := by decide +kernel
theorem hc_d1_12 : decode prog_4_method_1_code 12 = .ok (.aload_n 0, 1) := by decide +kernel
theorem hc_d1_13 : decode prog_4_method_1_code 13 = .ok (.iconst 0, 1) := by decide +kernel
theorem hc_d1_14 : decode prog_4_method_1_code 14 = .ok (.putfield 15, 3) := by decide +kernel
theorem hc_d1_17 : decode prog_4_method_1_code 17 = .ok (.aload_n 0, 1) := by decide +kernel
theorem hc_d1_18 : decode prog_4_method_1_code 18 = .ok (.bipush 9, 2) := by decide +kernel
theorem hc_d1_20 : decode prog_4_method_1_code 20 = .ok (.putfield 19, 3) := by decide +kernel
theorem hc_d1_23 : decode prog_4_method_1_code 23 = .ok (.aload_n 0, 1) := by decide +kernel
theorem hc_d1_24 : decode prog_4_method_1_code 24 = .ok (.iconst 0, 1) := by decide +kernel
theorem hc_d1_25 : decode prog_4_method_1_code 25 = .ok (.putfield 22, 3) := by decide +kernel
theorem hc_d1_28 : decode prog_4_method_1_code 28 = .ok (.aload_n 0, 1) := by decide +kernel
theorem hc_d1_29 : decode prog_4_method_1_code 29 = .ok (.iconst 0, 1) := by decide +kernel
theorem hc_d1_30 : decode prog_4_method_1_code 30 = .ok (.putfield 25, 3) := by decide +kernel
theorem hc_d1_33 : decode prog_4_method_1_code 33 = .ok (.aload_n 0, 1) := by decide +kernel
theorem hc_d1_34 : decode prog_4_method_1_code 34 = .ok (.bipush 6, 2) := by decide +kernel
theorem hc_d1_36 : decode prog_4_method_1_code 36 = .ok (.newarray .int, 2) := by decide +kernel
theorem hc_d1_38 : decode prog_4_method_1_code 38 = .ok (.putfield 28, 3) := by decide +kernel
theorem hc_d1_41 : decode prog_4_method_1_code 41 = .ok (.aload_n 0, 1) := by decide +kernel
theorem hc_d1_42 : decode prog_4_method_1_code 42 = .ok (.bipush 6, 2) := by decide +kernel
theorem hc_d1_44 : decode prog_4_method_1_code 44 = .ok (.newarray .int, 2) := by decide +kernel
theorem hc_d1_46 : decode prog_4_method_1_code 46 = .ok (.putfield 31, 3) := by decide +kernel
theorem hc_d1_49 : decode prog_4_method_1_code 49 = .ok (.aload_n 0, 1) := by decide +kernel
theorem hc_d1_50 : decode prog_4_method_1_code 50 = .ok (.bipush 6, 2) := by decide +kernel
theorem hc_d1_52 : decode prog_4_method_1_code 52 = .ok (.newarray .int, 2) := by decide +kernel
theorem hc_d1_54 : decode prog_4_method_1_code 54 = .ok (.putfield 34, 3) := by decide +kernel
theorem hc_d1_57 : decode prog_4_method_1_code 57 = .ok (.aload_n 0, 1) := by decide +kernel
theorem hc_d1_58 : decode prog_4_method_1_code 58 = .ok (.iconst 0, 1) := by decide +kernel
theorem hc_d1_59 : decode prog_4_method_1_code 59 = .ok (.putfield 37, 3) := by decide +kernel
theorem hc_d1_62 : decode prog_4_method_1_code 62 = .ok (.aload_n 0, 1) := by decide +kernel
theorem hc_d1_63 : decode prog_4_method_1_code 63 = .ok (.bipush 8, 2) := by decide +kernel
theorem hc_d1_65 : decode prog_4_method_1_code 65 = .ok (.newarray .int, 2) := by decide +kernel
theorem hc_d1_67 : decode prog_4_method_1_code 67 = .ok (.putfield 40, 3) := by decide +kernel
theorem hc_d1_70 : decode prog_4_method_1_code 70 = .ok (.aload_n 0, 1) := by decide +kernel
theorem hc_d1_71 : decode prog_4_method_1_code 71 = .ok (.bipush 8, 2) := by decide +kernel
theorem hc_d1_73 : decode prog_4_method_1_code 73 = .ok (.newarray .int, 2) := by decide +kernel
theorem hc_d1_75 : decode prog_4_method_1_code 75 = .ok (.putfield 43, 3) := by decide +kernel
theorem hc_d1_78 : decode prog_4_method_1_code 78 = .ok (.aload_n 0, 1) := by decide +kernel
theorem hc_d1_79 : decode prog_4_method_1_code 79 = .ok (.bipush 8, 2) := by decide +kernel
theorem hc_d1_81 : decode prog_4_method_1_code 81 = .ok (.newarray .int, 2) := by decide +kernel
theorem hc_d1_83 : decode prog_4_method_1_code 83 = .ok (.putfield 46, 3) := by decide +kernel
theorem hc_d1_86 : decode prog_4_method_1_code 86 = .ok (.aload_n 0, 1) := by decide +kernel
theorem hc_d1_87 : decode prog_4_method_1_code 87 = .ok (.bipush 8, 2) := by decide +kernel
theorem hc_d1_89 : decode prog_4_method_1_code 89 = .ok (.newarray .int, 2) := by decide +kernel
theorem hc_d1_91 : decode prog_4_method_1_code 91 = .ok (.putfield 49, 3) := by decide +kernel
theorem hc_d1_94 : decode prog_4_method_1_code 94 = .ok (.return_, 1) := by decide +kernel
set_option maxHeartbeats 8000000 in
set_option maxRecDepth 100000 in
theorem hc_M1 {l : Launch} {D : va_G} {t0 t1 t2 : ClassId} (h0 sz : Nat) : Met l hc_y1 (hz_ws hc_y1 prog_4_method_1_code 1 none) ({ frames := 1, cells := 8, slots := 74, locals := 12 }) (va_Pc [.ref h0] (fun U => U.heap.size = sz ∧ va_P D hzCl [(h0, .inr (1, hc_f1))] U.heap ∧ va_K D hzCl (hz_tys t0 t1 t2) U ∧ va_D (fun _ => True) [(h0, .inr (1, hc_f1))])) (va_Qv (fun _ : Nat → Nat => True) (fun u t => va_P D hzCl (hc_w1 t0 h0 u) t.heap ∧ va_D (va_A [(h0, .inr (1, hc_f1))] sz) (hc_w1 t0 h0 u)) (va_A [(h0, .inr (1, hc_f1))] sz)) 8 74 (va_A [(h0, .inr (1, hc_f1))] sz) := by
  refine Met.ofW (cc := prog_4_method_1_code) (maxL := 1) (ret := none) (by decide) rfl ?_
  intro p e s m args below meth c s₁ B hml hv
  obtain ⟨rfl, hsz, hP, hK, hD0⟩ := hv
  have hx := B.exec
  have hb := B.bytes
  have hr := B.returns
  have hts := atoms_spec (ws := hz_ws hc_y1 prog_4_method_1_code 1 none) B.pre
  have htb : ∀ w ∈ hzTB, w.before #[.ref h0] s = true := fun w hw => hts w (List.mem_cons_of_mem _ hw)
  have hown : s.vm.findClass "HatsOfTheWind$Street" = some m.cls := findClass_of_methodNamed B.named
  have hlocks := B.notSynchronized
  have hin : meth.name = "<init>" := (name_of_methodNamed B.named B.method).1
  subst hsz
  have hD := hD0.self (sz := s.heap.size)
  generalize hAe : va_A [(h0, .inr (1, hc_f1))] s.heap.size = A at hD ⊢
  have hA : ∀ q : Nat, s.heap.size ≤ q → A q := fun q h => by rw [← hAe]; exact Or.inr h
  have hS : va_S A s.heap s.heap [] := va_S.rf
  obtain ⟨g11, g12, g13⟩ := hz_cls (ci := 1) rfl
  have hl := lv_entry ([.ref h0]) (n := 1) (Nat.le_of_ble_eq_true rfl)
  rw [lg_entry_eq]
  generalize (lg_sl ([.ref h0]) ++ List.replicate (1 - (lg_sl ([.ref h0])).length) Slot.unset).toArray = ls at hl ⊢
  have hl : lv_has ls 1 [(0, .ref h0)] := hl
  refine lv_aload_n hx hb hc_d1_0 rfl (lv_at hl 0 rfl) ?_
  refine W.objInit hx hb hown (htb _ (hx_tb 67 rfl (by decide +kernel))) (htb _ (hx_tb 60 rfl (by decide +kernel))) (htb _ (hx_tb 61 rfl (by decide +kernel))) rfl (by rw [hml]; exact hl.1) rfl hc_d1_1 (Nat.le_of_ble_eq_true rfl) (Nat.le_of_ble_eq_true rfl) ?_
  refine W.eq (g2 := F0 m 4 ls []) rfl ?_
  refine lv_aload_n hx hb hc_d1_4 rfl (lv_at hl 0 rfl) ?_
  refine lv_bipush (v := 24) hx hb hc_d1_5 (by decide) ?_
  refine hc_newI hx hb (htb _ (hx_tb 120 rfl (by decide +kernel))) hK hP hD hS hA 24 (by decide) rfl (Nat.le_of_ble_eq_true rfl) (Nat.le_of_ble_eq_true rfl) (Nat.le_of_ble_eq_true rfl) hc_d1_7 (fun q0 H hP hD hS => ?_)
  have hP : va_P D hzCl [(h0, .inr (1, hc_f1)), hc_ia t0 q0 24] H := hP
  have hD : va_D A [(h0, .inr (1, hc_f1)), hc_ia t0 q0 24] := hD
  refine va_putF (D := D) (ci := 1) (v := .ref q0) (ty := (.array .int)) (C := hzR1) (T := hzT1) (N := 13) hx hb htb g11 _ g12 g13 hown hK hP hD hS 0 rfl rfl 0 (by decide) (htb _ (hx_tb 68 rfl (by decide +kernel))) (fun _ q => q) rfl hin rfl (by decide +kernel) rfl rfl (Nat.le_of_ble_eq_true rfl) hc_d1_9 (fun H locs hP hD hS => ?_)
  have hP : va_P D hzCl [(h0, .inr (1, [.ref q0, .int 0, .int 0, .int 0, .int 0, .null, .null, .null, .int 0, .null, .null, .null, .null])), hc_ia t0 q0 24] H := hP
  have hD : va_D A [(h0, .inr (1, [.ref q0, .int 0, .int 0, .int 0, .int 0, .null, .null, .null, .int 0, .null, .null, .null, .null])), hc_ia t0 q0 24] := hD
  refine lv_aload_n hx hb hc_d1_12 rfl (lv_at hl 0 rfl) ?_
  refine lv_iconst (v := 0) hx hb hc_d1_13 (by decide) ?_
  refine va_put (D := D) (ci := 1) (v := .int 0) (ty := .int) (C := hzR1) (T := hzT1) (N := 13) hx hb htb g11 _ g12 g13 hown hK hP hD hS 0 rfl rfl 1 (by decide) (htb _ (hx_tb 70 rfl (by decide +kernel))) (fun _ q => q) rfl (by decide +kernel) rfl rfl (Nat.le_of_ble_eq_true rfl) hc_d1_14 (fun H locs hP hD hS => ?_)
  have hP : va_P D hzCl [(h0, .inr (1, [.ref q0, .int 0, .int 0, .int 0, .int 0, .null, .null, .null, .int 0, .null, .null, .null, .null])), hc_ia t0 q0 24] H := hP
  have hD : va_D A [(h0, .inr (1, [.ref q0, .int 0, .int 0, .int 0, .int 0, .null, .null, .null, .int 0, .null, .null, .null, .null])), hc_ia t0 q0 24] := hD
  refine lv_aload_n hx hb hc_d1_17 rfl (lv_at hl 0 rfl) ?_
  refine lv_bipush (v := 9) hx hb hc_d1_18 (by decide) ?_
  refine va_put (D := D) (ci := 1) (v := .int 9) (ty := .int) (C := hzR1) (T := hzT1) (N := 13) hx hb htb g11 _ g12 g13 hown hK hP hD hS 0 rfl rfl 2 (by decide) (htb _ (hx_tb 72 rfl (by decide +kernel))) (fun _ q => q) rfl (by decide +kernel) rfl rfl (Nat.le_of_ble_eq_true rfl) hc_d1_20 (fun H locs hP hD hS => ?_)
  have hP : va_P D hzCl [(h0, .inr (1, [.ref q0, .int 0, .int 9, .int 0, .int 0, .null, .null, .null, .int 0, .null, .null, .null, .null])), hc_ia t0 q0 24] H := hP
  have hD : va_D A [(h0, .inr (1, [.ref q0, .int 0, .int 9, .int 0, .int 0, .null, .null, .null, .int 0, .null, .null, .null, .null])), hc_ia t0 q0 24] := hD
  refine lv_aload_n hx hb hc_d1_23 rfl (lv_at hl 0 rfl) ?_
  refine lv_iconst (v := 0) hx hb hc_d1_24 (by decide) ?_
  refine va_put (D := D) (ci := 1) (v := .int 0) (ty := .int) (C := hzR1) (T := hzT1) (N := 13) hx hb htb g11 _ g12 g13 hown hK hP hD hS 0 rfl rfl 3 (by decide) (htb _ (hx_tb 74 rfl (by decide +kernel))) (fun _ q => q) rfl (by decide +kernel) rfl rfl (Nat.le_of_ble_eq_true rfl) hc_d1_25 (fun H locs hP hD hS => ?_)
  have hP : va_P D hzCl [(h0, .inr (1, [.ref q0, .int 0, .int 9, .int 0, .int 0, .null, .null, .null, .int 0, .null, .null, .null, .null])), hc_ia t0 q0 24] H := hP
  have hD : va_D A [(h0, .inr (1, [.ref q0, .int 0, .int 9, .int 0, .int 0, .null, .null, .null, .int 0, .null, .null, .null, .null])), hc_ia t0 q0 24] := hD
  refine lv_aload_n hx hb hc_d1_28 rfl (lv_at hl 0 rfl) ?_
  refine lv_iconst (v := 0) hx hb hc_d1_29 (by decide) ?_
  refine va_put (D := D) (ci := 1) (v := .int 0) (ty := .int) (C := hzR1) (T := hzT1) (N := 13) hx hb htb g11 _ g12 g13 hown hK hP hD hS 0 rfl rfl 4 (by decide) (htb _ (hx_tb 76 rfl (by decide +kernel))) (fun _ q => q) rfl (by decide +kernel) rfl rfl (Nat.le_of_ble_eq_true rfl) hc_d1_30 (fun H locs hP hD hS => ?_)
  have hP : va_P D hzCl [(h0, .inr (1, [.ref q0, .int 0, .int 9, .int 0, .int 0, .null, .null, .null, .int 0, .null, .null, .null, .null])), hc_ia t0 q0 24] H := hP
  have hD : va_D A [(h0, .inr (1, [.ref q0, .int 0, .int 9, .int 0, .int 0, .null, .null, .null, .int 0, .null, .null, .null, .null])), hc_ia t0 q0 24] := hD
  refine lv_aload_n hx hb hc_d1_33 rfl (lv_at hl 0 rfl) ?_
  refine lv_bipush (v := 6) hx hb hc_d1_34 (by decide) ?_
  refine hc_newI hx hb (htb _ (hx_tb 120 rfl (by decide +kernel))) hK hP hD hS hA 6 (by decide) rfl (Nat.le_of_ble_eq_true rfl) (Nat.le_of_ble_eq_true rfl) (Nat.le_of_ble_eq_true rfl) hc_d1_36 (fun q1 H hP hD hS => ?_)
  have hP : va_P D hzCl [(h0, .inr (1, [.ref q0, .int 0, .int 9, .int 0, .int 0, .null, .null, .null, .int 0, .null, .null, .null, .null])), hc_ia t0 q0 24, hc_ia t0 q1 6] H := hP
  have hD : va_D A [(h0, .inr (1, [.ref q0, .int 0, .int 9, .int 0, .int 0, .null, .null, .null, .int 0, .null, .null, .null, .null])), hc_ia t0 q0 24, hc_ia t0 q1 6] := hD
  refine va_putF (D := D) (ci := 1) (v := .ref q1) (ty := (.array .int)) (C := hzR1) (T := hzT1) (N := 13) hx hb htb g11 _ g12 g13 hown hK hP hD hS 0 rfl rfl 5 (by decide) (htb _ (hx_tb 78 rfl (by decide +kernel))) (fun _ q => q) rfl hin rfl (by decide +kernel) rfl rfl (Nat.le_of_ble_eq_true rfl) hc_d1_38 (fun H locs hP hD hS => ?_)
  have hP : va_P D hzCl [(h0, .inr (1, [.ref q0, .int 0, .int 9, .int 0, .int 0, .ref q1, .null, .null, .int 0, .null, .null, .null, .null])), hc_ia t0 q0 24, hc_ia t0 q1 6] H := hP
  have hD : va_D A [(h0, .inr (1, [.ref q0, .int 0, .int 9, .int 0, .int 0, .ref q1, .null, .null, .int 0, .null, .null, .null, .null])), hc_ia t0 q0 24, hc_ia t0 q1 6] := hD
  refine lv_aload_n hx hb hc_d1_41 rfl (lv_at hl 0 rfl) ?_
  refine lv_bipush (v := 6) hx hb hc_d1_42 (by decide) ?_
  refine hc_newI hx hb (htb _ (hx_tb 120 rfl (by decide +kernel))) hK hP hD hS hA 6 (by decide) rfl (Nat.le_of_ble_eq_true rfl) (Nat.le_of_ble_eq_true rfl) (Nat.le_of_ble_eq_true rfl) hc_d1_44 (fun q2 H hP hD hS => ?_)
  have hP : va_P D hzCl [(h0, .inr (1, [.ref q0, .int 0, .int 9, .int 0, .int 0, .ref q1, .null, .null, .int 0, .null, .null, .null, .null])), hc_ia t0 q0 24, hc_ia t0 q1 6, hc_ia t0 q2 6] H := hP
  have hD : va_D A [(h0, .inr (1, [.ref q0, .int 0, .int 9, .int 0, .int 0, .ref q1, .null, .null, .int 0, .null, .null, .null, .null])), hc_ia t0 q0 24, hc_ia t0 q1 6, hc_ia t0 q2 6] := hD
  refine va_putF (D := D) (ci := 1) (v := .ref q2) (ty := (.array .int)) (C := hzR1) (T := hzT1) (N := 13) hx hb htb g11 _ g12 g13 hown hK hP hD hS 0 rfl rfl 6 (by decide) (htb _ (hx_tb 80 rfl (by decide +kernel))) (fun _ q => q) rfl hin rfl (by decide +kernel) rfl rfl (Nat.le_of_ble_eq_true rfl) hc_d1_46 (fun H locs hP hD hS => ?_)
  have hP : va_P D hzCl [(h0, .inr (1, [.ref q0, .int 0, .int 9, .int 0, .int 0, .ref q1, .ref q2, .null, .int 0, .null, .null, .null, .null])), hc_ia t0 q0 24, hc_ia t0 q1 6, hc_ia t0 q2 6] H := hP
  have hD : va_D A [(h0, .inr (1, [.ref q0, .int 0, .int 9, .int 0, .int 0, .ref q1, .ref q2, .null, .int 0, .null, .null, .null, .null])), hc_ia t0 q0 24, hc_ia t0 q1 6, hc_ia t0 q2 6] := hD
  refine lv_aload_n hx hb hc_d1_49 rfl (lv_at hl 0 rfl) ?_
  refine lv_bipush (v := 6) hx hb hc_d1_50 (by decide) ?_
  refine hc_newI hx hb (htb _ (hx_tb 120 rfl (by decide +kernel))) hK hP hD hS hA 6 (by decide) rfl (Nat.le_of_ble_eq_true rfl) (Nat.le_of_ble_eq_true rfl) (Nat.le_of_ble_eq_true rfl) hc_d1_52 (fun q3 H hP hD hS => ?_)
  have hP : va_P D hzCl [(h0, .inr (1, [.ref q0, .int 0, .int 9, .int 0, .int 0, .ref q1, .ref q2, .null, .int 0, .null, .null, .null, .null])), hc_ia t0 q0 24, hc_ia t0 q1 6, hc_ia t0 q2 6, hc_ia t0 q3 6] H := hP
  have hD : va_D A [(h0, .inr (1, [.ref q0, .int 0, .int 9, .int 0, .int 0, .ref q1, .ref q2, .null, .int 0, .null, .null, .null, .null])), hc_ia t0 q0 24, hc_ia t0 q1 6, hc_ia t0 q2 6, hc_ia t0 q3 6] := hD
  refine va_putF (D := D) (ci := 1) (v := .ref q3) (ty := (.array .int)) (C := hzR1) (T := hzT1) (N := 13) hx hb htb g11 _ g12 g13 hown hK hP hD hS 0 rfl rfl 7 (by decide) (htb _ (hx_tb 82 rfl (by decide +kernel))) (fun _ q => q) rfl hin rfl (by decide +kernel) rfl rfl (Nat.le_of_ble_eq_true rfl) hc_d1_54 (fun H locs hP hD hS => ?_)
  have hP : va_P D hzCl [(h0, .inr (1, [.ref q0, .int 0, .int 9, .int 0, .int 0, .ref q1, .ref q2, .ref q3, .int 0, .null, .null, .null, .null])), hc_ia t0 q0 24, hc_ia t0 q1 6, hc_ia t0 q2 6, hc_ia t0 q3 6] H := hP
  have hD : va_D A [(h0, .inr (1, [.ref q0, .int 0, .int 9, .int 0, .int 0, .ref q1, .ref q2, .ref q3, .int 0, .null, .null, .null, .null])), hc_ia t0 q0 24, hc_ia t0 q1 6, hc_ia t0 q2 6, hc_ia t0 q3 6] := hD
  refine lv_aload_n hx hb hc_d1_57 rfl (lv_at hl 0 rfl) ?_
  refine lv_iconst (v := 0) hx hb hc_d1_58 (by decide) ?_
  refine va_put (D := D) (ci := 1) (v := .int 0) (ty := .int) (C := hzR1) (T := hzT1) (N := 13) hx hb htb g11 _ g12 g13 hown hK hP hD hS 0 rfl rfl 8 (by decide) (htb _ (hx_tb 84 rfl (by decide +kernel))) (fun _ q => q) rfl (by decide +kernel) rfl rfl (Nat.le_of_ble_eq_true rfl) hc_d1_59 (fun H locs hP hD hS => ?_)
  have hP : va_P D hzCl [(h0, .inr (1, [.ref q0, .int 0, .int 9, .int 0, .int 0, .ref q1, .ref q2, .ref q3, .int 0, .null, .null, .null, .null])), hc_ia t0 q0 24, hc_ia t0 q1 6, hc_ia t0 q2 6, hc_ia t0 q3 6] H := hP
  have hD : va_D A [(h0, .inr (1, [.ref q0, .int 0, .int 9, .int 0, .int 0, .ref q1, .ref q2, .ref q3, .int 0, .null, .null, .null, .null])), hc_ia t0 q0 24, hc_ia t0 q1 6, hc_ia t0 q2 6, hc_ia t0 q3 6] := hD
  refine lv_aload_n hx hb hc_d1_62 rfl (lv_at hl 0 rfl) ?_
  refine lv_bipush (v := 8) hx hb hc_d1_63 (by decide) ?_
  refine hc_newI hx hb (htb _ (hx_tb 120 rfl (by decide +kernel))) hK hP hD hS hA 8 (by decide) rfl (Nat.le_of_ble_eq_true rfl) (Nat.le_of_ble_eq_true rfl) (Nat.le_of_ble_eq_true rfl) hc_d1_65 (fun q4 H hP hD hS => ?_)
  have hP : va_P D hzCl [(h0, .inr (1, [.ref q0, .int 0, .int 9, .int 0, .int 0, .ref q1, .ref q2, .ref q3, .int 0, .null, .null, .null, .null])), hc_ia t0 q0 24, hc_ia t0 q1 6, hc_ia t0 q2 6, hc_ia t0 q3 6, hc_ia t0 q4 8] H := hP
  have hD : va_D A [(h0, .inr (1, [.ref q0, .int 0, .int 9, .int 0, .int 0, .ref q1, .ref q2, .ref q3, .int 0, .null, .null, .null, .null])), hc_ia t0 q0 24, hc_ia t0 q1 6, hc_ia t0 q2 6, hc_ia t0 q3 6, hc_ia t0 q4 8] := hD
  refine va_putF (D := D) (ci := 1) (v := .ref q4) (ty := (.array .int)) (C := hzR1) (T := hzT1) (N := 13) hx hb htb g11 _ g12 g13 hown hK hP hD hS 0 rfl rfl 9 (by decide) (htb _ (hx_tb 86 rfl (by decide +kernel))) (fun _ q => q) rfl hin rfl (by decide +kernel) rfl rfl (Nat.le_of_ble_eq_true rfl) hc_d1_67 (fun H locs hP hD hS => ?_)
  have hP : va_P D hzCl [(h0, .inr (1, [.ref q0, .int 0, .int 9, .int 0, .int 0, .ref q1, .ref q2, .ref q3, .int 0, .ref q4, .null, .null, .null])), hc_ia t0 q0 24, hc_ia t0 q1 6, hc_ia t0 q2 6, hc_ia t0 q3 6, hc_ia t0 q4 8] H := hP
  have hD : va_D A [(h0, .inr (1, [.ref q0, .int 0, .int 9, .int 0, .int 0, .ref q1, .ref q2, .ref q3, .int 0, .ref q4, .null, .null, .null])), hc_ia t0 q0 24, hc_ia t0 q1 6, hc_ia t0 q2 6, hc_ia t0 q3 6, hc_ia t0 q4 8] := hD
  refine lv_aload_n hx hb hc_d1_70 rfl (lv_at hl 0 rfl) ?_
  refine lv_bipush (v := 8) hx hb hc_d1_71 (by decide) ?_
  refine hc_newI hx hb (htb _ (hx_tb 120 rfl (by decide +kernel))) hK hP hD hS hA 8 (by decide) rfl (Nat.le_of_ble_eq_true rfl) (Nat.le_of_ble_eq_true rfl) (Nat.le_of_ble_eq_true rfl) hc_d1_73 (fun q5 H hP hD hS => ?_)
  have hP : va_P D hzCl [(h0, .inr (1, [.ref q0, .int 0, .int 9, .int 0, .int 0, .ref q1, .ref q2, .ref q3, .int 0, .ref q4, .null, .null, .null])), hc_ia t0 q0 24, hc_ia t0 q1 6, hc_ia t0 q2 6, hc_ia t0 q3 6, hc_ia t0 q4 8, hc_ia t0 q5 8] H := hP
  have hD : va_D A [(h0, .inr (1, [.ref q0, .int 0, .int 9, .int 0, .int 0, .ref q1, .ref q2, .ref q3, .int 0, .ref q4, .null, .null, .null])), hc_ia t0 q0 24, hc_ia t0 q1 6, hc_ia t0 q2 6, hc_ia t0 q3 6, hc_ia t0 q4 8, hc_ia t0 q5 8] := hD
  refine va_putF (D := D) (ci := 1) (v := .ref q5) (ty := (.array .int)) (C := hzR1) (T := hzT1) (N := 13) hx hb htb g11 _ g12 g13 hown hK hP hD hS 0 rfl rfl 10 (by decide) (htb _ (hx_tb 88 rfl (by decide +kernel))) (fun _ q => q) rfl hin rfl (by decide +kernel) rfl rfl (Nat.le_of_ble_eq_true rfl) hc_d1_75 (fun H locs hP hD hS => ?_)
  have hP : va_P D hzCl [(h0, .inr (1, [.ref q0, .int 0, .int 9, .int 0, .int 0, .ref q1, .ref q2, .ref q3, .int 0, .ref q4, .ref q5, .null, .null])), hc_ia t0 q0 24, hc_ia t0 q1 6, hc_ia t0 q2 6, hc_ia t0 q3 6, hc_ia t0 q4 8, hc_ia t0 q5 8] H := hP
  have hD : va_D A [(h0, .inr (1, [.ref q0, .int 0, .int 9, .int 0, .int 0, .ref q1, .ref q2, .ref q3, .int 0, .ref q4, .ref q5, .null, .null])), hc_ia t0 q0 24, hc_ia t0 q1 6, hc_ia t0 q2 6, hc_ia t0 q3 6, hc_ia t0 q4 8, hc_ia t0 q5 8] := hD
  refine lv_aload_n hx hb hc_d1_78 rfl (lv_at hl 0 rfl) ?_
  refine lv_bipush (v := 8) hx hb hc_d1_79 (by decide) ?_
  refine hc_newI hx hb (htb _ (hx_tb 120 rfl (by decide +kernel))) hK hP hD hS hA 8 (by decide) rfl (Nat.le_of_ble_eq_true rfl) (Nat.le_of_ble_eq_true rfl) (Nat.le_of_ble_eq_true rfl) hc_d1_81 (fun q6 H hP hD hS => ?_)
  have hP : va_P D hzCl [(h0, .inr (1, [.ref q0, .int 0, .int 9, .int 0, .int 0, .ref q1, .ref q2, .ref q3, .int 0, .ref q4, .ref q5, .null, .null])), hc_ia t0 q0 24, hc_ia t0 q1 6, hc_ia t0 q2 6, hc_ia t0 q3 6, hc_ia t0 q4 8, hc_ia t0 q5 8, hc_ia t0 q6 8] H := hP
  have hD : va_D A [(h0, .inr (1, [.ref q0, .int 0, .int 9, .int 0, .int 0, .ref q1, .ref q2, .ref q3, .int 0, .ref q4, .ref q5, .null, .null])), hc_ia t0 q0 24, hc_ia t0 q1 6, hc_ia t0 q2 6, hc_ia t0 q3 6, hc_ia t0 q4 8, hc_ia t0 q5 8, hc_ia t0 q6 8] := hD
  refine va_putF (D := D) (ci := 1) (v := .ref q6) (ty := (.array .int)) (C := hzR1) (T := hzT1) (N := 13) hx hb htb g11 _ g12 g13 hown hK hP hD hS 0 rfl rfl 11 (by decide) (htb _ (hx_tb 90 rfl (by decide +kernel))) (fun _ q => q) rfl hin rfl (by decide +kernel) rfl rfl (Nat.le_of_ble_eq_true rfl) hc_d1_83 (fun H locs hP hD hS => ?_)
  have hP : va_P D hzCl [(h0, .inr (1, [.ref q0, .int 0, .int 9, .int 0, .int 0, .ref q1, .ref q2, .ref q3, .int 0, .ref q4, .ref q5, .ref q6, .null])), hc_ia t0 q0 24, hc_ia t0 q1 6, hc_ia t0 q2 6, hc_ia t0 q3 6, hc_ia t0 q4 8, hc_ia t0 q5 8, hc_ia t0 q6 8] H := hP
  have hD : va_D A [(h0, .inr (1, [.ref q0, .int 0, .int 9, .int 0, .int 0, .ref q1, .ref q2, .ref q3, .int 0, .ref q4, .ref q5, .ref q6, .null])), hc_ia t0 q0 24, hc_ia t0 q1 6, hc_ia t0 q2 6, hc_ia t0 q3 6, hc_ia t0 q4 8, hc_ia t0 q5 8, hc_ia t0 q6 8] := hD
  refine lv_aload_n hx hb hc_d1_86 rfl (lv_at hl 0 rfl) ?_
  refine lv_bipush (v := 8) hx hb hc_d1_87 (by decide) ?_
  refine hc_newI hx hb (htb _ (hx_tb 120 rfl (by decide +kernel))) hK hP hD hS hA 8 (by decide) rfl (Nat.le_of_ble_eq_true rfl) (Nat.le_of_ble_eq_true rfl) (Nat.le_of_ble_eq_true rfl) hc_d1_89 (fun q7 H hP hD hS => ?_)
  have hP : va_P D hzCl [(h0, .inr (1, [.ref q0, .int 0, .int 9, .int 0, .int 0, .ref q1, .ref q2, .ref q3, .int 0, .ref q4, .ref q5, .ref q6, .null])), hc_ia t0 q0 24, hc_ia t0 q1 6, hc_ia t0 q2 6, hc_ia t0 q3 6, hc_ia t0 q4 8, hc_ia t0 q5 8, hc_ia t0 q6 8, hc_ia t0 q7 8] H := hP
  have hD : va_D A [(h0, .inr (1, [.ref q0, .int 0, .int 9, .int 0, .int 0, .ref q1, .ref q2, .ref q3, .int 0, .ref q4, .ref q5, .ref q6, .null])), hc_ia t0 q0 24, hc_ia t0 q1 6, hc_ia t0 q2 6, hc_ia t0 q3 6, hc_ia t0 q4 8, hc_ia t0 q5 8, hc_ia t0 q6 8, hc_ia t0 q7 8] := hD
  refine va_putF (D := D) (ci := 1) (v := .ref q7) (ty := (.array .int)) (C := hzR1) (T := hzT1) (N := 13) hx hb htb g11 _ g12 g13 hown hK hP hD hS 0 rfl rfl 12 (by decide) (htb _ (hx_tb 92 rfl (by decide +kernel))) (fun _ q => q) rfl hin rfl (by decide +kernel) rfl rfl (Nat.le_of_ble_eq_true rfl) hc_d1_91 (fun H locs hP hD hS => ?_)
  have hP : va_P D hzCl [(h0, .inr (1, [.ref q0, .int 0, .int 9, .int 0, .int 0, .ref q1, .ref q2, .ref q3, .int 0, .ref q4, .ref q5, .ref q6, .ref q7])), hc_ia t0 q0 24, hc_ia t0 q1 6, hc_ia t0 q2 6, hc_ia t0 q3 6, hc_ia t0 q4 8, hc_ia t0 q5 8, hc_ia t0 q6 8, hc_ia t0 q7 8] H := hP
  have hD : va_D A [(h0, .inr (1, [.ref q0, .int 0, .int 9, .int 0, .int 0, .ref q1, .ref q2, .ref q3, .int 0, .ref q4, .ref q5, .ref q6, .ref q7])), hc_ia t0 q0 24, hc_ia t0 q1 6, hc_ia t0 q2 6, hc_ia t0 q3 6, hc_ia t0 q4 8, hc_ia t0 q5 8, hc_ia t0 q6 8, hc_ia t0 q7 8] := hD
  refine W.widen (k := 8) (n := 74) (Nat.le_of_ble_eq_true rfl) (Nat.le_of_ble_eq_true rfl) ?_
  refine W.vret hx hb hr (fun t ht hW => ?_) hS.2.2 hc_d1_94
  subst hAe
  exact ⟨⟨hc_u [q0, q1, q2, q3, q4, q5, q6, q7], rfl, trivial, by rw [ht]; exact hP, hD⟩, hS.F ht⟩
abbrev hc_w3 (t0 : ClassId) (h0 : Nat) (u : Nat → Nat) : va_W := [(h0, .inr (3, [.ref (u 0), .ref (u 1), .ref (u 2), .ref (u 3), .int 0, .int 0, .int 0, .int 0, .ref (u 4), .int 0, .ref (u 5), .ref (u 6), .ref (u 7), .ref (u 8), .ref (u 9), .ref (u 10), .int 0])), (u 0, .inl (t0, 80, .inl (upd (fun _ => 0) (2 : Int32).toNatClampNeg 9))), hc_ia t0 (u 1) 80, hc_ia t0 (u 2) 80, hc_ia t0 (u 3) 80, hc_ia t0 (u 4) 3, hc_ia t0 (u 5) 8, hc_ia t0 (u 6) 8, hc_ia t0 (u 7) 8, hc_ia t0 (u 8) 8, hc_ia t0 (u 9) 8, hc_ia t0 (u 10) 800]
theorem hc_d3_0 : decode prog_7_method_1_code 0 = .ok (.aload_n 0, 1) := by decide +kernel
theorem hc_d3_1 : decode prog_7_method_1_code 1 = .ok (.invokespecial 1, 3) := by decide +kernel
theorem hc_d3_4 : decode prog_7_method_1_code 4 = .ok (.aload_n 0, 1) := by decide +kernel
theorem hc_d3_5 : decode prog_7_method_1_code 5 = .ok (.bipush 80, 2) := by decide +kernel
theorem hc_d3_7 : decode prog_7_method_1_code 7 = .ok (.newarray .int, 2) := by decide +kernel
theorem hc_d3_9 : decode prog_7_method_1_code 9 = .ok (.putfield 9, 3) := by decide +kernel
theorem hc_d3_12 : decode prog_7_method_1_code 12 = .ok (.aload_n 0, 1) := by decide +kernel
theorem hc_d3_13 : decode prog_7_method_1_code 13 = .ok (.bipush 80, 2) := by decide +kernel
theorem hc_d3_15 : decode prog_7_method_1_code 15 = .ok (.newarray .int, 2) := by decide +kernel
theorem hc_d3_17 : decode prog_7_method_1_code 17 = .ok (.putfield 13, 3) := by decide +kernel
theorem hc_d3_20 : decode prog_7_method_1_code 20 = .ok (.aload_n 0, 1) := by decide +kernel
theorem hc_d3_21 : decode prog_7_method_1_code 21 = .ok (.bipush 80, 2) := by decide +kernel
theorem hc_d3_23 : decode prog_7_method_1_code 23 = .ok (.newarray .int, 2) := by decide +kernel
theorem hc_d3_25 : decode prog_7_method_1_code 25 = .ok (.putfield 16, 3) := by decide +kernel
theorem hc_d3_28 : decode prog_7_method_1_code 28 = .ok (.aload_n 0, 1) := by decide +kernel
theorem hc_d3_29 : decode prog_7_method_1_code 29 = .ok (.bipush 80, 2) := by decide +kernel
theorem hc_d3_31 : decode prog_7_method_1_code 31 = .ok (.newarray .int, 2) := by decide +kernel
theorem hc_d3_33 : decode prog_7_method_1_code 33 = .ok (.putfield 19, 3) := by decide +kernel
theorem hc_d3_36 : decode prog_7_method_1_code 36 = .ok (.aload_n 0, 1) := by decide +kernel
theorem hc_d3_37 : decode prog_7_method_1_code 37 = .ok (.iconst 3, 1) := by decide +kernel
theorem hc_d3_38 : decode prog_7_method_1_code 38 = .ok (.newarray .int, 2) := by decide +kernel
theorem hc_d3_40 : decode prog_7_method_1_code 40 = .ok (.putfield 22, 3) := by decide +kernel
theorem hc_d3_43 : decode prog_7_method_1_code 43 = .ok (.aload_n 0, 1) := by decide +kernel
theorem hc_d3_44 : decode prog_7_method_1_code 44 = .ok (.bipush 8, 2) := by decide +kernel
theorem hc_d3_46 : decode prog_7_method_1_code 46 = .ok (.newarray .int, 2) := by decide +kernel
theorem hc_d3_48 : decode prog_7_method_1_code 48 = .ok (.putfield 25, 3) := by decide +kernel
theorem hc_d3_51 : decode prog_7_method_1_code 51 = .ok (.aload_n 0, 1) := by decide +kernel
theorem hc_d3_52 : decode prog_7_method_1_code 52 = .ok (.bipush 8, 2) := by decide +kernel
theorem hc_d3_54 : decode prog_7_method_1_code 54 = .ok (.newarray .int, 2) := by decide +kernel
theorem hc_d3_56 : decode prog_7_method_1_code 56 = .ok (.putfield 28, 3) := by decide +kernel
theorem hc_d3_59 : decode prog_7_method_1_code 59 = .ok (.aload_n 0, 1) := by decide +kernel
theorem hc_d3_60 : decode prog_7_method_1_code 60 = .ok (.bipush 8, 2) := by decide +kernel
theorem hc_d3_62 : decode prog_7_method_1_code 62 = .ok (.newarray .int, 2) := by decide +kernel
theorem hc_d3_64 : decode prog_7_method_1_code 64 = .ok (.putfield 31, 3) := by decide +kernel
theorem hc_d3_67 : decode prog_7_method_1_code 67 = .ok (.aload_n 0, 1) := by decide +kernel
theorem hc_d3_68 : decode prog_7_method_1_code 68 = .ok (.bipush 8, 2) := by decide +kernel
theorem hc_d3_70 : decode prog_7_method_1_code 70 = .ok (.newarray .int, 2) := by decide +kernel
theorem hc_d3_72 : decode prog_7_method_1_code 72 = .ok (.putfield 34, 3) := by decide +kernel
theorem hc_d3_75 : decode prog_7_method_1_code 75 = .ok (.aload_n 0, 1) := by decide +kernel
theorem hc_d3_76 : decode prog_7_method_1_code 76 = .ok (.bipush 8, 2) := by decide +kernel
theorem hc_d3_78 : decode prog_7_method_1_code 78 = .ok (.newarray .int, 2) := by decide +kernel
theorem hc_d3_80 : decode prog_7_method_1_code 80 = .ok (.putfield 37, 3) := by decide +kernel
theorem hc_d3_83 : decode prog_7_method_1_code 83 = .ok (.aload_n 0, 1) := by decide +kernel
theorem hc_d3_84 : decode prog_7_method_1_code 84 = .ok (.sipush 800, 3) := by decide +kernel
theorem hc_d3_87 : decode prog_7_method_1_code 87 = .ok (.newarray .int, 2) := by decide +kernel
theorem hc_d3_89 : decode prog_7_method_1_code 89 = .ok (.putfield 40, 3) := by decide +kernel
theorem hc_d3_92 : decode prog_7_method_1_code 92 = .ok (.aload_n 0, 1) := by decide +kernel
theorem hc_d3_93 : decode prog_7_method_1_code 93 = .ok (.getfield 9, 3) := by decide +kernel
theorem hc_d3_96 : decode prog_7_method_1_code 96 = .ok (.iconst 2, 1) := by decide +kernel
theorem hc_d3_97 : decode prog_7_method_1_code 97 = .ok (.bipush 9, 2) := by decide +kernel
theorem hc_d3_99 : decode prog_7_method_1_code 99 = .ok (.iastore, 1) := by decide +kernel
theorem hc_d3_100 : decode prog_7_method_1_code 100 = .ok (.return_, 1) := by decide +kernel
set_option maxHeartbeats 8000000 in
set_option maxRecDepth 100000 in
theorem hc_M3 {l : Launch} {D : va_G} {t0 t1 t2 : ClassId} (h0 sz : Nat) : Met l hc_y3 (hz_ws hc_y3 prog_7_method_1_code 1 none) ({ frames := 1, cells := 11, slots := 1163, locals := 12 }) (va_Pc [.ref h0] (fun U => U.heap.size = sz ∧ va_P D hzCl [(h0, .inr (3, hc_f3))] U.heap ∧ va_K D hzCl (hz_tys t0 t1 t2) U ∧ va_D (fun _ => True) [(h0, .inr (3, hc_f3))])) (va_Qv (fun _ : Nat → Nat => True) (fun u t => va_P D hzCl (hc_w3 t0 h0 u) t.heap ∧ va_D (va_A [(h0, .inr (3, hc_f3))] sz) (hc_w3 t0 h0 u)) (va_A [(h0, .inr (3, hc_f3))] sz)) 11 1163 (va_A [(h0, .inr (3, hc_f3))] sz) := by
  refine Met.ofW (cc := prog_7_method_1_code) (maxL := 1) (ret := none) (by decide) rfl ?_
  intro p e s m args below meth c s₁ B hml hv
  obtain ⟨rfl, hsz, hP, hK, hD0⟩ := hv
  have hx := B.exec
  have hb := B.bytes
  have hr := B.returns
  have hts := atoms_spec (ws := hz_ws hc_y3 prog_7_method_1_code 1 none) B.pre
  have htb : ∀ w ∈ hzTB, w.before #[.ref h0] s = true := fun w hw => hts w (List.mem_cons_of_mem _ hw)
  have hown : s.vm.findClass "HatsOfTheWindModel" = some m.cls := findClass_of_methodNamed B.named
  have hlocks := B.notSynchronized
  have hin : meth.name = "<init>" := (name_of_methodNamed B.named B.method).1
  subst hsz
  have hD := hD0.self (sz := s.heap.size)
  generalize hAe : va_A [(h0, .inr (3, hc_f3))] s.heap.size = A at hD ⊢
  have hA : ∀ q : Nat, s.heap.size ≤ q → A q := fun q h => by rw [← hAe]; exact Or.inr h
  have hS : va_S A s.heap s.heap [] := va_S.rf
  obtain ⟨g31, g32, g33⟩ := hz_cls (ci := 3) rfl
  have hl := lv_entry ([.ref h0]) (n := 1) (Nat.le_of_ble_eq_true rfl)
  rw [lg_entry_eq]
  generalize (lg_sl ([.ref h0]) ++ List.replicate (1 - (lg_sl ([.ref h0])).length) Slot.unset).toArray = ls at hl ⊢
  have hl : lv_has ls 1 [(0, .ref h0)] := hl
  refine lv_aload_n hx hb hc_d3_0 rfl (lv_at hl 0 rfl) ?_
  refine W.objInit hx hb hown (htb _ (hx_tb 806 rfl (by decide +kernel))) (htb _ (hx_tb 60 rfl (by decide +kernel))) (htb _ (hx_tb 61 rfl (by decide +kernel))) rfl (by rw [hml]; exact hl.1) rfl hc_d3_1 (Nat.le_of_ble_eq_true rfl) (Nat.le_of_ble_eq_true rfl) ?_
  refine W.eq (g2 := F0 m 4 ls []) rfl ?_
  refine lv_aload_n hx hb hc_d3_4 rfl (lv_at hl 0 rfl) ?_
  refine lv_bipush (v := 80) hx hb hc_d3_5 (by decide) ?_
  refine hc_newI hx hb (htb _ (hx_tb 120 rfl (by decide +kernel))) hK hP hD hS hA 80 (by decide) rfl (Nat.le_of_ble_eq_true rfl) (Nat.le_of_ble_eq_true rfl) (Nat.le_of_ble_eq_true rfl) hc_d3_7 (fun q0 H hP hD hS => ?_)
  have hP : va_P D hzCl [(h0, .inr (3, hc_f3)), hc_ia t0 q0 80] H := hP
  have hD : va_D A [(h0, .inr (3, hc_f3)), hc_ia t0 q0 80] := hD
  refine va_putF (D := D) (ci := 3) (v := .ref q0) (ty := (.array .int)) (C := hzR3) (T := hzT3) (N := 17) hx hb htb g31 _ g32 g33 hown hK hP hD hS 0 rfl rfl 0 (by decide) (htb _ (hx_tb 807 rfl (by decide +kernel))) (fun _ q => q) rfl hin rfl (by decide +kernel) rfl rfl (Nat.le_of_ble_eq_true rfl) hc_d3_9 (fun H locs hP hD hS => ?_)
  have hP : va_P D hzCl [(h0, .inr (3, [.ref q0, .null, .null, .null, .int 0, .int 0, .int 0, .int 0, .null, .int 0, .null, .null, .null, .null, .null, .null, .int 0])), hc_ia t0 q0 80] H := hP
  have hD : va_D A [(h0, .inr (3, [.ref q0, .null, .null, .null, .int 0, .int 0, .int 0, .int 0, .null, .int 0, .null, .null, .null, .null, .null, .null, .int 0])), hc_ia t0 q0 80] := hD
  refine lv_aload_n hx hb hc_d3_12 rfl (lv_at hl 0 rfl) ?_
  refine lv_bipush (v := 80) hx hb hc_d3_13 (by decide) ?_
  refine hc_newI hx hb (htb _ (hx_tb 120 rfl (by decide +kernel))) hK hP hD hS hA 80 (by decide) rfl (Nat.le_of_ble_eq_true rfl) (Nat.le_of_ble_eq_true rfl) (Nat.le_of_ble_eq_true rfl) hc_d3_15 (fun q1 H hP hD hS => ?_)
  have hP : va_P D hzCl [(h0, .inr (3, [.ref q0, .null, .null, .null, .int 0, .int 0, .int 0, .int 0, .null, .int 0, .null, .null, .null, .null, .null, .null, .int 0])), hc_ia t0 q0 80, hc_ia t0 q1 80] H := hP
  have hD : va_D A [(h0, .inr (3, [.ref q0, .null, .null, .null, .int 0, .int 0, .int 0, .int 0, .null, .int 0, .null, .null, .null, .null, .null, .null, .int 0])), hc_ia t0 q0 80, hc_ia t0 q1 80] := hD
  refine va_putF (D := D) (ci := 3) (v := .ref q1) (ty := (.array .int)) (C := hzR3) (T := hzT3) (N := 17) hx hb htb g31 _ g32 g33 hown hK hP hD hS 0 rfl rfl 1 (by decide) (htb _ (hx_tb 808 rfl (by decide +kernel))) (fun _ q => q) rfl hin rfl (by decide +kernel) rfl rfl (Nat.le_of_ble_eq_true rfl) hc_d3_17 (fun H locs hP hD hS => ?_)
  have hP : va_P D hzCl [(h0, .inr (3, [.ref q0, .ref q1, .null, .null, .int 0, .int 0, .int 0, .int 0, .null, .int 0, .null, .null, .null, .null, .null, .null, .int 0])), hc_ia t0 q0 80, hc_ia t0 q1 80] H := hP
  have hD : va_D A [(h0, .inr (3, [.ref q0, .ref q1, .null, .null, .int 0, .int 0, .int 0, .int 0, .null, .int 0, .null, .null, .null, .null, .null, .null, .int 0])), hc_ia t0 q0 80, hc_ia t0 q1 80] := hD
  refine lv_aload_n hx hb hc_d3_20 rfl (lv_at hl 0 rfl) ?_
  refine lv_bipush (v := 80) hx hb hc_d3_21 (by decide) ?_
  refine hc_newI hx hb (htb _ (hx_tb 120 rfl (by decide +kernel))) hK hP hD hS hA 80 (by decide) rfl (Nat.le_of_ble_eq_true rfl) (Nat.le_of_ble_eq_true rfl) (Nat.le_of_ble_eq_true rfl) hc_d3_23 (fun q2 H hP hD hS => ?_)
  have hP : va_P D hzCl [(h0, .inr (3, [.ref q0, .ref q1, .null, .null, .int 0, .int 0, .int 0, .int 0, .null, .int 0, .null, .null, .null, .null, .null, .null, .int 0])), hc_ia t0 q0 80, hc_ia t0 q1 80, hc_ia t0 q2 80] H := hP
  have hD : va_D A [(h0, .inr (3, [.ref q0, .ref q1, .null, .null, .int 0, .int 0, .int 0, .int 0, .null, .int 0, .null, .null, .null, .null, .null, .null, .int 0])), hc_ia t0 q0 80, hc_ia t0 q1 80, hc_ia t0 q2 80] := hD
  refine va_putF (D := D) (ci := 3) (v := .ref q2) (ty := (.array .int)) (C := hzR3) (T := hzT3) (N := 17) hx hb htb g31 _ g32 g33 hown hK hP hD hS 0 rfl rfl 2 (by decide) (htb _ (hx_tb 809 rfl (by decide +kernel))) (fun _ q => q) rfl hin rfl (by decide +kernel) rfl rfl (Nat.le_of_ble_eq_true rfl) hc_d3_25 (fun H locs hP hD hS => ?_)
  have hP : va_P D hzCl [(h0, .inr (3, [.ref q0, .ref q1, .ref q2, .null, .int 0, .int 0, .int 0, .int 0, .null, .int 0, .null, .null, .null, .null, .null, .null, .int 0])), hc_ia t0 q0 80, hc_ia t0 q1 80, hc_ia t0 q2 80] H := hP
  have hD : va_D A [(h0, .inr (3, [.ref q0, .ref q1, .ref q2, .null, .int 0, .int 0, .int 0, .int 0, .null, .int 0, .null, .null, .null, .null, .null, .null, .int 0])), hc_ia t0 q0 80, hc_ia t0 q1 80, hc_ia t0 q2 80] := hD
  refine lv_aload_n hx hb hc_d3_28 rfl (lv_at hl 0 rfl) ?_
  refine lv_bipush (v := 80) hx hb hc_d3_29 (by decide) ?_
  refine hc_newI hx hb (htb _ (hx_tb 120 rfl (by decide +kernel))) hK hP hD hS hA 80 (by decide) rfl (Nat.le_of_ble_eq_true rfl) (Nat.le_of_ble_eq_true rfl) (Nat.le_of_ble_eq_true rfl) hc_d3_31 (fun q3 H hP hD hS => ?_)
  have hP : va_P D hzCl [(h0, .inr (3, [.ref q0, .ref q1, .ref q2, .null, .int 0, .int 0, .int 0, .int 0, .null, .int 0, .null, .null, .null, .null, .null, .null, .int 0])), hc_ia t0 q0 80, hc_ia t0 q1 80, hc_ia t0 q2 80, hc_ia t0 q3 80] H := hP
  have hD : va_D A [(h0, .inr (3, [.ref q0, .ref q1, .ref q2, .null, .int 0, .int 0, .int 0, .int 0, .null, .int 0, .null, .null, .null, .null, .null, .null, .int 0])), hc_ia t0 q0 80, hc_ia t0 q1 80, hc_ia t0 q2 80, hc_ia t0 q3 80] := hD
  refine va_putF (D := D) (ci := 3) (v := .ref q3) (ty := (.array .int)) (C := hzR3) (T := hzT3) (N := 17) hx hb htb g31 _ g32 g33 hown hK hP hD hS 0 rfl rfl 3 (by decide) (htb _ (hx_tb 810 rfl (by decide +kernel))) (fun _ q => q) rfl hin rfl (by decide +kernel) rfl rfl (Nat.le_of_ble_eq_true rfl) hc_d3_33 (fun H locs hP hD hS => ?_)
  have hP : va_P D hzCl [(h0, .inr (3, [.ref q0, .ref q1, .ref q2, .ref q3, .int 0, .int 0, .int 0, .int 0, .null, .int 0, .null, .null, .null, .null, .null, .null, .int 0])), hc_ia t0 q0 80, hc_ia t0 q1 80, hc_ia t0 q2 80, hc_ia t0 q3 80] H := hP
  have hD : va_D A [(h0, .inr (3, [.ref q0, .ref q1, .ref q2, .ref q3, .int 0, .int 0, .int 0, .int 0, .null, .int 0, .null, .null, .null, .null, .null, .null, .int 0])), hc_ia t0 q0 80, hc_ia t0 q1 80, hc_ia t0 q2 80, hc_ia t0 q3 80] := hD
  refine lv_aload_n hx hb hc_d3_36 rfl (lv_at hl 0 rfl) ?_
  refine lv_iconst (v := 3) hx hb hc_d3_37 (by decide) ?_
  refine hc_newI hx hb (htb _ (hx_tb 120 rfl (by decide +kernel))) hK hP hD hS hA 3 (by decide) rfl (Nat.le_of_ble_eq_true rfl) (Nat.le_of_ble_eq_true rfl) (Nat.le_of_ble_eq_true rfl) hc_d3_38 (fun q4 H hP hD hS => ?_)
  have hP : va_P D hzCl [(h0, .inr (3, [.ref q0, .ref q1, .ref q2, .ref q3, .int 0, .int 0, .int 0, .int 0, .null, .int 0, .null, .null, .null, .null, .null, .null, .int 0])), hc_ia t0 q0 80, hc_ia t0 q1 80, hc_ia t0 q2 80, hc_ia t0 q3 80, hc_ia t0 q4 3] H := hP
  have hD : va_D A [(h0, .inr (3, [.ref q0, .ref q1, .ref q2, .ref q3, .int 0, .int 0, .int 0, .int 0, .null, .int 0, .null, .null, .null, .null, .null, .null, .int 0])), hc_ia t0 q0 80, hc_ia t0 q1 80, hc_ia t0 q2 80, hc_ia t0 q3 80, hc_ia t0 q4 3] := hD
  refine va_putF (D := D) (ci := 3) (v := .ref q4) (ty := (.array .int)) (C := hzR3) (T := hzT3) (N := 17) hx hb htb g31 _ g32 g33 hown hK hP hD hS 0 rfl rfl 8 (by decide) (htb _ (hx_tb 815 rfl (by decide +kernel))) (fun _ q => q) rfl hin rfl (by decide +kernel) rfl rfl (Nat.le_of_ble_eq_true rfl) hc_d3_40 (fun H locs hP hD hS => ?_)
  have hP : va_P D hzCl [(h0, .inr (3, [.ref q0, .ref q1, .ref q2, .ref q3, .int 0, .int 0, .int 0, .int 0, .ref q4, .int 0, .null, .null, .null, .null, .null, .null, .int 0])), hc_ia t0 q0 80, hc_ia t0 q1 80, hc_ia t0 q2 80, hc_ia t0 q3 80, hc_ia t0 q4 3] H := hP
  have hD : va_D A [(h0, .inr (3, [.ref q0, .ref q1, .ref q2, .ref q3, .int 0, .int 0, .int 0, .int 0, .ref q4, .int 0, .null, .null, .null, .null, .null, .null, .int 0])), hc_ia t0 q0 80, hc_ia t0 q1 80, hc_ia t0 q2 80, hc_ia t0 q3 80, hc_ia t0 q4 3] := hD
  refine lv_aload_n hx hb hc_d3_43 rfl (lv_at hl 0 rfl) ?_
  refine lv_bipush (v := 8) hx hb hc_d3_44 (by decide) ?_
  refine hc_newI hx hb (htb _ (hx_tb 120 rfl (by decide +kernel))) hK hP hD hS hA 8 (by decide) rfl (Nat.le_of_ble_eq_true rfl) (Nat.le_of_ble_eq_true rfl) (Nat.le_of_ble_eq_true rfl) hc_d3_46 (fun q5 H hP hD hS => ?_)
  have hP : va_P D hzCl [(h0, .inr (3, [.ref q0, .ref q1, .ref q2, .ref q3, .int 0, .int 0, .int 0, .int 0, .ref q4, .int 0, .null, .null, .null, .null, .null, .null, .int 0])), hc_ia t0 q0 80, hc_ia t0 q1 80, hc_ia t0 q2 80, hc_ia t0 q3 80, hc_ia t0 q4 3, hc_ia t0 q5 8] H := hP
  have hD : va_D A [(h0, .inr (3, [.ref q0, .ref q1, .ref q2, .ref q3, .int 0, .int 0, .int 0, .int 0, .ref q4, .int 0, .null, .null, .null, .null, .null, .null, .int 0])), hc_ia t0 q0 80, hc_ia t0 q1 80, hc_ia t0 q2 80, hc_ia t0 q3 80, hc_ia t0 q4 3, hc_ia t0 q5 8] := hD
  refine va_putF (D := D) (ci := 3) (v := .ref q5) (ty := (.array .int)) (C := hzR3) (T := hzT3) (N := 17) hx hb htb g31 _ g32 g33 hown hK hP hD hS 0 rfl rfl 10 (by decide) (htb _ (hx_tb 817 rfl (by decide +kernel))) (fun _ q => q) rfl hin rfl (by decide +kernel) rfl rfl (Nat.le_of_ble_eq_true rfl) hc_d3_48 (fun H locs hP hD hS => ?_)
  have hP : va_P D hzCl [(h0, .inr (3, [.ref q0, .ref q1, .ref q2, .ref q3, .int 0, .int 0, .int 0, .int 0, .ref q4, .int 0, .ref q5, .null, .null, .null, .null, .null, .int 0])), hc_ia t0 q0 80, hc_ia t0 q1 80, hc_ia t0 q2 80, hc_ia t0 q3 80, hc_ia t0 q4 3, hc_ia t0 q5 8] H := hP
  have hD : va_D A [(h0, .inr (3, [.ref q0, .ref q1, .ref q2, .ref q3, .int 0, .int 0, .int 0, .int 0, .ref q4, .int 0, .ref q5, .null, .null, .null, .null, .null, .int 0])), hc_ia t0 q0 80, hc_ia t0 q1 80, hc_ia t0 q2 80, hc_ia t0 q3 80, hc_ia t0 q4 3, hc_ia t0 q5 8] := hD
  refine lv_aload_n hx hb hc_d3_51 rfl (lv_at hl 0 rfl) ?_
  refine lv_bipush (v := 8) hx hb hc_d3_52 (by decide) ?_
  refine hc_newI hx hb (htb _ (hx_tb 120 rfl (by decide +kernel))) hK hP hD hS hA 8 (by decide) rfl (Nat.le_of_ble_eq_true rfl) (Nat.le_of_ble_eq_true rfl) (Nat.le_of_ble_eq_true rfl) hc_d3_54 (fun q6 H hP hD hS => ?_)
  have hP : va_P D hzCl [(h0, .inr (3, [.ref q0, .ref q1, .ref q2, .ref q3, .int 0, .int 0, .int 0, .int 0, .ref q4, .int 0, .ref q5, .null, .null, .null, .null, .null, .int 0])), hc_ia t0 q0 80, hc_ia t0 q1 80, hc_ia t0 q2 80, hc_ia t0 q3 80, hc_ia t0 q4 3, hc_ia t0 q5 8, hc_ia t0 q6 8] H := hP
  have hD : va_D A [(h0, .inr (3, [.ref q0, .ref q1, .ref q2, .ref q3, .int 0, .int 0, .int 0, .int 0, .ref q4, .int 0, .ref q5, .null, .null, .null, .null, .null, .int 0])), hc_ia t0 q0 80, hc_ia t0 q1 80, hc_ia t0 q2 80, hc_ia t0 q3 80, hc_ia t0 q4 3, hc_ia t0 q5 8, hc_ia t0 q6 8] := hD
  refine va_putF (D := D) (ci := 3) (v := .ref q6) (ty := (.array .int)) (C := hzR3) (T := hzT3) (N := 17) hx hb htb g31 _ g32 g33 hown hK hP hD hS 0 rfl rfl 11 (by decide) (htb _ (hx_tb 818 rfl (by decide +kernel))) (fun _ q => q) rfl hin rfl (by decide +kernel) rfl rfl (Nat.le_of_ble_eq_true rfl) hc_d3_56 (fun H locs hP hD hS => ?_)
  have hP : va_P D hzCl [(h0, .inr (3, [.ref q0, .ref q1, .ref q2, .ref q3, .int 0, .int 0, .int 0, .int 0, .ref q4, .int 0, .ref q5, .ref q6, .null, .null, .null, .null, .int 0])), hc_ia t0 q0 80, hc_ia t0 q1 80, hc_ia t0 q2 80, hc_ia t0 q3 80, hc_ia t0 q4 3, hc_ia t0 q5 8, hc_ia t0 q6 8] H := hP
  have hD : va_D A [(h0, .inr (3, [.ref q0, .ref q1, .ref q2, .ref q3, .int 0, .int 0, .int 0, .int 0, .ref q4, .int 0, .ref q5, .ref q6, .null, .null, .null, .null, .int 0])), hc_ia t0 q0 80, hc_ia t0 q1 80, hc_ia t0 q2 80, hc_ia t0 q3 80, hc_ia t0 q4 3, hc_ia t0 q5 8, hc_ia t0 q6 8] := hD
  refine lv_aload_n hx hb hc_d3_59 rfl (lv_at hl 0 rfl) ?_
  refine lv_bipush (v := 8) hx hb hc_d3_60 (by decide) ?_
  refine hc_newI hx hb (htb _ (hx_tb 120 rfl (by decide +kernel))) hK hP hD hS hA 8 (by decide) rfl (Nat.le_of_ble_eq_true rfl) (Nat.le_of_ble_eq_true rfl) (Nat.le_of_ble_eq_true rfl) hc_d3_62 (fun q7 H hP hD hS => ?_)
  have hP : va_P D hzCl [(h0, .inr (3, [.ref q0, .ref q1, .ref q2, .ref q3, .int 0, .int 0, .int 0, .int 0, .ref q4, .int 0, .ref q5, .ref q6, .null, .null, .null, .null, .int 0])), hc_ia t0 q0 80, hc_ia t0 q1 80, hc_ia t0 q2 80, hc_ia t0 q3 80, hc_ia t0 q4 3, hc_ia t0 q5 8, hc_ia t0 q6 8, hc_ia t0 q7 8] H := hP
  have hD : va_D A [(h0, .inr (3, [.ref q0, .ref q1, .ref q2, .ref q3, .int 0, .int 0, .int 0, .int 0, .ref q4, .int 0, .ref q5, .ref q6, .null, .null, .null, .null, .int 0])), hc_ia t0 q0 80, hc_ia t0 q1 80, hc_ia t0 q2 80, hc_ia t0 q3 80, hc_ia t0 q4 3, hc_ia t0 q5 8, hc_ia t0 q6 8, hc_ia t0 q7 8] := hD
  refine va_putF (D := D) (ci := 3) (v := .ref q7) (ty := (.array .int)) (C := hzR3) (T := hzT3) (N := 17) hx hb htb g31 _ g32 g33 hown hK hP hD hS 0 rfl rfl 12 (by decide) (htb _ (hx_tb 819 rfl (by decide +kernel))) (fun _ q => q) rfl hin rfl (by decide +kernel) rfl rfl (Nat.le_of_ble_eq_true rfl) hc_d3_64 (fun H locs hP hD hS => ?_)
  have hP : va_P D hzCl [(h0, .inr (3, [.ref q0, .ref q1, .ref q2, .ref q3, .int 0, .int 0, .int 0, .int 0, .ref q4, .int 0, .ref q5, .ref q6, .ref q7, .null, .null, .null, .int 0])), hc_ia t0 q0 80, hc_ia t0 q1 80, hc_ia t0 q2 80, hc_ia t0 q3 80, hc_ia t0 q4 3, hc_ia t0 q5 8, hc_ia t0 q6 8, hc_ia t0 q7 8] H := hP
  have hD : va_D A [(h0, .inr (3, [.ref q0, .ref q1, .ref q2, .ref q3, .int 0, .int 0, .int 0, .int 0, .ref q4, .int 0, .ref q5, .ref q6, .ref q7, .null, .null, .null, .int 0])), hc_ia t0 q0 80, hc_ia t0 q1 80, hc_ia t0 q2 80, hc_ia t0 q3 80, hc_ia t0 q4 3, hc_ia t0 q5 8, hc_ia t0 q6 8, hc_ia t0 q7 8] := hD
  refine lv_aload_n hx hb hc_d3_67 rfl (lv_at hl 0 rfl) ?_
  refine lv_bipush (v := 8) hx hb hc_d3_68 (by decide) ?_
  refine hc_newI hx hb (htb _ (hx_tb 120 rfl (by decide +kernel))) hK hP hD hS hA 8 (by decide) rfl (Nat.le_of_ble_eq_true rfl) (Nat.le_of_ble_eq_true rfl) (Nat.le_of_ble_eq_true rfl) hc_d3_70 (fun q8 H hP hD hS => ?_)
  have hP : va_P D hzCl [(h0, .inr (3, [.ref q0, .ref q1, .ref q2, .ref q3, .int 0, .int 0, .int 0, .int 0, .ref q4, .int 0, .ref q5, .ref q6, .ref q7, .null, .null, .null, .int 0])), hc_ia t0 q0 80, hc_ia t0 q1 80, hc_ia t0 q2 80, hc_ia t0 q3 80, hc_ia t0 q4 3, hc_ia t0 q5 8, hc_ia t0 q6 8, hc_ia t0 q7 8, hc_ia t0 q8 8] H := hP
  have hD : va_D A [(h0, .inr (3, [.ref q0, .ref q1, .ref q2, .ref q3, .int 0, .int 0, .int 0, .int 0, .ref q4, .int 0, .ref q5, .ref q6, .ref q7, .null, .null, .null, .int 0])), hc_ia t0 q0 80, hc_ia t0 q1 80, hc_ia t0 q2 80, hc_ia t0 q3 80, hc_ia t0 q4 3, hc_ia t0 q5 8, hc_ia t0 q6 8, hc_ia t0 q7 8, hc_ia t0 q8 8] := hD
  refine va_putF (D := D) (ci := 3) (v := .ref q8) (ty := (.array .int)) (C := hzR3) (T := hzT3) (N := 17) hx hb htb g31 _ g32 g33 hown hK hP hD hS 0 rfl rfl 13 (by decide) (htb _ (hx_tb 820 rfl (by decide +kernel))) (fun _ q => q) rfl hin rfl (by decide +kernel) rfl rfl (Nat.le_of_ble_eq_true rfl) hc_d3_72 (fun H locs hP hD hS => ?_)
  have hP : va_P D hzCl [(h0, .inr (3, [.ref q0, .ref q1, .ref q2, .ref q3, .int 0, .int 0, .int 0, .int 0, .ref q4, .int 0, .ref q5, .ref q6, .ref q7, .ref q8, .null, .null, .int 0])), hc_ia t0 q0 80, hc_ia t0 q1 80, hc_ia t0 q2 80, hc_ia t0 q3 80, hc_ia t0 q4 3, hc_ia t0 q5 8, hc_ia t0 q6 8, hc_ia t0 q7 8, hc_ia t0 q8 8] H := hP
  have hD : va_D A [(h0, .inr (3, [.ref q0, .ref q1, .ref q2, .ref q3, .int 0, .int 0, .int 0, .int 0, .ref q4, .int 0, .ref q5, .ref q6, .ref q7, .ref q8, .null, .null, .int 0])), hc_ia t0 q0 80, hc_ia t0 q1 80, hc_ia t0 q2 80, hc_ia t0 q3 80, hc_ia t0 q4 3, hc_ia t0 q5 8, hc_ia t0 q6 8, hc_ia t0 q7 8, hc_ia t0 q8 8] := hD
  refine lv_aload_n hx hb hc_d3_75 rfl (lv_at hl 0 rfl) ?_
  refine lv_bipush (v := 8) hx hb hc_d3_76 (by decide) ?_
  refine hc_newI hx hb (htb _ (hx_tb 120 rfl (by decide +kernel))) hK hP hD hS hA 8 (by decide) rfl (Nat.le_of_ble_eq_true rfl) (Nat.le_of_ble_eq_true rfl) (Nat.le_of_ble_eq_true rfl) hc_d3_78 (fun q9 H hP hD hS => ?_)
  have hP : va_P D hzCl [(h0, .inr (3, [.ref q0, .ref q1, .ref q2, .ref q3, .int 0, .int 0, .int 0, .int 0, .ref q4, .int 0, .ref q5, .ref q6, .ref q7, .ref q8, .null, .null, .int 0])), hc_ia t0 q0 80, hc_ia t0 q1 80, hc_ia t0 q2 80, hc_ia t0 q3 80, hc_ia t0 q4 3, hc_ia t0 q5 8, hc_ia t0 q6 8, hc_ia t0 q7 8, hc_ia t0 q8 8, hc_ia t0 q9 8] H := hP
  have hD : va_D A [(h0, .inr (3, [.ref q0, .ref q1, .ref q2, .ref q3, .int 0, .int 0, .int 0, .int 0, .ref q4, .int 0, .ref q5, .ref q6, .ref q7, .ref q8, .null, .null, .int 0])), hc_ia t0 q0 80, hc_ia t0 q1 80, hc_ia t0 q2 80, hc_ia t0 q3 80, hc_ia t0 q4 3, hc_ia t0 q5 8, hc_ia t0 q6 8, hc_ia t0 q7 8, hc_ia t0 q8 8, hc_ia t0 q9 8] := hD
  refine va_putF (D := D) (ci := 3) (v := .ref q9) (ty := (.array .int)) (C := hzR3) (T := hzT3) (N := 17) hx hb htb g31 _ g32 g33 hown hK hP hD hS 0 rfl rfl 14 (by decide) (htb _ (hx_tb 821 rfl (by decide +kernel))) (fun _ q => q) rfl hin rfl (by decide +kernel) rfl rfl (Nat.le_of_ble_eq_true rfl) hc_d3_80 (fun H locs hP hD hS => ?_)
  have hP : va_P D hzCl [(h0, .inr (3, [.ref q0, .ref q1, .ref q2, .ref q3, .int 0, .int 0, .int 0, .int 0, .ref q4, .int 0, .ref q5, .ref q6, .ref q7, .ref q8, .ref q9, .null, .int 0])), hc_ia t0 q0 80, hc_ia t0 q1 80, hc_ia t0 q2 80, hc_ia t0 q3 80, hc_ia t0 q4 3, hc_ia t0 q5 8, hc_ia t0 q6 8, hc_ia t0 q7 8, hc_ia t0 q8 8, hc_ia t0 q9 8] H := hP
  have hD : va_D A [(h0, .inr (3, [.ref q0, .ref q1, .ref q2, .ref q3, .int 0, .int 0, .int 0, .int 0, .ref q4, .int 0, .ref q5, .ref q6, .ref q7, .ref q8, .ref q9, .null, .int 0])), hc_ia t0 q0 80, hc_ia t0 q1 80, hc_ia t0 q2 80, hc_ia t0 q3 80, hc_ia t0 q4 3, hc_ia t0 q5 8, hc_ia t0 q6 8, hc_ia t0 q7 8, hc_ia t0 q8 8, hc_ia t0 q9 8] := hD
  refine lv_aload_n hx hb hc_d3_83 rfl (lv_at hl 0 rfl) ?_
  refine lv_sipush (v := 800) hx hb hc_d3_84 (by decide) ?_
  refine hc_newI hx hb (htb _ (hx_tb 120 rfl (by decide +kernel))) hK hP hD hS hA 800 (by decide) rfl (Nat.le_of_ble_eq_true rfl) (Nat.le_of_ble_eq_true rfl) (Nat.le_of_ble_eq_true rfl) hc_d3_87 (fun q10 H hP hD hS => ?_)
  have hP : va_P D hzCl [(h0, .inr (3, [.ref q0, .ref q1, .ref q2, .ref q3, .int 0, .int 0, .int 0, .int 0, .ref q4, .int 0, .ref q5, .ref q6, .ref q7, .ref q8, .ref q9, .null, .int 0])), hc_ia t0 q0 80, hc_ia t0 q1 80, hc_ia t0 q2 80, hc_ia t0 q3 80, hc_ia t0 q4 3, hc_ia t0 q5 8, hc_ia t0 q6 8, hc_ia t0 q7 8, hc_ia t0 q8 8, hc_ia t0 q9 8, hc_ia t0 q10 800] H := hP
  have hD : va_D A [(h0, .inr (3, [.ref q0, .ref q1, .ref q2, .ref q3, .int 0, .int 0, .int 0, .int 0, .ref q4, .int 0, .ref q5, .ref q6, .ref q7, .ref q8, .ref q9, .null, .int 0])), hc_ia t0 q0 80, hc_ia t0 q1 80, hc_ia t0 q2 80, hc_ia t0 q3 80, hc_ia t0 q4 3, hc_ia t0 q5 8, hc_ia t0 q6 8, hc_ia t0 q7 8, hc_ia t0 q8 8, hc_ia t0 q9 8, hc_ia t0 q10 800] := hD
  refine va_putF (D := D) (ci := 3) (v := .ref q10) (ty := (.array .int)) (C := hzR3) (T := hzT3) (N := 17) hx hb htb g31 _ g32 g33 hown hK hP hD hS 0 rfl rfl 15 (by decide) (htb _ (hx_tb 822 rfl (by decide +kernel))) (fun _ q => q) rfl hin rfl (by decide +kernel) rfl rfl (Nat.le_of_ble_eq_true rfl) hc_d3_89 (fun H locs hP hD hS => ?_)
  have hP : va_P D hzCl [(h0, .inr (3, [.ref q0, .ref q1, .ref q2, .ref q3, .int 0, .int 0, .int 0, .int 0, .ref q4, .int 0, .ref q5, .ref q6, .ref q7, .ref q8, .ref q9, .ref q10, .int 0])), hc_ia t0 q0 80, hc_ia t0 q1 80, hc_ia t0 q2 80, hc_ia t0 q3 80, hc_ia t0 q4 3, hc_ia t0 q5 8, hc_ia t0 q6 8, hc_ia t0 q7 8, hc_ia t0 q8 8, hc_ia t0 q9 8, hc_ia t0 q10 800] H := hP
  have hD : va_D A [(h0, .inr (3, [.ref q0, .ref q1, .ref q2, .ref q3, .int 0, .int 0, .int 0, .int 0, .ref q4, .int 0, .ref q5, .ref q6, .ref q7, .ref q8, .ref q9, .ref q10, .int 0])), hc_ia t0 q0 80, hc_ia t0 q1 80, hc_ia t0 q2 80, hc_ia t0 q3 80, hc_ia t0 q4 3, hc_ia t0 q5 8, hc_ia t0 q6 8, hc_ia t0 q7 8, hc_ia t0 q8 8, hc_ia t0 q9 8, hc_ia t0 q10 800] := hD
  refine lv_aload_n hx hb hc_d3_92 rfl (lv_at hl 0 rfl) ?_
  refine va_get (D := D) (ci := 3) (v := .ref q0) (C := hzR3) (T := hzT3) (N := 17) hx hb htb g31 hown hK hP 0 rfl rfl 0 (by decide) (htb _ (hx_tb 807 rfl (by decide +kernel))) (fun _ q => q) rfl hc_d3_93 ?_
  refine lv_iconst (v := 2) hx hb hc_d3_96 (by decide) ?_
  refine lv_bipush (v := 9) hx hb hc_d3_97 (by decide) ?_
  refine va_iast hx hb hK hP hD hS 1 0 rfl rfl (hz_in_ok (by decide)) hc_d3_99 (fun H locs hP hD hS => ?_)
  have hP : va_P D hzCl [(h0, .inr (3, [.ref q0, .ref q1, .ref q2, .ref q3, .int 0, .int 0, .int 0, .int 0, .ref q4, .int 0, .ref q5, .ref q6, .ref q7, .ref q8, .ref q9, .ref q10, .int 0])), (q0, .inl (t0, 80, .inl (upd (fun _ => 0) (2 : Int32).toNatClampNeg 9))), hc_ia t0 q1 80, hc_ia t0 q2 80, hc_ia t0 q3 80, hc_ia t0 q4 3, hc_ia t0 q5 8, hc_ia t0 q6 8, hc_ia t0 q7 8, hc_ia t0 q8 8, hc_ia t0 q9 8, hc_ia t0 q10 800] H := hP
  have hD : va_D A [(h0, .inr (3, [.ref q0, .ref q1, .ref q2, .ref q3, .int 0, .int 0, .int 0, .int 0, .ref q4, .int 0, .ref q5, .ref q6, .ref q7, .ref q8, .ref q9, .ref q10, .int 0])), (q0, .inl (t0, 80, .inl (upd (fun _ => 0) (2 : Int32).toNatClampNeg 9))), hc_ia t0 q1 80, hc_ia t0 q2 80, hc_ia t0 q3 80, hc_ia t0 q4 3, hc_ia t0 q5 8, hc_ia t0 q6 8, hc_ia t0 q7 8, hc_ia t0 q8 8, hc_ia t0 q9 8, hc_ia t0 q10 800] := hD
  refine W.widen (k := 11) (n := 1163) (Nat.le_of_ble_eq_true rfl) (Nat.le_of_ble_eq_true rfl) ?_
  refine W.vret hx hb hr (fun t ht hW => ?_) hS.2.2 hc_d3_100
  subst hAe
  exact ⟨⟨hc_u [q0, q1, q2, q3, q4, q5, q6, q7, q8, q9, q10], rfl, trivial, by rw [ht]; exact hP, hD⟩, hS.F ht⟩
