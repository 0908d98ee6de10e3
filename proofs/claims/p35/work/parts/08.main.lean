/-! THE PURE MACHINE's RUNS hold of the machine: one theorem for all methods, by the fuel -/
section HZQ
variable {p : Program} {l : Launch} {e : Env} {R : Room} {s : State} {m : MethodId} {args : Array Value} {below : List Frame} {meth : Method} {c : Code} {H : Heap} {locs : List Loc} {cells slots : Nat} {Q : State → Prop}
variable {D : va_G} {ad : Nat → Nat} {tys : List (ClassId × FieldType)}
def hz_isO : Jvm.Cond → Bool
  | .castable _ _ => true
  | .declares _ => true
  | _ => false
def hzOW : List Jvm.Cond := lw_tbl.filter hz_isO
def hzSTR : List (String × Nat × String) := [("HatsOfTheWind$Kinds", 11, "an aunt's hat"), ("HatsOfTheWind$Kinds", 18, "a pinned hat"), ("HatsOfTheWind$Kinds", 23, "a hat"), ("HatsOfTheWind", 299, "no such shelf"), ("HatsOfTheWind", 309, "no row is there"), ("HatsOfTheWind", 312, "no such place in the row")]
def hzNC : List (String × String) := [("java/lang/IllegalArgumentException", "java/lang/UnsupportedOperationException"), ("java/lang/IllegalStateException", "java/lang/UnsupportedOperationException"), ("java/lang/IllegalStateException", "java/lang/IllegalArgumentException")]
/-- what is told of the machine by its tables, apart from the good words: links between nest mates, casts, texts -/
def hz_VS (U : State) : Prop := (∀ w ∈ hzNW, va_Nw w U) ∧ (∀ w ∈ hzOW, va_Nw w U) ∧ (∀ q ∈ hzSTR, ∃ a, vk_R q.1 q.2.1 q.2.2 a U) ∧ (∀ q ∈ hzNC, va_Nc q.1 q.2 U)
/-- .. and where Throwable's two constants lie -/
def hz_NS (A : Nat → Prop) (H0 : Heap) (U : State) : Prop := hz_VS U ∧ vx_Zq Bundle.tN "UNASSIGNED_STACK" Bundle.steD A U H0 ∧ vx_Zq Bundle.tN "SUPPRESSED_SENTINEL" Bundle.listD A U H0
def hz_Pc (D : va_G) (ad : Nat → Nat) (tys : List (ClassId × FieldType)) (As : List Value) (M : hzMem) (sz : Nat) : Array Value → State → Prop :=
  va_Pc (As.map (hz_eV ad)) (fun U => U.heap.size = sz ∧ va_P D hzCl (hz_wl ad tys M) U.heap ∧ va_K D hzCl tys U ∧ va_D (fun _ => True) (hz_wl ad tys M) ∧ hz_NS (va_A (hz_wl ad tys M) sz) U.heap U)
def hz_Qc (D : va_G) (ad : Nat → Nat) (tys : List (ClassId × FieldType)) (M : hzMem) (sz : Nat) (rv : Option Value) (M' : hzMem) : Array Value → State → Outcome → State → Prop := fun _ st o t =>
  (o = .returned (rv.map (hz_eV ad)) ∧ va_P D hzCl (hz_wl ad tys M') t.heap ∧ va_K D hzCl tys t ∧ va_D (va_A (hz_wl ad tys M) sz) (hz_wl ad tys M')) ∧ va_F (va_A (hz_wl ad tys M) sz) st t
theorem hz_NW_on {w : Jvm.Cond} (h : w ∈ hzNW) : w.onTables = true := by
  have := (List.mem_filter.mp h).2
  cases w <;> first | rfl | cases this
theorem hz_NW_warm {U : State} (hW : s.WarmedH U.vm) (h : ∀ w ∈ hzNW, va_Nw w s) : ∀ w ∈ hzNW, va_Nw w U := by
  intro w hw
  have h1 := h w hw
  have h2 := (List.mem_filter.mp hw).2
  cases w <;> first | exact va_Nw.warmM hW h1 | cases h2
theorem hz_OW_on {w : Jvm.Cond} (h : w ∈ hzOW) : w.onTables = true := by
  have := (List.mem_filter.mp h).2
  cases w <;> first | rfl | cases this
theorem hz_VS_same {u U : State} (h : u.vm = U.vm) (q : hz_VS u) : hz_VS U := by
  refine ⟨fun w hw => va_Nw.same (hz_NW_on hw) h (q.1 w hw), fun w hw => va_Nw.same (hz_OW_on hw) h (q.2.1 w hw), fun z hz => ?_, fun z hz => va_Nc.moved (h ▸ Vm.Alike.refl u.vm) (q.2.2.2 z hz)⟩
  obtain ⟨a, ha⟩ := q.2.2.1 z hz
  exact ⟨a, vk_R.same h.symm ha⟩
theorem hz_VS_warm {U : State} (hW : s.WarmedH U.vm) (q : hz_VS s) : hz_VS U := by
  refine ⟨hz_NW_warm hW q.1, fun w hw => ?_, fun z hz => ?_, fun z hz => va_Nc.moved hW.alike (q.2.2.2 z hz)⟩
  · have h1 := q.2.1 w hw
    have h2 := (List.mem_filter.mp hw).2
    cases w <;> first | exact va_Nw.warmC hW h1 | exact va_Nw.warmD hW h1 | cases h2
  · obtain ⟨a, ha⟩ := q.2.2.1 z hz
    exact ⟨a, vk_R.warm hW ha⟩
theorem hz_blind (As : List Value) (M : hzMem) (sz : Nat) : FrameBlind (hz_Pc D ad tys As M sz) := fun a U g mk q => by
  obtain ⟨q0, q1, qP, qK, qD, qN⟩ := q
  exact ⟨q0, q1, qP, va_K.moved (u := U) (U := U.calling g mk a) (Vm.Alike.refl U.vm) qK, qD, hz_VS_same (u := U) (U := U.calling g mk a) rfl qN.1, vx_Zq.moved (u := U) (U := U.calling g mk a) (Vm.Alike.refl U.vm) qN.2.1, vx_Zq.moved (u := U) (U := U.calling g mk a) (Vm.Alike.refl U.vm) qN.2.2⟩
theorem hz_back {A : Nat → Prop} {H0 : Heap} {M M' : hzMem} {rv : Option Value} {mc ms pc : Nat} {ls : Array Slot} {st0 rest : List Value} {a : Array Value}
    (hr : va_Run p l e R s m args below meth c H locs cells slots mc ms (F0 m pc ls st0) rest (hz_Qc D ad tys M H.size rv M' a) (va_A (hz_wl ad tys M) H.size)) (hW : hz_Wo D ad tys A H0 M H locs) (hA : ∀ q, H0.size ≤ q → A q)
    (kk : ∀ (H1 : Heap) (locs1 : List Loc), hz_Wo D ad tys A H0 M' H1 locs1 → W p l e R s m args below meth c H1 locs1 (cells + mc) (slots + ms) Q (F0 m (pc + 3) ls ((rv.map (hz_eV ad)).toList ++ rest))) : W p l e R s m args below meth c H locs cells slots Q (F0 m pc ls st0) := by
  obtain ⟨hP, hD, hS⟩ := hW
  have hf : ∀ q, va_A (hz_wl ad tys M) H.size q → A q := fun q h => by
    rcases h with ⟨k, x, h⟩ | h
    · exact hD.2 k (q, x) h
    · exact hA q (Nat.le_trans hS.1 h)
  intro T hT X
  obtain ⟨v, st₀, t, T', L, h0, X', hL, e1, e2, ⟨⟨hv, hP', hK', hD'⟩, hz, hk⟩, st⟩ := hr T hT X
  cases hv
  rw [h0] at hz hk
  obtain ⟨t2, a1, b1⟩ := kk T'.heap (locs ++ L) ⟨by rw [e1]; exact hP', hD'.weaken (fun k q _ h => hf q.1 h),
    ⟨Nat.le_trans hS.1 (by rw [e1]; exact hz), fun q h1 h2 => by rw [e1, hk q (Nat.lt_of_lt_of_le h1 hS.1) (fun z => h2 (hf q z))]; exact hS.2.1 q h1 h2, fun q hq => by
      rcases List.mem_append.mp hq with h | h
      · exact hS.2.2 q h
      · exact hf _ (hL q h)⟩⟩ T' rfl X'
  exact ⟨t2, st t2 a1, b1⟩
theorem hz_NS_call {A : Nat → Prop} {H0 : Heap} {M : hzMem} {U : State} (hN : hz_NS A H0 s) (hW : hz_Wo D ad tys A H0 M H locs) (hA : ∀ q, H0.size ≤ q → A q) (hU : U.heap = H) (hw : s.WarmedH U.vm) : hz_NS (va_A (hz_wl ad tys M) H.size) U.heap U := by
  obtain ⟨hP, hD, hS⟩ := hW
  have hf : ∀ q, va_A (hz_wl ad tys M) H.size q → A q := fun q h => by
    rcases h with ⟨k, x, h⟩ | h
    · exact hD.2 k (q, x) h
    · exact hA q (Nat.le_trans hS.1 h)
  rw [hU]
  exact ⟨hz_VS_warm hw hN.1, vx_Zq.moved hw.alike (vx_Zq.narrow (vx_Zq.kept hN.2.1 hS.2.1) hf), vx_Zq.moved hw.alike (vx_Zq.narrow (vx_Zq.kept hN.2.2 hS.2.1) hf)⟩
end HZQ
/-- a call of a method told by hand, as the machine goes -/
def hz_CW (l : Launch) (D : va_G) (ad : Nat → Nat) (tys : List (ClassId × FieldType)) (x : Nat) (As : List Value) (M : hzMem) (rv : Option Value) (M' : hzMem) : Prop :=
  ∀ (p : Program) (e : Env) (R : Room) (s : State) (m : MethodId) (args : Array Value) (below : List Frame) (meth : Method) (c : Code) (H : Heap) (locs : List Loc) (cells slots : Nat) (Q : State → Prop) (ls : Array Slot) (pc : Nat) (rest : List Value) (A : Nat → Prop) (H0 : Heap) (j : Nat) (own : String) (z : MethodName) (zb : ByteArray) (zn : Nat) (zr rc f lx cs hh),
    hzM[x]? = some (z, zb, zn, zr, rc, f, lx, cs, hh) → p.tables.exec = Jvm.exec → s.vm.findClass own = some m.cls → (∀ w ∈ hzTB, w.before args s = true) → hz_NS A H0 s → va_K D hzCl tys s → hz_Wo D ad tys A H0 M H locs → (∀ q, H0.size ≤ q → A q) →
    c.maxLocals = ls.size → decode c.code pc = .ok (.invokestatic j, 3) → (Jvm.Cond.methodLink own j z).before args s = true → f + 1 ≤ R.frames → 19 + zn + lx ≤ R.locals → cells + cs ≤ R.cells → slots + hzSL * cs ≤ R.slots → (rest.map fun v => v.category).sum ≤ 8 →
    (∀ (H1 : Heap) (locs1 : List Loc), hz_Wo D ad tys A H0 M' H1 locs1 → W p l e R s m args below meth c H1 locs1 (cells + cs) (slots + hzSL * cs) Q (F0 m (pc + 3) ls ((rv.map (hz_eV ad)).toList ++ rest))) →
    W p l e R s m args below meth c H locs cells slots Q (F0 m pc ls ((As.map (hz_eV ad)).reverse ++ rest))
/-- a run, and all that it says of the machine -/
def hz_Snd (l : Launch) (D : va_G) (ad : Nat → Nat) (t0 t1 t2 : ClassId) (k pc : Nat) (L : List (Option Value)) (st : List Value) (M : hzMem) (b : Nat) (rv : Option Value) (M' : hzMem) : Prop :=
  ∀ (p : Program) (e : Env) (R : Room) (s : State) (m : MethodId) (args : Array Value) (below : List Frame) (meth : Method) (c : Code) (H : Heap) (locs : List Loc) (cells slots : Nat) (Q : State → Prop) (ls : Array Slot) (A : Nat → Prop) (H0 : Heap) (C S : Nat) (y : MethodName) (bb : ByteArray) (nL : Nat) (ret : Option FieldType) (rc fr lc cs : Nat) (hh : Nat × Nat × Nat × Nat × Nat),
    hzM[k]? = some (y, bb, nL, ret, rc, fr, lc, cs, hh) → hz_okW k → p.tables.exec = Jvm.exec → c.code = bb → c.maxLocals = nL → s.vm.findClass y.cls = some m.cls → (∀ w ∈ hzTB, w.before args s = true) → hz_NS A H0 s → va_K D hzCl (hz_tys t0 t1 t2) s →
    hz_lH ad ls nL L → hz_Wo D ad (hz_tys t0 t1 t2) A H0 M H locs → (∀ q, H0.size ≤ q → A q) → fr ≤ R.frames → lc ≤ R.locals → C ≤ R.cells → S ≤ R.slots → cells + b ≤ C → slots + hzSL * b ≤ S →
    (∀ (pcr : Nat) (i : Instr) (ls' : Array Slot) (str : List Value) (H' : Heap) (locs' : List Loc) (cells' slots' : Nat), decode bb pcr = .ok (i, 1) → hz_ret i ret str = some rv → hz_Wo D ad (hz_tys t0 t1 t2) A H0 M' H' locs' → cells' ≤ C → slots' ≤ S → W p l e R s m args below meth c H' locs' cells' slots' Q (F0 m pcr ls' (str.map (hz_eV ad)))) →
    W p l e R s m args below meth c H locs cells slots Q (F0 m pc ls (st.map (hz_eV ad)))
def hz_ws (y : MethodName) (b : ByteArray) (nL : Nat) (ret : Option FieldType) : List Jvm.Cond := .code y b nL ret :: hzTB
theorem hz_lay_len : ∀ (As : List Value), (hz_lay As).length = (lg_sl As).length
  | [] => rfl
  | v :: vs => by
    rw [show lg_sl (v :: vs) = (if v.category = 2 then [Slot.val v, .second] else [.val v]) ++ lg_sl vs from rfl, hz_lay]
    split <;> simp [hz_lay_len vs]
theorem hz_lay_cat (ad : Nat → Nat) : ∀ (As : List Value), (lg_sl (As.map (hz_eV ad))).length = (lg_sl As).length
  | [] => rfl
  | v :: vs => by
    rw [List.map_cons, show lg_sl (hz_eV ad v :: vs.map (hz_eV ad)) = (if (hz_eV ad v).category = 2 then [Slot.val (hz_eV ad v), .second] else [.val (hz_eV ad v)]) ++ lg_sl (vs.map (hz_eV ad)) from rfl, show lg_sl (v :: vs) = (if v.category = 2 then [Slot.val v, .second] else [.val v]) ++ lg_sl vs from rfl, hz_eV_cat]
    split <;> simp [hz_lay_cat ad vs]
theorem hz_lay_get (ad : Nat → Nat) : ∀ (As : List Value) (k i : Nat) (v : Value), (hz_lay As)[i]? = some (some v) → (k + i, hz_eV ad v) ∈ lv_args k (As.map (hz_eV ad))
  | [], k, i, v, h => by simp [hz_lay] at h
  | w :: vs, k, i, v, h => by
    rw [hz_lay] at h
    rw [List.map_cons, lv_args, hz_eV_cat]
    split at h
    · rename_i hc
      rw [if_pos hc]
      match i, h with
      | 0, h =>
        have e : w = v := by simpa using h
        subst e
        exact List.mem_cons_self
      | 1, h => simp at h
      | i + 2, h =>
        have := hz_lay_get ad vs (k + 2) i v (by simpa using h)
        rw [show k + 2 + i = k + (i + 2) by omega] at this
        exact List.mem_cons_of_mem _ this
    · rename_i hc
      rw [if_neg hc]
      match i, h with
      | 0, h =>
        have e : w = v := by simpa using h
        subst e
        exact List.mem_cons_self
      | i + 1, h =>
        have := hz_lay_get ad vs (k + 1) i v (by simpa using h)
        rw [show k + 1 + i = k + (i + 1) by omega] at this
        exact List.mem_cons_of_mem _ this
theorem hz_entry (ad : Nat → Nat) (As : List Value) {nL : Nat} (h : (hz_lay As).length ≤ nL) : hz_lH ad ((lg_sl (As.map (hz_eV ad)) ++ List.replicate (nL - (lg_sl (As.map (hz_eV ad))).length) Slot.unset).toArray) nL (hz_ent nL As) := by
  have h1 := lv_entry (As.map (hz_eV ad)) (n := nL) (by rw [hz_lay_cat, ← hz_lay_len]; exact h)
  refine ⟨h1.1, h1.2.1, by unfold hz_ent; rw [List.length_append, List.length_replicate]; omega, fun i v hv => ?_⟩
  refine h1.2.2 (i, hz_eV ad v) ?_
  unfold hz_ent at hv
  by_cases hi : i < (hz_lay As).length
  · rw [List.getElem?_append_left hi] at hv
    have := hz_lay_get ad As 0 i v hv
    rwa [Nat.zero_add] at this
  · rw [List.getElem?_append_right (by omega)] at hv
    have := List.mem_of_getElem? hv
    rw [List.mem_replicate] at this
    cases this.2
theorem hz_lay_rev (L : List Value) : (hz_lay L.reverse).length = (hz_lay L).length := by
  have key : ∀ (L : List Value), (hz_lay L).length = (L.map fun v => if v.category = 2 then 2 else 1).sum := by
    intro L
    induction L with
    | nil => rfl
    | cons v vs ih =>
      rw [hz_lay, List.map_cons, List.sum_cons]
      split <;> simp [ih] <;> omega
  rw [key, key, List.map_reverse, List.sum_reverse]
set_option maxHeartbeats 4000000 in
/-- a run from a method's start is a contract of it -/
theorem hz_met {l : Launch} {D : va_G} {ad : Nat → Nat} {t0 t1 t2 : ClassId} {k : Nat} {As : List Value} {M M' : hzMem} {rv : Option Value} {y : MethodName} {bb : ByteArray} {nL : Nat} {ret : Option FieldType} {rc fr lc cs : Nat} {hh : Nat × Nat × Nat × Nat × Nat} (sz : Nat)
    (hk : hzM[k]? = some (y, bb, nL, ret, rc, fr, lc, cs, hh)) (hC : hz_okW k) (hy : plainFor y = true) (hAs : (hz_lay As).length ≤ nL) (hs : hz_Snd l D ad t0 t1 t2 k 0 (hz_ent nL As) [] M cs rv M') :
    Met l y (hz_ws y bb nL ret) { frames := fr, cells := cs, slots := hzSL * cs, locals := lc } (hz_Pc D ad (hz_tys t0 t1 t2) As M sz) (hz_Qc D ad (hz_tys t0 t1 t2) M sz rv M') cs (hzSL * cs) (va_A (hz_wl ad (hz_tys t0 t1 t2) M) sz) := by
  refine va_MetF (cc := bb) (maxL := nL) (ret := ret) hy rfl ?_
  intro p e s m args below meth c s₁ B hml hv
  obtain ⟨rfl, hsz, hP, hK, hD0, hN⟩ := hv
  have hts := atoms_spec (ws := hz_ws y bb nL ret) B.pre
  have hown : s.vm.findClass y.cls = some m.cls := findClass_of_methodNamed B.named
  have hlocks := B.notSynchronized
  have hr := B.returns
  have hb := B.bytes
  have hx := B.exec
  subst hsz
  rw [lg_entry_eq]
  refine hs p e _ s m _ below meth c s.heap [] 0 0 _ _ (va_A (hz_wl ad (hz_tys t0 t1 t2) M) s.heap.size) s.heap cs (hzSL * cs) y bb nL ret rc fr lc cs hh hk hC hx hb hml hown (fun w hw => hts w (List.mem_cons_of_mem _ hw)) hN hK (hz_entry ad As hAs) ⟨hP, hD0.self, va_S.rf⟩ (fun q h => Or.inr h) (Nat.le_refl fr) (Nat.le_refl lc) (Nat.le_refl cs) (Nat.le_refl _) (by omega) (by omega) ?_
  intro pcr i ls' str H' locs' cells' slots' hd hret hW hc hs
  obtain ⟨hP', hD', hS'⟩ := hW
  refine W.widen (k := cs) (n := hzSL * cs) hc hs ?_
  unfold hz_ret at hret
  split at hret
  · rename_i v
    split at hret
    · cases hret
      exact W.iret hx hb hr (fun t ht hw => ⟨⟨rfl, by rw [ht]; exact hP', va_K.moved hw.alike hK, hD'⟩, hS'.F ht⟩) hS'.2.2 hd
    · split at hret
      · rename_i hv
        cases hret
        refine W.zret hx hb hr ?_ (fun t ht hw => ⟨⟨rfl, by rw [ht]; exact hP', va_K.moved hw.alike hK, hD'⟩, hS'.F ht⟩) hS'.2.2 hd
        rcases hv with rfl | rfl <;> decide +kernel
      · cases hret
    · cases hret
  · split at hret
    · cases hret
      exact W.lret hx hb hr (fun t ht hw => ⟨⟨rfl, by rw [ht]; exact hP', va_K.moved hw.alike hK, hD'⟩, hS'.F ht⟩) hS'.2.2 hd
    · cases hret
  · split at hret
    · cases hret
      exact W.vret hx hb hr (fun t ht hw => ⟨⟨rfl, by rw [ht]; exact hP', va_K.moved hw.alike hK, hD'⟩, hS'.F ht⟩) hS'.2.2 hd
    · cases hret
  · cases hret
theorem hz_good (y : MethodName) (b : ByteArray) (nL : Nat) (ret : Option FieldType) (h : Jvm.Cond.code y b nL ret ∈ hzTB) : GoodIn hzTB (hz_ws y b nL ret) := by
  have key : ∀ w ∈ hzTB, w ∈ hzTB ∧ ((w.onTables && w.keeps) = true ∨ ∃ ty, w = .arrayClass ty) := fun w hw => ⟨hw, good_of_word (List.mem_filter.mp hw).2⟩
  intro w hw
  rcases List.mem_cons.mp hw with rfl | hw
  · exact key _ h
  · exact key w hw
