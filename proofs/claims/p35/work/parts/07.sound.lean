def hzSL : Nat := 16
def hz_okD (b : ByteArray) (pc : Nat) (i : Instr) : Bool := match i with
  | .tableswitch d lo hi o => (match decode b pc with
    | .ok (j, _) => decide (j = .tableswitch d lo hi o)
    | .error _ => false)
  | .lookupswitch d o => (match decode b pc with
    | .ok (j, _) => decide (j = .lookupswitch d o)
    | .error _ => false)
  | i => decide (decode b pc = .ok (i, hz_len i))
theorem hz_okD_ok {b : ByteArray} {pc : Nat} {i : Instr} (h : hz_okD b pc i = true) : ∃ len, decode b pc = .ok (i, len) ∧ ((∃ d lo hi o, i = .tableswitch d lo hi o) ∨ (∃ d o, i = .lookupswitch d o) ∨ len = hz_len i) := by
  unfold hz_okD at h
  split at h
  · split at h
    · rename_i j len hd
      rw [decide_eq_true_eq] at h
      subst h
      exact ⟨len, hd, Or.inl ⟨_, _, _, _, rfl⟩⟩
    · cases h
  · split at h
    · rename_i j len hd
      rw [decide_eq_true_eq] at h
      subst h
      exact ⟨len, hd, Or.inr (Or.inl ⟨_, _, rfl⟩)⟩
    · cases h
  · rw [decide_eq_true_eq] at h
    exact ⟨_, h, Or.inr (Or.inr rfl)⟩
/-- the numbers of a call -/
def hz_okJ (fr lc : Nat) (virt : Bool) (a : Int) (x s : Nat) : Bool :=
  if a = -3 then !virt && decide (1 ≤ fr) && decide (40 ≤ lc)
  else match hzM[x]? with
    | some (_, _, zn, _, rc, f, l, _, hh) => decide (f + 1 ≤ fr) && decide (19 + zn + l ≤ lc)
        && decide (hh.2.2.2.2 = if virt = true then s - 1 else s) && decide (virt = true ↔ rc ≠ 99) && (!virt || decide (1 ≤ s)) && (decide (hh.1 ≠ 0) || (!virt && decide (a ≠ 1)))
    | none => false
/-- the numbers of an instruction -/
def hz_okA (fr lc pc : Nat) (i : Instr) (a : Int) (x s : Nat) : Bool := match i with
  | .iconst n => decide (Int32.ofInt n = Int32.ofInt a)
  | .bipush n => decide ((Int8.ofInt n).toInt32 = Int32.ofInt a)
  | .sipush n => decide ((Int16.ofInt n).toInt32 = Int32.ofInt a)
  | .lconst n => decide (Int64.ofNat (n : Nat) = Int64.ofInt a)
  | .goto o => decide ((pc : Int) + o = (x : Int))
  | .ifCond _ o => decide ((pc : Int) + o = (x : Int))
  | .if_icmp _ o => decide ((pc : Int) + o = (x : Int))
  | .getfield _ => (match hzCl[x]? with
    | some (_, _, N) => decide (s < N)
    | none => false)
  | .putfield _ => (match hzCl[x]? with
    | some (_, _, N) => decide (s < N)
    | none => false)
  | .invokevirtual _ => hz_okJ fr lc true a x s
  | .invokestatic _ => hz_okJ fr lc false a x s
  | _ => true
/-- the words of an instruction -/
def hz_ndJ (y : MethodName) (j : Nat) (a : Int) (x h : Nat) : List (Nat × Jvm.Cond) :=
  if a = -3 then [(h, .methodLink y.cls j arraycopyName)]
  else match hzM[x]? with
    | some (z, _) => if a = 1 then [(h, .methodLinkNest y.cls j z "HatsOfTheWind")] else [(h, .methodLink y.cls j z)]
    | none => []
def hz_nd (y : MethodName) (i : Instr) (a : Int) (x s h : Nat) : List (Nat × Jvm.Cond) := match i with
  | .ldc j => [(h, .constant y.cls j (Int32.ofInt a))]
  | .ldc_w j => [(h, .constant y.cls j (Int32.ofInt a))]
  | .ldc2_w j => [(h, .constantLong y.cls j (Int64.ofInt a))]
  | .getfield j => (match hzCl[x]? with
    | some (_, T, _) => [(h, .fieldLink y.cls j (T s).1 (T s).2.1 (T s).2.2.1)]
    | none => [])
  | .putfield j => (match hzCl[x]? with
    | some (_, T, _) => [(h, .fieldLink y.cls j (T s).1 (T s).2.1 (T s).2.2.1)]
    | none => [])
  | .invokevirtual j => hz_ndJ y j a x h
  | .invokestatic j => hz_ndJ y j a x h
  | _ => []
def hz_okC (k : Nat) : Bool := match hzM[k]? with
  | some (_, b, _, _, _, fr, lc, _, _) => (hzCf k).all (fun B => B.all (fun e => hz_okD b e.1 e.2.1 && hz_okA fr lc e.1 e.2.1 e.2.2.1 e.2.2.2.1 e.2.2.2.2.1))
  | none => false
def hz_ndC (k : Nat) : List (Nat × Jvm.Cond) := match hzM[k]? with
  | some (y, _) => (hzCf k).flatMap (fun B => B.flatMap (fun e => hz_nd y e.2.1 e.2.2.1 e.2.2.2.1 e.2.2.2.2.1 e.2.2.2.2.2))
  | none => []
/-- the words of a method itself -/
def hz_ndM (q : hzN) : List (Nat × Jvm.Cond) := match q with
  | (y, b, nL, ret, rc, _, _, _, (hc, hi, hs, hn, _)) => if hc = 0 then [] else (hn, .initialized y.cls) :: (hc, .code y b nL ret) :: (if rc = 99 then [(hi, .static y)] else [(hi, .instanceMethod y), (hs, .selects y.cls y y)])
/-- a method that is no hand-told one: what the tables say of it -/
def hz_okM (k : Nat) : Prop := ∀ (y : MethodName) (b : ByteArray) (nL : Nat) (ret : Option FieldType) (rc fr lc cs hc hi hs hn np : Nat), hzM[k]? = some (y, b, nL, ret, rc, fr, lc, cs, (hc, hi, hs, hn, np)) → hc ≠ 0 →
  plainFor y = true ∧ y.cls ≠ "java/lang/invoke/MethodHandle" ∧ y.cls ≠ "java/lang/invoke/VarHandle" ∧ (parseMethodDescriptor y.desc).map (fun d => d.parameters.length) = some np ∧ (rc ≠ 99 → (hzCl[rc]?).map (fun q => q.1) = some y.cls) ∧ hz_wds (hz_ndM (y, b, nL, ret, rc, fr, lc, cs, (hc, hi, hs, hn, np)))
def hz_okW (k : Nat) : Prop := hz_okC k = true ∧ hz_wds (hz_ndC k)
theorem hz_lookup_mem {α : Type} {pc : Nat} {v : α} : ∀ (B : List (Nat × α)), B.lookup pc = some v → (pc, v) ∈ B
  | [], h => by simp at h
  | (q, w) :: B, h => by
    rw [List.lookup_cons] at h
    split at h
    · rename_i e
      cases h
      rw [beq_iff_eq] at e
      subst e
      exact List.mem_cons_self
    · exact List.mem_cons_of_mem _ (hz_lookup_mem B h)
theorem hz_lk_mem {α : Type} {pc : Nat} {v : α} : ∀ (B : List (Nat × α)), hz_lk pc B = some v → (pc, v) ∈ B
  | [], h => by cases h
  | (q, w) :: B, h => by
    rw [hz_lk] at h
    cases e : Nat.beq pc q with
    | true =>
      rw [e] at h
      have e2 := Nat.eq_of_beq_eq_true e
      cases h
      subst e2
      exact List.mem_cons_self
    | false =>
      rw [e] at h
      exact List.mem_cons_of_mem _ (hz_lk_mem B h)
theorem hz_fetch_ok {k pc : Nat} {y : MethodName} {b : ByteArray} {nL : Nat} {ret rc fr lc cs hh} (hk : hzM[k]? = some (y, b, nL, ret, rc, fr, lc, cs, hh)) (hW : hz_okW k) {i : Instr} {a : Int} {x s h : Nat} (hf : hz_fetch k pc = some (i, a, x, s, h)) :
    hz_okD b pc i = true ∧ hz_okA fr lc pc i a x s = true ∧ hz_wds (hz_nd y i a x s h) := by
  obtain ⟨hC, hN⟩ := hW
  unfold hz_okC at hC
  rw [hk] at hC
  simp only [List.all_eq_true, Bool.and_eq_true] at hC
  unfold hz_ndC at hN
  rw [hk] at hN
  unfold hz_fetch at hf
  have gen : ∀ (X : List (List hzE)) (q : Nat), X.getD q [] ∈ X ∨ X.getD q [] = [] := fun X q => by
    rw [List.getD_eq_getElem?_getD]
    cases hq : X[q]? with
    | none => exact Or.inr rfl
    | some B => exact Or.inl (List.mem_of_getElem? hq)
  have hB := gen (hzCf k) (pc / 32)
  rcases hB with hB | hB
  · have hm := hz_lk_mem _ hf
    have h1 := hC _ hB _ hm
    exact ⟨h1.1, h1.2, fun q hq => hN q (List.mem_flatMap.mpr ⟨_, hB, List.mem_flatMap.mpr ⟨_, hm, hq⟩⟩)⟩
  · rw [hB] at hf
    exact absurd hf (by rw [hz_lk]; exact fun z => by cases z)
section HZR
variable {p : Program} {l : Launch} {e : Env} {R : Room} {s : State} {m : MethodId} {args : Array Value} {below : List Frame} {meth : Method} {c : Code} {H : Heap} {locs : List Loc} {cells slots : Nat} {Q : State → Prop}
variable {cc : ByteArray} {pc : Nat} {ls : Array Slot} {ad : Nat → Nat} {own : String} {D : va_G} {A : Nat → Prop} {H0 : Heap} {t0 t1 t2 : ClassId}
theorem hz_acp_w : (Jvm.Cond.native arraycopyName) ∈ hzTB ∧ (Jvm.Cond.static arraycopyName) ∈ hzTB ∧ (Jvm.Cond.initialized "java/lang/System") ∈ hzTB :=
  ⟨List.mem_filter.mpr ⟨by decide +kernel, by decide +kernel⟩, List.mem_filter.mpr ⟨by decide +kernel, by decide +kernel⟩, List.mem_filter.mpr ⟨by decide +kernel, by decide +kernel⟩⟩
set_option maxHeartbeats 4000000 in
theorem hz_acp_ok (hx : p.tables.exec = Jvm.exec) (hb : c.code = cc) (hml : c.maxLocals = ls.size) (hts : ∀ w ∈ hzTB, w.before args s = true) (hown : s.vm.findClass own = some m.cls) (hK : va_K D hzCl (hz_tys t0 t1 t2) s)
    {j : Nat} {st st' : List Value} {M M' : hzMem} (h : hz_acp st M = some (st', M')) (hd : decode cc pc = .ok (.invokestatic j, 3)) (hlink : (Jvm.Cond.methodLink own j arraycopyName).before args s = true) (hW : hz_Wo D ad (hz_tys t0 t1 t2) A H0 M H locs)
    (hfr : 1 ≤ R.frames) (hlc : 40 ≤ R.locals)
    (kk : ∀ (H1 : Heap) (locs1 : List Loc), hz_Wo D ad (hz_tys t0 t1 t2) A H0 M' H1 locs1 → W p l e R s m args below meth c H1 locs1 cells slots Q (F0 m (pc + 3) ls (st'.map (hz_eV ad)))) : W p l e R s m args below meth c H locs cells slots Q (F0 m pc ls (st.map (hz_eV ad))) := by
  obtain ⟨hP, hD, hS⟩ := hW
  unfold hz_acp at h
  split at h
  · split at h
    · rename_i t n0 f u n1 g hMa hMb
      split at h
      · rename_i hc
        obtain ⟨rfl, rfl, h1, h2, h3, h4, h5, h6⟩ := hc
        cases h
        refine va_copyi hx hb hml hown hlink (hts _ hz_acp_w.1) (hts _ hz_acp_w.2.1) (hts _ hz_acp_w.2.2) hK hP hD hS _ _ 0 0 (hz_wl_get hMa) (hz_wl_get hMb) rfl rfl rfl h1 h2 h3 h4 h5 (fun _ _ => rfl) hfr ?_ hd (fun H1 locs1 a1 a2 a3 => ?_)
        · rw [hz_eV_sum]
          have : nativeFrameWords "java/lang/System" "arraycopy" 5 + 11 ≤ 32 := by decide +kernel
          omega
        · refine kk H1 locs1 ⟨?_, ?_, a3⟩
          · rw [hz_wl_set hMb]; exact a1
          · rw [hz_wl_set hMb]; exact a2
      · cases h
    · cases h
  · cases h
end HZR
