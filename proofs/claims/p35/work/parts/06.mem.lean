def hzTB : List Jvm.Cond := lw_tbl.filter goodWord
def hz_isN : Jvm.Cond → Bool
  | .methodLinkNest _ _ _ _ => true
  | _ => false
def hzNW : List Jvm.Cond := lw_tbl.filter hz_isN
/-- a list of words, each with its place among the tables' -/
def hz_wds (L : List (Nat × Jvm.Cond)) : Prop := ∀ q ∈ L, q.2 ∈ lw_tbl ∧ (goodWord q.2 || hz_isN q.2) = true
theorem hz_wds_of {L : List (Nat × Jvm.Cond)} (h : L.map (fun q => lw_tbl[q.1]?) = L.map (fun q => some q.2)) (g : L.all (fun q => goodWord q.2 || hz_isN q.2) = true) : hz_wds L := by
  intro q hq
  refine ⟨?_, List.all_eq_true.mp g q hq⟩
  have := List.map_inj_left.mp h q hq
  exact List.mem_of_getElem? this
theorem hz_wds_good {L : List (Nat × Jvm.Cond)} (h : hz_wds L) {q : Nat × Jvm.Cond} (hq : q ∈ L) (hn : hz_isN q.2 = false) : q.2 ∈ hzTB := by
  obtain ⟨h1, h2⟩ := h q hq
  rw [hn, Bool.or_false] at h2
  exact List.mem_filter.mpr ⟨h1, h2⟩
theorem hz_wds_nest {L : List (Nat × Jvm.Cond)} (h : hz_wds L) {q : Nat × Jvm.Cond} (hq : q ∈ L) (hn : hz_isN q.2 = true) : q.2 ∈ hzNW := List.mem_filter.mpr ⟨(h q hq).1, hn⟩
def hz_ty (ci : Nat) : Nat → FieldType := match ci with
  | 0 => hzty0
  | 1 => hzty1
  | 2 => hzty2
  | _ => hzty3
def hz_clsOk (ci : Nat) : Bool := match hzCl[ci]? with
  | some (C, T, N) => (u_ws C T N).all (fun w => decide (w ∈ lw_tbl) && goodWord w) && (List.range N).all (fun k => decide (parseFieldDescriptor (T k).2.2.1 = some (hz_ty ci k))) && (List.range N).all (fun a => (List.range N).all (fun b => decide (a = b) || !decide ((T a).2.1 = (T b).2.1)))
  | none => true
theorem hz_cls4 : (List.range 4).all hz_clsOk = true := by decide +kernel
theorem hz_cls {ci : Nat} {C : String} {T : u_T} {N : Nat} (h : hzCl[ci]? = some (C, T, N)) :
    (∀ w ∈ u_ws C T N, w ∈ hzTB) ∧ (∀ k, k < N → parseFieldDescriptor (T k).2.2.1 = some (hz_ty ci k)) ∧ (∀ a, a < N → ∀ b, b < N → a ≠ b → (T a).2.1 ≠ (T b).2.1) := by
  have hlt : ci < 4 := (List.getElem?_eq_some_iff.mp h).1
  have h1 := List.all_eq_true.mp hz_cls4 ci (List.mem_range.mpr hlt)
  unfold hz_clsOk at h1
  rw [h] at h1
  simp only [Bool.and_eq_true, List.all_eq_true, List.mem_range, decide_eq_true_eq, Bool.or_eq_true, Bool.not_eq_true', decide_eq_false_iff_not] at h1
  exact ⟨fun w hw => List.mem_filter.mpr (h1.1.1 w hw), h1.1.2, fun a ha b hb hne => (h1.2 a ha b hb).resolve_left hne⟩
theorem hz_fit_ok {ad : Nat → Nat} {x y : Nat} {v : Value} (h : hz_fit x y v = true) : ∃ C T N ty, hzCl[x]? = some (C, T, N) ∧ y < N ∧ (T y).2.2.2 = false ∧ parseFieldDescriptor (T y).2.2.1 = some ty ∧ narrow ty (hz_eV ad v) = hz_eV ad v ∧ fits ty (hz_eV ad v) = true := by
  unfold hz_fit at h
  split at h
  · rename_i C T N hc
    simp only [Bool.and_eq_true, decide_eq_true_eq, Bool.not_eq_true'] at h
    obtain ⟨⟨h1, h2⟩, h3⟩ := h
    split at h3
    · rename_i z hz
      exact ⟨C, T, N, .int, hc, h1, h2, by rw [hz]; decide +kernel, rfl, rfl⟩
    · rename_i z hz
      simp only [Bool.or_eq_true, decide_eq_true_eq] at h3
      refine ⟨C, T, N, .boolean, hc, h1, h2, by rw [hz]; decide +kernel, ?_, ?_⟩
      · rcases h3 with rfl | rfl
        · exact (show narrow .boolean (.int 0) = .int 0 by decide +kernel)
        · exact (show narrow .boolean (.int 1) = .int 1 by decide +kernel)
      · rcases h3 with rfl | rfl
        · exact (show fits .boolean (.int 0) = true by decide +kernel)
        · exact (show fits .boolean (.int 1) = true by decide +kernel)
    · cases h3
  · cases h
section HZM
variable {p : Program} {l : Launch} {e : Env} {R : Room} {s : State} {m : MethodId} {args : Array Value} {below : List Frame} {meth : Method} {c : Code} {H : Heap} {locs : List Loc} {cells slots : Nat} {Q : State → Prop}
variable {cc : ByteArray} {pc : Nat} {ls : Array Slot} {ad : Nat → Nat} {own : String} {D : va_G} {A : Nat → Prop} {H0 : Heap}
/-- the arrays' classes: ints, longs, the shelves -/
def hz_tys (t0 t1 t2 : ClassId) : List (ClassId × FieldType) := [(t0, .int), (t1, .long), (t2, .object hzR0)]
def hz_okF (s : State) (args : Array Value) (own : String) (i : Instr) (x y : Nat) : Prop := match i with
  | .getfield j => ∃ C T N, hzCl[x]? = some (C, T, N) ∧ y < N ∧ (Jvm.Cond.fieldLink own j (T y).1 (T y).2.1 (T y).2.2.1).before args s = true
  | .putfield j => ∃ C T N, hzCl[x]? = some (C, T, N) ∧ y < N ∧ (Jvm.Cond.fieldLink own j (T y).1 (T y).2.1 (T y).2.2.1).before args s = true
  | _ => True
/-- the cells stand in the heap, apart, and all else is as at the start -/
def hz_Wo (D : va_G) (ad : Nat → Nat) (tys : List (ClassId × FieldType)) (A : Nat → Prop) (H0 : Heap) (M : hzMem) (H : Heap) (locs : List Loc) : Prop :=
  va_P D hzCl (hz_wl ad tys M) H ∧ va_D A (hz_wl ad tys M) ∧ va_S A H0 H locs
set_option maxHeartbeats 4000000 in
theorem hz_mem_ok {t0 t1 t2 : ClassId} (hx : p.tables.exec = Jvm.exec) (hb : c.code = cc) (hts : ∀ w ∈ hzTB, w.before args s = true) (hown : s.vm.findClass own = some m.cls) (hK : va_K D hzCl (hz_tys t0 t1 t2) s)
    {i : Instr} {x y : Nat} {st st' : List Value} {M M' : hzMem} (h : hz_mem i x y st M = some (st', M')) (hd : decode cc pc = .ok (i, hz_len i)) (hF : hz_okF s args own i x y) (hW : hz_Wo D ad (hz_tys t0 t1 t2) A H0 M H locs)
    (kk : ∀ (H1 : Heap) (locs1 : List Loc), hz_Wo D ad (hz_tys t0 t1 t2) A H0 M' H1 locs1 → W p l e R s m args below meth c H1 locs1 cells slots Q (F0 m (pc + hz_len i) ls (st'.map (hz_eV ad)))) : W p l e R s m args below meth c H locs cells slots Q (F0 m pc ls (st.map (hz_eV ad))) := by
  obtain ⟨hP, hD, hS⟩ := hW
  unfold hz_mem at h
  split at h
  · -- getfield
    split at h
    · rename_i c0 fs hM
      split at h
      · rename_i hc
        subst hc
        obtain ⟨v, hv, h2⟩ := Option.map_eq_some_iff.mp h
        cases h2
        obtain ⟨C, T, N, hcl, hy, hlk⟩ := hF
        exact va_get hx hb hts (hz_cls hcl).1 hown hK hP _ (hz_wl_get hM) hcl y hy hlk (fun _ q => q) (by rw [List.getElem?_map, hv]; rfl) hd (kk H locs ⟨hP, hD, hS⟩)
      · cases h
    · cases h
  · -- putfield
    split at h
    · rename_i c0 fs hM
      split at h
      · rename_i hc
        obtain ⟨rfl, hfit, hlen⟩ := hc
        cases h
        obtain ⟨C, T, N, hcl, hy, hlk⟩ := hF
        obtain ⟨C', T', N', ty, hcl', _, hfin, hty, hn, hf⟩ := hz_fit_ok (ad := ad) hfit
        have he : (C, T, N) = (C', T', N') := Option.some.inj (hcl.symm.trans hcl')
        cases he
        obtain ⟨g1, g2, g3⟩ := hz_cls hcl
        refine va_put hx hb hts g1 _ g2 g3 hown hK hP hD hS _ (hz_wl_get hM) hcl y hy hlk (fun _ q => q) hfin hty hn hf (by rw [List.length_map]; exact hlen) hd (fun H1 locs1 a1 a2 a3 => ?_)
        refine kk H1 locs1 ⟨?_, ?_, a3⟩
        · rw [hz_wl_set hM]; simpa only [hz_eC, List.map_set] using a1
        · rw [hz_wl_set hM]; simpa only [hz_eC, List.map_set] using a2
      · cases h
    · cases h
  · -- iaload
    split at h
    · rename_i t n f hM
      split at h
      · rename_i hc
        obtain ⟨rfl, hin⟩ := hc
        cases h
        exact va_iald hx hb hK hP _ 0 (hz_wl_get hM) rfl (hz_in_ok hin) hd (kk H locs ⟨hP, hD, hS⟩)
      · cases h
    · cases h
  · -- iastore
    split at h
    · rename_i t n f hM
      split at h
      · rename_i hc
        obtain ⟨rfl, hin⟩ := hc
        cases h
        refine va_iast hx hb hK hP hD hS _ 0 (hz_wl_get hM) rfl (hz_in_ok hin) hd (fun H1 locs1 a1 a2 a3 => ?_)
        refine kk H1 locs1 ⟨?_, ?_, a3⟩
        · rw [hz_wl_set hM]; exact a1
        · rw [hz_wl_set hM]; exact a2
      · cases h
    · cases h
  · -- laload
    split at h
    · rename_i t n f hM
      split at h
      · rename_i hc
        obtain ⟨rfl, hin⟩ := hc
        cases h
        exact va_lald hx hb hK hP _ 1 (hz_wl_get hM) rfl (hz_in_ok hin) hd (kk H locs ⟨hP, hD, hS⟩)
      · cases h
    · cases h
  · -- aaload
    split at h
    · rename_i t n f hM
      split at h
      · rename_i hc
        obtain ⟨rfl, hin⟩ := hc
        obtain ⟨q, hq, h2⟩ := Option.map_eq_some_iff.mp h
        cases h2
        refine va_aldq hx hb hK hP _ 2 (hz_wl_get hM) rfl (hz_in_ok hin) hd ?_
        have := kk H locs ⟨hP, hD, hS⟩
        rw [hq]
        exact this
      · cases h
    · cases h
  · cases h
end HZM
