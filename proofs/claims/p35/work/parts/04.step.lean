/-! THE PURE MACHINE's SMALL STEPS hold of the machine -/
def hz_eV (ad : Nat → Nat) (v : Value) : Value := match v with
  | .ref k => .ref (ad k)
  | v => v
theorem hz_eV_cat (ad : Nat → Nat) (v : Value) : (hz_eV ad v).category = v.category := by cases v <;> rfl
theorem hz_eV_sum (ad : Nat → Nat) (r : List Value) : ((r.map (hz_eV ad)).map fun v => v.category).sum = (r.map fun v => v.category).sum := by
  rw [List.map_map]
  congr 1
  exact List.map_congr_left fun v _ => hz_eV_cat ad v
def hz_eA (ad : Nat → Nat) (x : vp_A) : vp_A := match x with
  | (n, .inr (.inr (.inr (.inr f)))) => (n, .inr (.inr (.inr (.inr fun j => (f j).map ad))))
  | x => x
def hz_ct (tys : List (ClassId × FieldType)) (t : Nat) : ClassId := (tys.getD t (0, .int)).1
def hz_eC (ad : Nat → Nat) (tys : List (ClassId × FieldType)) (e : (Nat × vp_A) ⊕ (Nat × List Value)) : va_E := match e with
  | .inl q => .inl (hz_ct tys q.1, hz_eA ad q.2)
  | .inr o => .inr (o.1, o.2.map (hz_eV ad))
def hz_wf (ad : Nat → Nat) (tys : List (ClassId × FieldType)) : Nat → hzMem → va_W
  | _, [] => []
  | k, e :: M => (ad k, hz_eC ad tys e) :: hz_wf ad tys (k + 1) M
theorem hz_wf_get (ad : Nat → Nat) (tys : List (ClassId × FieldType)) : ∀ (M : hzMem) (k j : Nat), (hz_wf ad tys k M)[j]? = (M[j]?).map (fun e => (ad (k + j), hz_eC ad tys e))
  | [], _, _ => rfl
  | e :: M, k, 0 => rfl
  | e :: M, k, j + 1 => by
    show (hz_wf ad tys (k + 1) M)[j]? = _
    rw [hz_wf_get ad tys M (k + 1) j, show k + 1 + j = k + (j + 1) by omega]
    rfl
theorem hz_wf_set (ad : Nat → Nat) (tys : List (ClassId × FieldType)) (e : (Nat × vp_A) ⊕ (Nat × List Value)) : ∀ (M : hzMem) (k j : Nat), j < M.length → hz_wf ad tys k (M.set j e) = (hz_wf ad tys k M).set j (ad (k + j), hz_eC ad tys e)
  | [], _, _, h => absurd h (Nat.not_lt_zero _)
  | x :: M, k, 0, _ => rfl
  | x :: M, k, j + 1, h => by
    show _ :: hz_wf ad tys (k + 1) (M.set j e) = _
    rw [hz_wf_set ad tys e M (k + 1) j (Nat.lt_of_succ_lt_succ h), show k + 1 + j = k + (j + 1) by omega]
    rfl
abbrev hz_wl (ad : Nat → Nat) (tys : List (ClassId × FieldType)) (M : hzMem) : va_W := hz_wf ad tys 0 M
theorem hz_wl_get {ad : Nat → Nat} {tys : List (ClassId × FieldType)} {M : hzMem} {k : Nat} {e} (h : M[k]? = some e) : (hz_wl ad tys M)[k]? = some (ad k, hz_eC ad tys e) := by
  rw [hz_wl, hz_wf_get, h, Nat.zero_add]
  rfl
theorem hz_wl_set {ad : Nat → Nat} {tys : List (ClassId × FieldType)} {M : hzMem} {k : Nat} {e0 e} (h : M[k]? = some e0) : hz_wl ad tys (M.set k e) = (hz_wl ad tys M).set k (ad k, hz_eC ad tys e) := by
  have hl : k < M.length := (List.getElem?_eq_some_iff.mp h).1
  rw [hz_wl, hz_wf_set ad tys e M 0 k hl, Nat.zero_add]
theorem hz_in_ok {i : Int32} {n : Nat} (h : hz_in i n = true) : vp_in i n := by
  simp only [hz_in, Bool.and_eq_true, decide_eq_true_eq] at h
  exact vp_in_iff.mpr h
/-- the locals as the pure machine has them -/
def hz_lH (ad : Nat → Nat) (ls : Array Slot) (nL : Nat) (L : List (Option Value)) : Prop := ls.size = nL ∧ lv_wf ls ∧ L.length = nL ∧ ∀ (i : Nat) (v : Value), L[i]? = some (some v) → ls[i]? = some (.val (hz_eV ad v))
def hz_as (ad : Nat → Nat) : Nat → List (Option Value) → List (Nat × Value)
  | _, [] => []
  | k, some v :: L => (k, hz_eV ad v) :: hz_as ad (k + 1) L
  | k, none :: L => hz_as ad (k + 1) L
theorem hz_as_mem (ad : Nat → Nat) : ∀ (L : List (Option Value)) (k : Nat) (q : Nat × Value), q ∈ hz_as ad k L ↔ ∃ (i : Nat) (v : Value), L[i]? = some (some v) ∧ q = (k + i, hz_eV ad v)
  | [], k, q => by simp [hz_as]
  | none :: L, k, q => by
    rw [hz_as, hz_as_mem ad L (k + 1) q]
    constructor
    · rintro ⟨i, v, h, rfl⟩
      exact ⟨i + 1, v, h, by rw [show k + 1 + i = k + (i + 1) by omega]⟩
    · rintro ⟨i, v, h, rfl⟩
      cases i with
      | zero => simp at h
      | succ i => exact ⟨i, v, h, by rw [show k + 1 + i = k + (i + 1) by omega]⟩
  | some w :: L, k, q => by
    rw [hz_as, List.mem_cons, hz_as_mem ad L (k + 1) q]
    constructor
    · rintro (rfl | ⟨i, v, h, rfl⟩)
      · exact ⟨0, w, rfl, rfl⟩
      · exact ⟨i + 1, v, h, by rw [show k + 1 + i = k + (i + 1) by omega]⟩
    · rintro ⟨i, v, h, rfl⟩
      cases i with
      | zero =>
        left
        have e : w = v := by simpa using h
        subst e
        rfl
      | succ i => exact Or.inr ⟨i, v, h, by rw [show k + 1 + i = k + (i + 1) by omega]⟩
theorem hz_lH_has {ad : Nat → Nat} {ls : Array Slot} {nL : Nat} {L : List (Option Value)} (h : hz_lH ad ls nL L) : lv_has ls nL (hz_as ad 0 L) := by
  refine ⟨h.1, h.2.1, fun q hq => ?_⟩
  obtain ⟨i, v, h1, rfl⟩ := (hz_as_mem ad L 0 q).mp hq
  rw [Nat.zero_add]
  exact h.2.2.2 i v h1
theorem hz_cut_len (L : List (Option Value)) (i : Nat) : (hz_cut L i).length = L.length := by
  unfold hz_cut
  split
  · rfl
  · split
    · split <;> simp
    · rfl
theorem hz_put_len (L : List (Option Value)) (i : Nat) (v : Value) : (hz_put L i v).length = L.length := by
  unfold hz_put
  split <;> simp [hz_cut_len]
theorem hz_cut_get {L : List (Option Value)} {i j : Nat} {v : Value} (h : (hz_cut L i)[j]? = some (some v)) : L[j]? = some (some v) ∧ ¬ (j + 1 = i ∧ v.category = 2) := by
  unfold hz_cut at h
  split at h
  · exact ⟨h, fun q => by omega⟩
  · rename_i j'
    split at h
    · rename_i w hw
      split at h
      · rename_i hc
        by_cases e : j = j'
        · subst e
          rw [List.getElem?_set_self (List.getElem?_eq_some_iff.mp hw).1] at h
          cases h
        · rw [List.getElem?_set_ne (fun q => e q.symm)] at h
          exact ⟨h, fun q => by omega⟩
      · rename_i hc
        refine ⟨h, fun q => ?_⟩
        have e : j = j' := by omega
        subst e
        rw [hw] at h
        cases h
        exact hc q.2
    · rename_i hw
      refine ⟨h, fun q => ?_⟩
      have e : j = j' := by omega
      subst e
      exact hw v h
theorem hz_put_ok {ad : Nat → Nat} {ls ls' : Array Slot} {nL : Nat} {L : List (Option Value)} {i : Nat} {v : Value} (h : hz_lH ad ls nL L) (hi : i + (v.category - 1) < L.length) {f : Nat × Value → Bool}
    (h' : lv_has ls' nL ((i, hz_eV ad v) :: (hz_as ad 0 L).filter f)) (hf : ∀ (j : Nat) (w : Value), j ≠ i → ¬ (v.category = 2 ∧ j = i + 1) → ¬ (j + 1 = i ∧ w.category = 2) → f (j, hz_eV ad w) = true) : hz_lH ad ls' nL (hz_put L i v) := by
  refine ⟨h'.1, h'.2.1, by rw [hz_put_len]; exact h.2.2.1, fun j w hj => ?_⟩
  have key : j ≠ i → ¬ (v.category = 2 ∧ j = i + 1) → (hz_cut L i)[j]? = some (some w) → ls'[j]? = some (.val (hz_eV ad w)) := by
    intro h1 h2 h3
    obtain ⟨a, b⟩ := hz_cut_get h3
    refine h'.2.2 (j, hz_eV ad w) (List.mem_cons_of_mem _ (List.mem_filter.mpr ⟨(hz_as_mem ad L 0 _).mpr ⟨j, w, a, by rw [Nat.zero_add]⟩, hf j w h1 h2 b⟩))
  have hlen : i < (hz_cut L i).length := by rw [hz_cut_len]; omega
  unfold hz_put at hj
  by_cases e : j = i
  · subst e
    have hw : w = v := by
      split at hj
      · rw [List.getElem?_set_ne (by omega), List.getElem?_set_self hlen] at hj
        cases hj
        rfl
      · rw [List.getElem?_set_self hlen] at hj
        cases hj
        rfl
    subst hw
    exact h'.2.2 (j, hz_eV ad w) List.mem_cons_self
  · split at hj
    · rename_i hc
      by_cases e2 : j = i + 1
      · subst e2
        have hl2 : i + 1 < ((hz_cut L i).set i (some v)).length := by rw [List.length_set, hz_cut_len]; omega
        rw [List.getElem?_set_self hl2] at hj
        cases hj
      · rw [List.getElem?_set_ne (fun q => e2 q.symm), List.getElem?_set_ne (fun q => e q.symm)] at hj
        exact key e (fun q => e2 q.2) hj
    · rename_i hc
      rw [List.getElem?_set_ne (fun q => e q.symm)] at hj
      exact key e (fun q => hc q.1) hj
section HZS
variable {p : Program} {l : Launch} {e : Env} {R : Room} {s : State} {m : MethodId} {args : Array Value} {below : List Frame} {meth : Method} {c : Code} {H : Heap} {locs : List Loc} {cells slots : Nat} {Q : State → Prop}
variable {cc : ByteArray} {pc : Nat} {ls : Array Slot} {ad : Nat → Nat} {own : String}
/-- what a constant's word says -/
def hz_okK (s : State) (args : Array Value) (own : String) (i : Instr) (a : Int) : Prop := match i with
  | .iconst n => Int32.ofInt n = Int32.ofInt a
  | .bipush n => (Int8.ofInt n).toInt32 = Int32.ofInt a
  | .sipush n => (Int16.ofInt n).toInt32 = Int32.ofInt a
  | .lconst n => Int64.ofNat (n : Nat) = Int64.ofInt a
  | .ldc j => (Jvm.Cond.constant own j (Int32.ofInt a)).before args s = true
  | .ldc_w j => (Jvm.Cond.constant own j (Int32.ofInt a)).before args s = true
  | .ldc2_w j => (Jvm.Cond.constantLong own j (Int64.ofInt a)).before args s = true
  | _ => True
set_option maxHeartbeats 4000000 in
theorem hz_stk_ok (hx : p.tables.exec = Jvm.exec) (hb : c.code = cc) (hown : s.vm.findClass own = some m.cls) {i : Instr} {a : Int} {st st' : List Value} (h : hz_stk i a st = some st') (hd : decode cc pc = .ok (i, hz_len i)) (hk : hz_okK s args own i a)
    (kk : W p l e R s m args below meth c H locs cells slots Q (F0 m (pc + hz_len i) ls (st'.map (hz_eV ad)))) : W p l e R s m args below meth c H locs cells slots Q (F0 m pc ls (st.map (hz_eV ad))) := by
  unfold hz_stk at h
  split at h
  · cases h; exact lv_iconst hx hb hd hk kk
  · cases h; exact lv_bipush hx hb hd hk kk
  · cases h; exact lv_sipush hx hb hd hk kk
  · cases h; exact lv_ldc hx hb hown hk hd kk
  · cases h; exact lv_ldcw hx hb hown hk hd kk
  · cases h; exact lv_lconst hx hb hd hk kk
  · cases h; exact lv_ldc2 hx hb hown hk hd kk
  · cases h; exact lv_iadd hx hb hd kk
  · cases h; exact lv_isub hx hb hd kk
  · cases h; exact lv_imul hx hb hd kk
  · split at h
    · cases h
    · rename_i hne
      cases h
      exact lv_idiv hx hb hd hne kk
  · split at h
    · cases h
    · rename_i hne
      cases h
      exact lv_irem hx hb hd hne kk
  · cases h; exact lv_ineg hx hb hd kk
  · cases h; exact lv_iand hx hb hd kk
  · cases h; exact lv_ior hx hb hd kk
  · cases h; exact lv_ixor hx hb hd kk
  · cases h; exact lv_ishl hx hb hd kk
  · cases h; exact lv_ishr hx hb hd kk
  · cases h; exact lv_iushr hx hb hd rfl kk
  · cases h; exact lv_i2l hx hb hd rfl kk
  · cases h; exact lv_i2b hx hb hd rfl kk
  · cases h; exact lv_i2s hx hb hd rfl kk
  · cases h; exact lv_ladd hx hb hd kk
  · cases h; exact lv_lsub hx hb hd kk
  · cases h; exact lv_lmul hx hb hd kk
  · split at h
    · cases h
    · rename_i hne
      cases h
      exact lv_ldiv hx hb hd hne kk
  · split at h
    · cases h
    · rename_i hne
      cases h
      exact lv_lrem hx hb hd hne kk
  · cases h; exact W.lcmp hx hb hd kk
  · split at h
    · rename_i hc
      cases h
      exact lv_dup hx hb hd (by rw [hz_eV_cat]; exact hc) kk
    · cases h
  · split at h
    · rename_i hc
      cases h
      exact lv_dup2_11 hx hb hd (by rw [hz_eV_cat]; exact hc.1) (by rw [hz_eV_cat]; exact hc.2) kk
    · cases h
  · split at h
    · rename_i hc
      cases h
      exact lv_pop hx hb hd (by rw [hz_eV_cat]; exact hc) kk
    · cases h
  · split at h
    · rename_i hc
      cases h
      exact lv_pop2_2 hx hb hd (by rw [hz_eV_cat]; exact hc) kk
    · cases h
  · cases h
/-- what a jump's target is -/
def hz_okB (i : Instr) (pc x : Nat) : Prop := match i with
  | .goto o => (pc : Int) + o = (x : Int)
  | .ifCond _ o => (pc : Int) + o = (x : Int)
  | .if_icmp _ o => (pc : Int) + o = (x : Int)
  | _ => True
theorem hz_tgt_ok {pc t : Nat} {o : Int} (h : hz_tgt pc o = some t) : (pc : Int) + o = (t : Int) := by
  unfold hz_tgt at h
  split at h
  · rename_i h0
    cases h
    omega
  · cases h
set_option maxHeartbeats 4000000 in
theorem hz_br_ok (hx : p.tables.exec = Jvm.exec) (hb : c.code = cc) {i : Instr} {x t : Nat} {st st' : List Value} (h : hz_br i pc x st = some (t, st')) (hd : ∃ len, decode cc pc = .ok (i, len) ∧ ((∃ d lo hi o, i = .tableswitch d lo hi o) ∨ (∃ d o, i = .lookupswitch d o) ∨ len = hz_len i)) (hk : hz_okB i pc x)
    (kk : W p l e R s m args below meth c H locs cells slots Q (F0 m t ls (st'.map (hz_eV ad)))) : W p l e R s m args below meth c H locs cells slots Q (F0 m pc ls (st.map (hz_eV ad))) := by
  obtain ⟨len, hd, hlen⟩ := hd
  unfold hz_br at h
  split at h
  · have hl : len = 3 := by
      rcases hlen with ⟨_, _, _, _, q⟩ | ⟨_, _, q⟩ | q
      · cases q
      · cases q
      · exact q
    subst hl
    cases h
    exact lv_goto hx hb hd hk kk
  · rename_i cn off v r
    have hl : len = 3 := by
      rcases hlen with ⟨_, _, _, _, q⟩ | ⟨_, _, q⟩ | q
      · cases q
      · cases q
      · exact q
    subst hl
    simp only [Option.some.injEq, Prod.mk.injEq] at h
    obtain ⟨rfl, rfl⟩ := h
    cases cn
    · exact lv_if_eq hx hb hd hk (fun q => by simpa [hz_cmp, q] using kk) (fun q => by simpa [hz_cmp, q] using kk)
    · exact lv_if_ne hx hb hd hk (fun q => by simpa [hz_cmp, q] using kk) (fun q => by simpa [hz_cmp, q] using kk)
    · exact lv_if_lt hx hb hd hk (fun q => by simpa only [hz_cmp, q, decide_true, if_true] using kk) (fun q => by simpa only [hz_cmp, q, decide_false, Bool.false_eq_true, if_false] using kk)
    · exact lv_if_ge hx hb hd hk (fun q => by simpa only [hz_cmp, q, decide_true, if_true] using kk) (fun q => by simpa only [hz_cmp, q, decide_false, Bool.false_eq_true, if_false] using kk)
    · exact lv_if_gt hx hb hd hk (fun q => by simpa only [hz_cmp, q, decide_true, if_true] using kk) (fun q => by simpa only [hz_cmp, q, decide_false, Bool.false_eq_true, if_false] using kk)
    · exact lv_if_le hx hb hd hk (fun q => by simpa only [hz_cmp, q, decide_true, if_true] using kk) (fun q => by simpa only [hz_cmp, q, decide_false, Bool.false_eq_true, if_false] using kk)
  · rename_i cn off w v r
    have hl : len = 3 := by
      rcases hlen with ⟨_, _, _, _, q⟩ | ⟨_, _, q⟩ | q
      · cases q
      · cases q
      · exact q
    subst hl
    simp only [Option.some.injEq, Prod.mk.injEq] at h
    obtain ⟨rfl, rfl⟩ := h
    cases cn
    · exact lv_icmp_eq hx hb hd hk (fun q => by simpa [hz_cmp, q] using kk) (fun q => by simpa [hz_cmp, q] using kk)
    · exact lv_icmp_ne hx hb hd hk (fun q => by simpa [hz_cmp, q] using kk) (fun q => by simpa [hz_cmp, q] using kk)
    · exact lv_icmp_lt hx hb hd hk (fun q => by simpa only [hz_cmp, q, decide_true, if_true] using kk) (fun q => by simpa only [hz_cmp, q, decide_false, Bool.false_eq_true, if_false] using kk)
    · exact lv_icmp_ge hx hb hd hk (fun q => by simpa only [hz_cmp, q, decide_true, if_true] using kk) (fun q => by simpa only [hz_cmp, q, decide_false, Bool.false_eq_true, if_false] using kk)
    · exact lv_icmp_gt hx hb hd hk (fun q => by simpa only [hz_cmp, q, decide_true, if_true] using kk) (fun q => by simpa only [hz_cmp, q, decide_false, Bool.false_eq_true, if_false] using kk)
    · exact lv_icmp_le hx hb hd hk (fun q => by simpa only [hz_cmp, q, decide_true, if_true] using kk) (fun q => by simpa only [hz_cmp, q, decide_false, Bool.false_eq_true, if_false] using kk)
  · rename_i d lo hi offs v r
    split at h
    · rename_i ho
      obtain ⟨t0, h1, h2⟩ := Option.map_eq_some_iff.mp h
      cases h2
      exact lv_tableOut hx hb hd ho (hz_tgt_ok h1) kk
    · rename_i ho
      obtain ⟨o, h1, h2⟩ := Option.bind_eq_some_iff.mp h
      obtain ⟨t0, h3, h4⟩ := Option.map_eq_some_iff.mp h2
      cases h4
      exact lv_tableIn hx hb hd (fun q => ho (Or.inl q)) (fun q => ho (Or.inr q)) h1 (hz_tgt_ok h3) kk
  · rename_i d ps v r
    split at h
    · rename_i ho
      obtain ⟨t0, h1, h2⟩ := Option.map_eq_some_iff.mp h
      cases h2
      exact lv_lookup hx hb hd ho rfl (hz_tgt_ok h1) kk
    · cases h
  · cases h
end HZS
