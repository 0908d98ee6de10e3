/-! THE LAW's FRAME over the machine: steps, reads of the script, calls -/
theorem hl_m215 : hzM[215]? = some (hzy_215, code, 8, (Option.some Jvm.ClassFile.FieldType.boolean), 99, 11, 426, 512, (0, 0, 0, 0, 1)) := rfl
theorem hl_w215 : hz_okW 215 := hz_okW_all 215 (by decide +kernel)
section HL
variable {p : Program} {l : Launch} {e : Env} {s : State} {m : MethodId} {below : List Frame} {meth : Method} {c : Code} {b : Nat} {D : va_G} {ad : Nat → Nat} {t0 t1 t2 : ClassId} {N : Nat} {xs : Nat → Int32}
abbrev hl_A (s : State) : Nat → Prop := fun q => s.heap.size ≤ q
/-- what stands through the law's run -/
def hl_C (p : Program) (l : Launch) (s : State) (m : MethodId) (meth : Method) (c : Code) (b N : Nat) (xs : Nat → Int32) (D : va_G) (ad : Nat → Nat) (t0 t1 t2 : ClassId) : Prop := l.stackTraces = false ∧ p.tables.exec = Jvm.exec ∧ c.code = code ∧ meth.sig.returnType = ret ∧ c.maxLocals = 8 ∧ s.vm.findClass R_law = some m.cls ∧ (∀ w ∈ hzTB, w.before #[Value.ref b] s = true) ∧ va_X b N xs s s.heap ∧ b < s.heap.size ∧ meth.locks = false ∧ hz_NS (hl_A s) s.heap s ∧ va_K D hzCl (hz_tys t0 t1 t2) s ∧ ad 60 = b ∧ N ≤ 3072
/-- the law goes on well from here, with room for n cells more -/
def hl_R (p : Program) (l : Launch) (e : Env) (s : State) (m : MethodId) (below : List Frame) (meth : Method) (c : Code) (b : Nat) (D : va_G) (ad : Nat → Nat) (t0 t1 t2 : ClassId) (pc : Nat) (L : List (Option Value)) (st : List Value) (M : hzMem) (n : Nat) : Prop := ∀ (ls : Array Slot) (H : Heap) (locs : List Loc) (cells slots : Nat), hz_lH ad ls 8 L → hz_Wo D ad (hz_tys t0 t1 t2) (hl_A s) s.heap M H locs → cells + n ≤ 601024 → slots + 16 * n ≤ 7293034 → W p l e room_1 s m #[Value.ref b] below meth c H locs cells slots (lw_Z below #[Value.ref b] s) (F0 m pc ls (st.map (hz_eV ad)))
theorem hl_mono {pc : Nat} {L : List (Option Value)} {st : List Value} {M : hzMem} {n n' : Nat} (h : n' ≤ n) (kk : hl_R p l e s m below meth c b D ad t0 t1 t2 pc L st M n') : hl_R p l e s m below meth c b D ad t0 t1 t2 pc L st M n := fun ls H locs cells slots hL hW hc hs => kk ls H locs cells slots hL hW (by omega) (by omega)
theorem hl_s1 (C : hl_C p l s m meth c b N xs D ad t0 t1 t2) {pc : Nat} {L : List (Option Value)} {st : List Value} {M : hzMem} {n pc' : Nat} {L' : List (Option Value)} {st' : List Value} (h : hz_s1 215 pc L st = some (pc', L', st')) (kk : hl_R p l e s m below meth c b D ad t0 t1 t2 pc' L' st' M n) : hl_R p l e s m below meth c b D ad t0 t1 t2 pc L st M n := by
  intro ls H locs cells slots hL hW hc hs
  obtain ⟨hfl, hx, hb, hr, hml, hown, hts, hX, hbl, hlocks, hN, hK, had, hN3⟩ := C
  unfold hz_s1 at h
  split at h
  · rename_i i a x y h' hf
    obtain ⟨hdD, hdA, hdW⟩ := hz_fetch_ok hl_m215 hl_w215 hf
    obtain ⟨len, hd, hlen⟩ := hz_okD_ok hdD
    split at h
    · rename_i hk
      obtain ⟨s', h1, h2⟩ := Option.map_eq_some_iff.mp h
      cases h2
      have hl : len = hz_len i := by
        rcases hlen with ⟨_, _, _, _, rfl⟩ | ⟨_, _, rfl⟩ | q
        · cases hk
        · cases hk
        · exact q
      subst hl
      have hkk := hz_okK_of (y := hzy_215) hts hdA hdW
      exact hz_stk_ok hx hb hown h1 hd hkk (kk ls H locs cells slots hL hW hc hs)
    · rename_i hk
      obtain ⟨s', h1, h2⟩ := Option.map_eq_some_iff.mp h
      cases h2
      have hl : len = hz_len i := by
        rcases hlen with ⟨_, _, _, _, rfl⟩ | ⟨_, _, rfl⟩ | q
        · cases hk
        · cases hk
        · exact q
      subst hl
      exact hz_loc_ok hx hb h1 hd hL (fun ls' hL' => kk ls' H locs cells slots hL' hW hc hs)
    · rename_i hk
      obtain ⟨s', h1, h2⟩ := Option.map_eq_some_iff.mp h
      cases h2
      exact hz_br_ok hx hb h1 ⟨len, hd, hlen⟩ (hz_okB_of hdA) (kk ls H locs cells slots hL hW hc hs)
    · cases h
  · cases h
theorem hl_sN (C : hl_C p l s m meth c b N xs D ad t0 t1 t2) : ∀ (ps : List Nat) {pc : Nat} {L : List (Option Value)} {st : List Value} {pc' : Nat} {L' : List (Option Value)} {st' : List Value} {M : hzMem} {n : Nat}, hz_sN 215 ps pc L st = some (L', st') → ps.getLastD pc = pc' → hl_R p l e s m below meth c b D ad t0 t1 t2 pc' L' st' M n → hl_R p l e s m below meth c b D ad t0 t1 t2 pc L st M n
  | [], pc, L, st, pc', L', st', M, n, h, hp, kk => by cases h; cases hp; exact kk
  | p :: ps, pc, L, st, pc', L', st', M, n, h, hp, kk => by
    rw [hz_sN] at h
    split at h
    · rename_i q L1 st1 h1
      cases hb : Nat.beq q p with
      | true =>
        rw [hb] at h
        have e := Nat.eq_of_beq_eq_true hb
        subst e
        refine hl_s1 C h1 (hl_sN C ps h ?_ kk)
        rw [← hp]
        cases ps <;> rfl
      | false => rw [hb] at h; cases h
    · cases h
/-- the script, read -/
theorem hl_ld (C : hl_C p l s m meth c b N xs D ad t0 t1 t2) {pc : Nat} {a : Int} {x y h : Nat} {L : List (Option Value)} {r : List Value} {M : hzMem} {n : Nat} {j : Int32} (hf : hz_fetch 215 pc = some (.iaload, a, x, y, h)) (hin : vp_in j N) (kk : hl_R p l e s m below meth c b D ad t0 t1 t2 (pc + 1) L (.int (xs j.toNatClampNeg) :: r) M n) : hl_R p l e s m below meth c b D ad t0 t1 t2 pc L (.int j :: .ref 60 :: r) M n := by
  intro ls H locs cells slots hL hW hc hs
  obtain ⟨hfl, hx, hb, hr, hml, hown, hts, hX, hbl, hlocks, hN, hK, had, hN3⟩ := C
  obtain ⟨hdD, hdA, hdW⟩ := hz_fetch_ok hl_m215 hl_w215 hf
  obtain ⟨len, hd, hlen⟩ := hz_okD_ok hdD
  have hl : len = 1 := by
    rcases hlen with ⟨_, _, _, _, q⟩ | ⟨_, _, q⟩ | q
    · cases q
    · cases q
    · exact q
  subst hl
  have k1 := kk ls H locs cells slots hL hW hc hs
  show W _ _ _ _ _ _ _ _ _ _ _ _ _ _ _ (F0 m pc ls (.int j :: .ref (ad 60) :: r.map (hz_eV ad)))
  rw [had]
  exact va_sld hx hb hX hbl (Nat.not_le.mpr hbl) hW.2.2 hin hd k1
theorem hl_len (C : hl_C p l s m meth c b N xs D ad t0 t1 t2) {pc : Nat} {a : Int} {x y h : Nat} {L : List (Option Value)} {r : List Value} {M : hzMem} {n : Nat} (hf : hz_fetch 215 pc = some (.arraylength, a, x, y, h)) (kk : hl_R p l e s m below meth c b D ad t0 t1 t2 (pc + 1) L (.int (Int32.ofNat N) :: r) M n) : hl_R p l e s m below meth c b D ad t0 t1 t2 pc L (.ref 60 :: r) M n := by
  intro ls H locs cells slots hL hW hc hs
  obtain ⟨hfl, hx, hb, hr, hml, hown, hts, hX, hbl, hlocks, hN, hK, had, hN3⟩ := C
  obtain ⟨hdD, hdA, hdW⟩ := hz_fetch_ok hl_m215 hl_w215 hf
  obtain ⟨len, hd, hlen⟩ := hz_okD_ok hdD
  have hl : len = 1 := by
    rcases hlen with ⟨_, _, _, _, q⟩ | ⟨_, _, q⟩ | q
    · cases q
    · cases q
    · exact q
  subst hl
  have k1 := kk ls H locs cells slots hL hW hc hs
  show W _ _ _ _ _ _ _ _ _ _ _ _ _ _ _ (F0 m pc ls (.ref (ad 60) :: r.map (hz_eV ad)))
  rw [had]
  exact va_slen hx hb hX hbl (Nat.not_le.mpr hbl) hW.2.2 hd k1
set_option maxHeartbeats 4000000 in
/-- a call of a method of the two systems -/
theorem hl_call (C : hl_C p l s m meth c b N xs D ad t0 t1 t2) {pc : Nat} {j : Nat} {a : Int} {x y' h : Nat} {L : List (Option Value)} {st : List Value} {M : hzMem} {n : Nat} (hf : hz_fetch 215 pc = some (.invokevirtual j, a, x, y', h)) (ha : a = 0) {z : MethodName} {zb : ByteArray} {zn : Nat} {zr : Option FieldType} {zc zf zl zs : Nat} {zh : Nat × Nat × Nat × Nat × Nat} (hz : hzM[x]? = some (z, zb, zn, zr, zc, zf, zl, zs, zh)) (hzn : zh.1 ≠ 0)
    (hrc : hz_rcv zc (st.take y').reverse M = true) (hyl : y' ≤ st.length) (hsum : ((st.drop y').map fun v => v.category).sum ≤ 8) (hlay : (hz_lay (st.take y')).length ≤ zn) {fu : Nat} {rv : Option Value} {M1 : hzMem} (hrun : hz_run hx_ext fu x 0 (hz_ent zn (st.take y').reverse) [] M zs = some (rv, M1)) (hn : zs ≤ n) (kk : hl_R p l e s m below meth c b D ad t0 t1 t2 (pc + 3) L (rv.toList ++ st.drop y') M1 (n - zs)) : hl_R p l e s m below meth c b D ad t0 t1 t2 pc L st M n := by
  intro ls H locs cells slots hL hW hc hs
  obtain ⟨hfl, hx, hb, hr, hml, hown, hts, hX, hbl, hlocks, hN, hK, had, hN3⟩ := C
  obtain ⟨hdD, hdA, hdW⟩ := hz_fetch_ok hl_m215 hl_w215 hf
  obtain ⟨len, hd, hlen⟩ := hz_okD_ok hdD
  have hl : len = 3 := by
    rcases hlen with ⟨_, _, _, _, q⟩ | ⟨_, _, q⟩ | q
    · cases q
    · cases q
    · exact q
  subst hl
  have hA : ∀ q : Nat, s.heap.size ≤ q → hl_A s q := fun q h => h
  have hJ : hz_okJ 11 426 true a x y' = true := hdA
  have hJW : hz_wds (hz_ndJ hzy_215 j a x h) := hdW
  unfold hz_ndJ at hJW
  unfold hz_okJ at hJ
  rw [if_neg (by rw [ha]; decide)] at hJ hJW
  rw [hz] at hJ hJW
  have hlk : Jvm.Cond.methodLink hzy_215.cls j z ∈ hzTB := by
    have h1 : ¬ a = 1 := by rw [ha]; decide
    simp only [if_neg h1] at hJW
    exact hz_wds_good hJW (List.mem_singleton.mpr rfl) rfl
  simp only [Bool.and_eq_true, decide_eq_true_eq, Bool.or_eq_true, Bool.not_true, Bool.false_eq_true, false_or, if_true, false_and, or_false] at hJ
  obtain ⟨⟨⟨⟨⟨hjf, hjl⟩, hjp⟩, hjv⟩, hj1⟩, hjn⟩ := hJ
  obtain ⟨q, As', fs, hAs, hMq⟩ := hz_rcv_ok hrc
  have hxl : x < hzM.length := (List.getElem?_eq_some_iff.mp hz).1
  obtain ⟨zh1, zh2, zh3, zh4, zh5⟩ := zh
  obtain ⟨k1, k2, k3, kp, k9, kw⟩ := hz_okM_all x hxl _ _ _ _ _ _ _ _ _ _ _ _ _ hz hjn
  have hrc99 : zc ≠ 99 := hjv.mp trivial
  have k9 := k9 hrc99
  have kw : hz_wds ((zh4, .initialized z.cls) :: (zh1, .code z zb zn zr) :: [(zh2, .instanceMethod z), (zh3, .selects z.cls z z)]) := by
    have := kw
    unfold hz_ndM at this
    simp only [if_neg hjn, if_neg hrc99] at this
    exact this
  have k4 := hz_wds_good kw (q := (zh4, .initialized z.cls)) (by simp) rfl
  have hcode := hz_wds_good kw (q := (zh1, .code z zb zn zr)) (by simp) rfl
  have k7 := hz_wds_good kw (q := (zh2, .instanceMethod z)) (by simp) rfl
  have k8 := hz_wds_good kw (q := (zh3, .selects z.cls z z)) (by simp) rfl
  obtain ⟨r9, hr9, hr8⟩ := Option.map_eq_some_iff.mp k9
  have hmet := hz_met (M' := M1) (rv := rv) H.size hz (hz_okW_all x hxl) k1 (by rw [hz_lay_rev]; exact hlay) (hx_sound hfl (D := D) (ad := ad) (t0 := t0) (t1 := t1) (t2 := t2) hrun)
  have hstk : st.map (hz_eV ad) = (As'.map (hz_eV ad)).reverse ++ .ref (ad q) :: (st.drop y').map (hz_eV ad) := by
    have e1 : st = (st.take y').reverse.reverse ++ st.drop y' := by rw [List.reverse_reverse, List.take_append_drop]
    rw [hAs] at e1
    conv => lhs; rw [e1]
    simp [hz_eV]
  rw [hstk]
  have hlenAs : (As'.map (hz_eV ad)).length = y' - 1 := by
    have := congrArg List.length hAs
    simp only [List.length_reverse, List.length_take, List.length_cons] at this
    rw [List.length_map]
    omega
  obtain ⟨hP, hD, hS⟩ := id hW
  have hpre : PreV s H z.cls (ad q) (hz_Pc D ad (hz_tys t0 t1 t2) (st.take y').reverse M H.size) (As'.map (hz_eV ad)) := by
    refine ⟨hz_blind _ _ _, ?_, fun U hU hwm => ?_⟩
    · have := va_recv hK hP hr9 (hz_wl_get hMq)
      rwa [hr8] at this
    · refine ⟨by rw [hAs]; rfl, by rw [hU], by rw [hU]; exact hP, va_K.moved hwm.alike hK, hD.weaken (fun _ _ _ _ => trivial), hz_NS_call hN hW hA hU hwm⟩
  have hsum2 : (((st.drop y').map (hz_eV ad)).map fun v => v.category).sum ≤ 8 := by rw [hz_eV_sum]; exact hsum
  have hroom : cells + zs ≤ room_1.cells ∧ slots + hzSL * zs ≤ room_1.slots := by
    unfold hzSL
    exact ⟨by show cells + zs ≤ 601024; omega, by show slots + 16 * zs ≤ 7293034; omega⟩
  have hkk : ∀ (H1 : Heap) (locs1 : List Loc), hz_Wo D ad (hz_tys t0 t1 t2) (hl_A s) s.heap M1 H1 locs1 → W p l e room_1 s m #[Value.ref b] below meth c H1 locs1 (cells + zs) (slots + hzSL * zs) (lw_Z below #[Value.ref b] s) (F0 m (pc + 3) ls ((rv.map (hz_eV ad)).toList ++ (st.drop y').map (hz_eV ad))) := by
    intro H1 locs1 hW1
    have e2 : (rv.map (hz_eV ad)).toList ++ (st.drop y').map (hz_eV ad) = (rv.toList ++ st.drop y').map (hz_eV ad) := by cases rv <;> simp
    rw [e2]
    exact kk ls H1 locs1 (cells + zs) (slots + hzSL * zs) hL hW1 (by omega) (by unfold hzSL; omega)
  have hgood := hz_good z zb zn zr hcode
  have hR : ({ frames := zf, cells := zs, slots := hzSL * zs, locals := zl } : Room).frames + 1 ≤ room_1.frames ∧ 8 + (zn + 11) + ({ frames := zf, cells := zs, slots := hzSL * zs, locals := zl } : Room).locals ≤ room_1.locals := ⟨hjf, by show 8 + (zn + 11) + zl ≤ 426; omega⟩
  have hdd : z.cls ≠ "java/lang/invoke/MethodHandle" ∧ z.cls ≠ "java/lang/invoke/VarHandle" ∧ (parseMethodDescriptor z.desc).map (fun d => d.parameters.length) = some (y' - 1) := ⟨k2, k3, by rw [kp]; exact congrArg some hjp⟩
  exact hz_back (va_runV ⟨hx, hb, hml, hown, hts⟩ hmet ⟨callB_of (y' - 1) hts hgood rfl rfl rfl (hts _ k4) (hts _ hlk) hdd hR, hts _ k7, hts _ k8⟩ hpre rfl hlenAs hL.1 rfl (lv_room hsum2) hd hroom) hW hA hkk
/-- the law's world: well, sixty cells, the last a row of one long; the shelves of both sides agree -/
def hl_I (M : hzMem) : Prop := ha_inv hw_W M ∧ M.length = 60 ∧ (∃ g : Nat → Int64, M[59]? = some (.inl (1, 1, .inr (.inl g)))) ∧ ∃ σ : Nat → hs_S, hl_ok σ ∧ hs_C σ M ∧ hs_M σ M
abbrev hl_cells : List Nat := [29, 30, 31, 32, 33, 34, 35, 36, 37, 38, 39, 40, 41, 42, 43, 44, 53, 54, 55, 56, 57, 58, 59]
def hl_dis (Wr : List Nat) : Bool := hl_cells.all (fun j => !Wr.contains j)
theorem hl_dis_ok {Wr : List Nat} (h : hl_dis Wr = true) {j : Nat} (hj : j ∈ hl_cells) : j ∉ Wr := by
  have := List.all_eq_true.mp h j hj
  intro hm
  rw [List.contains_iff_mem.mpr hm] at this
  cases this
theorem hl_Ck {σ : Nat → hs_S} {M M1 : hzMem} (hC : hs_C σ M) (h : ∀ j : Nat, 29 ≤ j → j ≤ 44 → M1[j]? = M[j]?) : hs_C σ M1 := fun d hd => hs_c_of (hC d hd) (h _ (by omega) (by omega)) (h _ (by omega) (by omega))
theorem hl_Mk {σ : Nat → hs_S} {M M1 : hzMem} (hM : hs_M σ M) (h : ∀ j : Nat, 53 ≤ j → j ≤ 58 → M1[j]? = M[j]?) : hs_M σ M1 := by
  obtain ⟨K, KK, KF, S, Z, E, m1, m2, m3, m4, m5, m6, ho⟩ := hM
  exact ⟨K, KK, KF, S, Z, E, (h 53 (by omega) (by omega)).trans m1, (h 54 (by omega) (by omega)).trans m2, (h 55 (by omega) (by omega)).trans m3, (h 56 (by omega) (by omega)).trans m4, (h 57 (by omega) (by omega)).trans m5, (h 58 (by omega) (by omega)).trans m6, ho⟩
theorem hl_mc {j : Nat} (h : (29 ≤ j ∧ j ≤ 44) ∨ (53 ≤ j ∧ j ≤ 59)) : j ∈ hl_cells := by
  have : ∀ j : Nat, j < 60 → ((29 ≤ j ∧ j ≤ 44) ∨ (53 ≤ j ∧ j ≤ 59)) → j ∈ hl_cells := by decide
  exact this j (by omega) h
theorem hl_Iw {M M1 : hzMem} {Wr : List Nat} (hI : hl_I M) (h : ha_wok hw_W Wr M M1) (hd : hl_dis Wr = true) : hl_I M1 := by
  obtain ⟨_, hl, ⟨g, hg⟩, σ, h0, h1, h2⟩ := hI
  exact ⟨h.1, h.2.1.trans hl, ⟨g, (h.2.2 59 (hl_dis_ok hd (hl_mc (by omega)))).trans hg⟩, σ, h0, hl_Ck h1 (fun j a b => h.2.2 j (hl_dis_ok hd (hl_mc (by omega)))), hl_Mk h2 (fun j a b => h.2.2 j (hl_dis_ok hd (hl_mc (by omega))))⟩
/-- behind a call of the class that touches the shelves alone, and one of the reference -/
theorem hl_Isp {M M1 M2 : hzMem} (hI : hl_I M) {σ : Nat → hs_S} (h0 : hl_ok σ) (w1 : ha_wok hw_W hm_Wc M M1) (h1 : hs_C σ M1) (w2 : ha_wok hw_W hm_Wd M1 M2) (h2 : hs_M σ M2) : hl_I M2 := by
  obtain ⟨_, hl, ⟨g, hg⟩, _⟩ := hI
  have n1 : 59 ∉ hm_Wc := by decide
  have n2 : 59 ∉ hm_Wd := by decide
  have n3 : ∀ j : Nat, 29 ≤ j → j ≤ 44 → j ∉ hm_Wd := fun j a b q => by
    have : ∀ j ∈ hm_Wd, 53 ≤ j := by decide
    have := this j q
    omega
  exact ⟨w2.1, (w2.2.1.trans w1.2.1).trans hl, ⟨g, ((w2.2.2 59 n2).trans (w1.2.2 59 n1)).trans hg⟩, σ, h0, hl_Ck h1 (fun j a b => w2.2.2 j (n3 j a b)), h2⟩
theorem hl_M1 {σ : Nat → hs_S} {M M1 : hzMem} (h : hs_M σ M) (w1 : ha_wok hw_W hm_Wc M M1) : hs_M σ M1 := hl_Mk h (fun j a b => w1.2.2 j (fun q => by
  have : ∀ j ∈ hm_Wc, j ≤ 44 := by decide
  have := this j q
  omega))
theorem hl_Cr {n x : Nat} {As : List Value} {M : hzMem} {r : Option Value × hzMem} {q : hzN} (hq : hzM[x]? = some q) (hz : q.2.2.2.2.2.2.2.2.1 ≠ 0) (h : ha_C hx_ext n x As M q.2.2.1 q.2.2.2.2.2.2.2.1 = some r) : hz_run hx_ext n x 0 (hz_ent q.2.2.1 As) [] M q.2.2.2.2.2.2.2.1 = some r := by
  unfold ha_C at h
  rw [hx_no x As M q hq hz] at h
  exact h
theorem hl_k47 {M : hzMem} (hi : ha_inv hw_W M) (l : List Value) : hz_rcv 3 (.ref 47 :: l) M = true := by
  obtain ⟨vs, hO, _⟩ := hm_mod hi
  simp [hz_rcv, hO]
theorem hl_r0 {M : hzMem} (hI : hl_I M) (l : List Value) : hz_rcv 2 (.ref 0 :: l) M = true := by
  obtain ⟨vs, hO, _⟩ := hm_fld4 hI.1
  simp [hz_rcv, hO]
theorem hl_r47 {M : hzMem} (hI : hl_I M) (l : List Value) : hz_rcv 3 (.ref 47 :: l) M = true := by
  obtain ⟨vs, hO, _⟩ := hm_mod hI.1
  simp [hz_rcv, hO]
/-- a call of which is told -/
theorem hl_cv (C : hl_C p l s m meth c b N xs D ad t0 t1 t2) {pc : Nat} {j : Nat} {a : Int} {y' h : Nat} {L : List (Option Value)} {st : List Value} {M : hzMem} {n : Nat} (i : Nat) {Y : ha_Y} (hY : hw_Y[i]? = some Y) (hf : hz_fetch 215 pc = some (.invokevirtual j, a, Y.1, y', h)) (ha : a = 0) {z : MethodName} {zb : ByteArray} {zn : Nat} {zr : Option FieldType} {zc zf zl zs : Nat} {zh : Nat × Nat × Nat × Nat × Nat} (hz : hzM[Y.1]? = some (z, zb, zn, zr, zc, zf, zl, zs, zh)) (hzn : zh.1 ≠ 0) (hI : hl_I M)
    (hrc : hz_rcv zc (st.take y').reverse M = true) (hyl : y' ≤ st.length) (hsum : ((st.drop y').map fun v => v.category).sum ≤ 8) (hlay : (hz_lay (st.take y')).length ≤ zn) (hAs : ha_argsC Y.2.1 (st.take y').reverse) (hdis : hl_dis Y.2.2.2 = true) (hn : zs ≤ n) (kk : ∀ (rv : Option Value) (M1 : hzMem), ha_resC Y.2.2.1 rv → hl_I M1 → ha_wok hw_W Y.2.2.2 M M1 → hl_R p l e s m below meth c b D ad t0 t1 t2 (pc + 3) L (rv.toList ++ st.drop y') M1 (n - zs)) : hl_R p l e s m below meth c b D ad t0 t1 t2 pc L st M n := by
  obtain ⟨fu, rv, M1, hc, hr, hw⟩ := hx_all Y (List.mem_of_getElem? hY) _ M hAs hI.1 _ hz
  unfold ha_C at hc
  rw [hx_no _ _ _ _ hz hzn] at hc
  exact hl_call C hf ha hz hzn hrc hyl hsum hlay hc hn (kk rv M1 hr (hl_Iw hI hw hdis) hw)
/-- the world's memory by its ints -/
theorem hp_of2 {M : hzMem} (hI : hl_I M) : ∃ (X : hp_X) (S : hp_S), M = hp_mem X S ∧ S = hp_rd M := by
  obtain ⟨X, h⟩ := hp_of hI.1 hI.2.1 hI.2.2.1
  exact ⟨X, hp_rd M, h, rfl⟩
/-- behind a call of the reference that writes 47 but not the flag of the image -/
theorem hl_As {X : hp_X} {S S' : hp_S} {W2 : List Nat} (h : hl_St (hp_mem X S)) (w2 : ha_wok hw_W W2 (hp_mem X S) (hp_mem X S')) (d2 : hl_sd W2 = true) (hg : S' 47 4 = S 47 4) : hl_St (hp_mem X S') := hl_Ax h (fun j hj => w2.2.2 j (hl_sdo d2 hj)) (by
  have a : hp_rd (hp_mem X S') 47 4 = S' 47 4 := hp_ro X S' (by decide) (hp_c47 X _) rfl
  have b : hp_rd (hp_mem X S) 47 4 = S 47 4 := hp_ro X S (by decide) (hp_c47 X _) rfl
  rw [a, b, hg])
theorem hl_Aw {M M1 : hzMem} {W1 : List Nat} (h : hl_St M) (w1 : ha_wok hw_W W1 M M1) (d1 : hl_sd W1 = true) (e1 : 47 ∉ W1) : hl_St M1 := hl_Ax h (fun j hj => w1.2.2 j (hl_sdo d1 hj)) (by rw [hp_rdx (w1.2.2 47 e1)])
/-- a call that is told exactly: an int, and a state -/
theorem hl_cx (C : hl_C p l s m meth c b N xs D ad t0 t1 t2) {pc : Nat} {j : Nat} {a : Int} {y' h : Nat} {L : List (Option Value)} {st : List Value} {X : hp_X} {S : hp_S} {n : Nat} (i : Nat) {Y : ha_Y} (hY : hw_Y[i]? = some Y) (hf : hz_fetch 215 pc = some (.invokevirtual j, a, Y.1, y', h)) (ha : a = 0) {z : MethodName} {zb : ByteArray} {zn : Nat} {zr : Option FieldType} {zc zf zl zs : Nat} {zh : Nat × Nat × Nat × Nat × Nat} (hz : hzM[Y.1]? = some (z, zb, zn, zr, zc, zf, zl, zs, zh)) (hzn : zh.1 ≠ 0) (hI : hl_I (hp_mem X S))
    (hrc : hz_rcv zc (st.take y').reverse (hp_mem X S) = true) (hyl : y' ≤ st.length) (hsum : ((st.drop y').map fun v => v.category).sum ≤ 8) (hlay : (hz_lay (st.take y')).length ≤ zn) (hAs : ha_argsC Y.2.1 (st.take y').reverse) (hdis : hl_dis Y.2.2.2 = true) (hn : zs ≤ n) {R : Int32 × hp_S} (hK : hp_K Y.1 (st.take y').reverse (hp_mem X S) (hp_is X) R) (kk : hl_I (hp_mem X R.2) → ha_wok hw_W Y.2.2.2 (hp_mem X S) (hp_mem X R.2) → hl_R p l e s m below meth c b D ad t0 t1 t2 (pc + 3) L (.int R.1 :: st.drop y') (hp_mem X R.2) (n - zs)) : hl_R p l e s m below meth c b D ad t0 t1 t2 pc L st (hp_mem X S) n := by
  obtain ⟨fu, rv, M1, hc, hr, hw⟩ := hx_all Y (List.mem_of_getElem? hY) _ (hp_mem X S) hAs hI.1 _ hz
  unfold ha_C at hc
  rw [hx_no _ _ _ _ hz hzn] at hc
  obtain ⟨e1, e2⟩ := Prod.mk.inj ((hp_Ko hK hz hc).trans (show hp_is X R = (some (.int R.1), hp_mem X R.2) from rfl))
  subst e1
  subst e2
  exact hl_call C hf ha hz hzn hrc hyl hsum hlay hc hn (kk (hl_Iw hI hw hdis) hw)
/-- a call that is told exactly: a long, and a state -/
theorem hl_cz (C : hl_C p l s m meth c b N xs D ad t0 t1 t2) {pc : Nat} {j : Nat} {a : Int} {y' h : Nat} {L : List (Option Value)} {st : List Value} {X : hp_X} {S : hp_S} {n : Nat} (i : Nat) {Y : ha_Y} (hY : hw_Y[i]? = some Y) (hf : hz_fetch 215 pc = some (.invokevirtual j, a, Y.1, y', h)) (ha : a = 0) {z : MethodName} {zb : ByteArray} {zn : Nat} {zr : Option FieldType} {zc zf zl zs : Nat} {zh : Nat × Nat × Nat × Nat × Nat} (hz : hzM[Y.1]? = some (z, zb, zn, zr, zc, zf, zl, zs, zh)) (hzn : zh.1 ≠ 0) (hI : hl_I (hp_mem X S))
    (hrc : hz_rcv zc (st.take y').reverse (hp_mem X S) = true) (hyl : y' ≤ st.length) (hsum : ((st.drop y').map fun v => v.category).sum ≤ 8) (hlay : (hz_lay (st.take y')).length ≤ zn) (hAs : ha_argsC Y.2.1 (st.take y').reverse) (hdis : hl_dis Y.2.2.2 = true) (hn : zs ≤ n) {R : Int64 × hp_S} (hK : hp_K Y.1 (st.take y').reverse (hp_mem X S) (hp_ls X) R) (kk : hl_I (hp_mem X R.2) → ha_wok hw_W Y.2.2.2 (hp_mem X S) (hp_mem X R.2) → hl_R p l e s m below meth c b D ad t0 t1 t2 (pc + 3) L (.long R.1 :: st.drop y') (hp_mem X R.2) (n - zs)) : hl_R p l e s m below meth c b D ad t0 t1 t2 pc L st (hp_mem X S) n := by
  obtain ⟨fu, rv, M1, hc, hr, hw⟩ := hx_all Y (List.mem_of_getElem? hY) _ (hp_mem X S) hAs hI.1 _ hz
  unfold ha_C at hc
  rw [hx_no _ _ _ _ hz hzn] at hc
  obtain ⟨e1, e2⟩ := Prod.mk.inj ((hp_Ko hK hz hc).trans (show hp_ls X R = (some (.long R.1), hp_mem X R.2) from rfl))
  subst e1
  subst e2
  exact hl_call C hf ha hz hzn hrc hyl hsum hlay hc hn (kk (hl_Iw hI hw hdis) hw)
/-- a call that is told exactly: an int -/
theorem hl_cp (C : hl_C p l s m meth c b N xs D ad t0 t1 t2) {pc : Nat} {j : Nat} {a : Int} {y' h : Nat} {L : List (Option Value)} {st : List Value} {X : hp_X} {S : hp_S} {n : Nat} (i : Nat) {Y : ha_Y} (hY : hw_Y[i]? = some Y) (hf : hz_fetch 215 pc = some (.invokevirtual j, a, Y.1, y', h)) (ha : a = 0) {z : MethodName} {zb : ByteArray} {zn : Nat} {zr : Option FieldType} {zc zf zl zs : Nat} {zh : Nat × Nat × Nat × Nat × Nat} (hz : hzM[Y.1]? = some (z, zb, zn, zr, zc, zf, zl, zs, zh)) (hzn : zh.1 ≠ 0) (hI : hl_I (hp_mem X S))
    (hrc : hz_rcv zc (st.take y').reverse (hp_mem X S) = true) (hyl : y' ≤ st.length) (hsum : ((st.drop y').map fun v => v.category).sum ≤ 8) (hlay : (hz_lay (st.take y')).length ≤ zn) (hAs : ha_argsC Y.2.1 (st.take y').reverse) (hdis : hl_dis Y.2.2.2 = true) (hn : zs ≤ n) {R : Int32} (hK : hp_K Y.1 (st.take y').reverse (hp_mem X S) (hp_i X S) R) (kk : hl_I (hp_mem X S) → ha_wok hw_W Y.2.2.2 (hp_mem X S) (hp_mem X S) → hl_R p l e s m below meth c b D ad t0 t1 t2 (pc + 3) L (.int R :: st.drop y') (hp_mem X S) (n - zs)) : hl_R p l e s m below meth c b D ad t0 t1 t2 pc L st (hp_mem X S) n := by
  obtain ⟨fu, rv, M1, hc, hr, hw⟩ := hx_all Y (List.mem_of_getElem? hY) _ (hp_mem X S) hAs hI.1 _ hz
  unfold ha_C at hc
  rw [hx_no _ _ _ _ hz hzn] at hc
  obtain ⟨e1, e2⟩ := Prod.mk.inj ((hp_Ko hK hz hc).trans (show hp_i X S R = (some (.int R), hp_mem X S) from rfl))
  subst e1
  subst e2
  exact hl_call C hf ha hz hzn hrc hyl hsum hlay hc hn (kk (hl_Iw hI hw hdis) hw)
/-- a call that is told exactly: a long -/
theorem hl_cq (C : hl_C p l s m meth c b N xs D ad t0 t1 t2) {pc : Nat} {j : Nat} {a : Int} {y' h : Nat} {L : List (Option Value)} {st : List Value} {X : hp_X} {S : hp_S} {n : Nat} (i : Nat) {Y : ha_Y} (hY : hw_Y[i]? = some Y) (hf : hz_fetch 215 pc = some (.invokevirtual j, a, Y.1, y', h)) (ha : a = 0) {z : MethodName} {zb : ByteArray} {zn : Nat} {zr : Option FieldType} {zc zf zl zs : Nat} {zh : Nat × Nat × Nat × Nat × Nat} (hz : hzM[Y.1]? = some (z, zb, zn, zr, zc, zf, zl, zs, zh)) (hzn : zh.1 ≠ 0) (hI : hl_I (hp_mem X S))
    (hrc : hz_rcv zc (st.take y').reverse (hp_mem X S) = true) (hyl : y' ≤ st.length) (hsum : ((st.drop y').map fun v => v.category).sum ≤ 8) (hlay : (hz_lay (st.take y')).length ≤ zn) (hAs : ha_argsC Y.2.1 (st.take y').reverse) (hdis : hl_dis Y.2.2.2 = true) (hn : zs ≤ n) {R : Int64} (hK : hp_K Y.1 (st.take y').reverse (hp_mem X S) (hp_l X S) R) (kk : hl_I (hp_mem X S) → ha_wok hw_W Y.2.2.2 (hp_mem X S) (hp_mem X S) → hl_R p l e s m below meth c b D ad t0 t1 t2 (pc + 3) L (.long R :: st.drop y') (hp_mem X S) (n - zs)) : hl_R p l e s m below meth c b D ad t0 t1 t2 pc L st (hp_mem X S) n := by
  obtain ⟨fu, rv, M1, hc, hr, hw⟩ := hx_all Y (List.mem_of_getElem? hY) _ (hp_mem X S) hAs hI.1 _ hz
  unfold ha_C at hc
  rw [hx_no _ _ _ _ hz hzn] at hc
  obtain ⟨e1, e2⟩ := Prod.mk.inj ((hp_Ko hK hz hc).trans (show hp_l X S R = (some (.long R), hp_mem X S) from rfl))
  subst e1
  subst e2
  exact hl_call C hf ha hz hzn hrc hyl hsum hlay hc hn (kk (hl_Iw hI hw hdis) hw)
theorem hl_ri {q : Int × Int} {rv : Option Value} (h : ha_resC (some (.inl q)) rv) : ∃ z : Int32, rv = some (.int z) := by
  match rv, h with
  | some v, ⟨z, hz, _⟩ => exact ⟨z, by rw [hz]⟩
theorem hl_rl {rv : Option Value} (h : ha_resC (some (.inr ())) rv) : ∃ z : Int64, rv = some (.long z) := by
  match rv, h with
  | some v, ⟨z, hz⟩ => exact ⟨z, by rw [hz]⟩
end HL
