theorem hz_okK_of {s : State} {args : Array Value} {y : MethodName} {fr lc pc : Nat} {i : Instr} {a : Int} {x z h : Nat} (hts : ∀ w ∈ hzTB, w.before args s = true) (hq : hz_okA fr lc pc i a x z = true) (hw : hz_wds (hz_nd y i a x z h)) : hz_okK s args y.cls i a := by
  unfold hz_okK
  split <;> first | exact of_decide_eq_true hq | exact hts _ (hz_wds_good hw (List.mem_singleton.mpr rfl) rfl) | trivial
theorem hz_okB_of {fr lc pc : Nat} {i : Instr} {a : Int} {x z : Nat} (hq : hz_okA fr lc pc i a x z = true) : hz_okB i pc x := by
  unfold hz_okB
  split <;> first | exact of_decide_eq_true hq | trivial
theorem hz_okF_of {s : State} {args : Array Value} {y : MethodName} {fr lc pc : Nat} {i : Instr} {a : Int} {x z h : Nat} (hts : ∀ w ∈ hzTB, w.before args s = true) (hq : hz_okA fr lc pc i a x z = true) (hw : hz_wds (hz_nd y i a x z h)) : hz_okF s args y.cls i x z := by
  have key : ∀ j : Nat, (match hzCl[x]? with
      | some (_, _, N) => decide (z < N)
      | none => false) = true → hz_wds (match hzCl[x]? with
      | some (_, T, _) => [(h, .fieldLink y.cls j (T z).1 (T z).2.1 (T z).2.2.1)]
      | none => []) → ∃ C T N, hzCl[x]? = some (C, T, N) ∧ z < N ∧ (Jvm.Cond.fieldLink y.cls j (T z).1 (T z).2.1 (T z).2.2.1).before args s = true := by
    intro j hj hw
    cases hc : hzCl[x]? with
    | none => rw [hc] at hj; cases hj
    | some q =>
      obtain ⟨C, T, N⟩ := q
      rw [hc] at hj hw
      exact ⟨C, T, N, rfl, of_decide_eq_true hj, hts _ (hz_wds_good hw (List.mem_singleton.mpr rfl) rfl)⟩
  unfold hz_okF
  split <;> first | exact key _ hq hw | trivial
theorem hz_ret_len {i : Instr} {ret : Option FieldType} {st : List Value} {v : Option Value} (h : hz_ret i ret st = some v) : hz_len i = 1 ∧ hz_kind i = 4 := by
  unfold hz_ret at h
  split at h <;> first | exact ⟨rfl, rfl⟩ | cases h
theorem hz_k5 {i : Instr} (h : hz_kind i = 5) : ∃ j, i = .invokevirtual j := by
  unfold hz_kind at h
  split at h <;> first | exact ⟨_, rfl⟩ | cases h
theorem hz_k6 {i : Instr} (h : hz_kind i = 6) : ∃ j, i = .invokestatic j := by
  unfold hz_kind at h
  split at h <;> first | exact ⟨_, rfl⟩ | cases h
theorem hz_rcv_ok {rc : Nat} {As : List Value} {M : hzMem} (h : hz_rcv rc As M = true) : ∃ q As' fs, As = .ref q :: As' ∧ M[q]? = some (.inr (rc, fs)) := by
  unfold hz_rcv at h
  split at h
  · split at h
    · rename_i c fs hM
      rw [decide_eq_true_eq] at h
      subst h
      exact ⟨_, _, fs, rfl, hM⟩
    · cases h
  · cases h
set_option maxHeartbeats 8000000 in
theorem hz_sound {l : Launch} {D : va_G} {ad : Nat → Nat} {t0 t1 t2 : ClassId} (ext : Nat → List Value → hzMem → Option (Option (Option Value × hzMem)))
    (hC : ∀ k, k < hzM.length → hz_okW k) (hM : ∀ k, k < hzM.length → hz_okM k)
    (hn : ∀ (x : Nat) (As : List Value) (M : hzMem) (z zb zn zr rc f lx cs) (hh : Nat × Nat × Nat × Nat × Nat), hzM[x]? = some (z, zb, zn, zr, rc, f, lx, cs, hh) → (ext x As M = none ↔ hh.1 ≠ 0))
    (he : ∀ (x : Nat) (As : List Value) (M : hzMem) (rv : Option Value) (M' : hzMem), ext x As M = some (some (rv, M')) → hz_CW l D ad (hz_tys t0 t1 t2) x As M rv M') :
    ∀ (n k pc : Nat) (L : List (Option Value)) (st : List Value) (M : hzMem) (b : Nat) (rv : Option Value) (M' : hzMem), hz_run ext n k pc L st M b = some (rv, M') → hz_Snd l D ad t0 t1 t2 k pc L st M b rv M' := by
  intro n
  induction n with
  | zero =>
    intro k pc L st M b rv M' h
    cases h
  | succ n ih =>
    intro k pc L st M b rv M' h
    intro p e R s m args below meth c H locs cells slots Q ls A H0 C S y bb nL ret rc fr lc cs hh hk hCk hx hb hml hown hts hN hK hL hW hA hfr hlc hCR hSR hcC hsS hret
    rw [hz_run] at h
    split at h
    · cases h
    · rename_i i a x y' h' hf
      obtain ⟨hdD, hdA, hdW⟩ := hz_fetch_ok hk hCk hf
      obtain ⟨len, hd, hlen⟩ := hz_okD_ok hdD
      split at h
      · rename_i hkind
        split at h
        · rename_i st' hst
          have hl : len = hz_len i := by
            rcases hlen with ⟨_, _, _, _, rfl⟩ | ⟨_, _, rfl⟩ | q
            · cases hkind
            · cases hkind
            · exact q
          subst hl
          exact hz_stk_ok hx hb hown hst hd (hz_okK_of hts hdA hdW) (ih _ _ _ _ _ _ _ _ h p e R s m args below meth c H locs cells slots Q ls A H0 C S y bb nL ret rc fr lc cs hh hk hCk hx hb hml hown hts hN hK hL hW hA hfr hlc hCR hSR hcC hsS hret)
        · cases h
      · rename_i hkind
        split at h
        · rename_i L' st' hst
          have hl : len = hz_len i := by
            rcases hlen with ⟨_, _, _, _, rfl⟩ | ⟨_, _, rfl⟩ | q
            · cases hkind
            · cases hkind
            · exact q
          subst hl
          exact hz_loc_ok hx hb hst hd hL (fun ls' hL' => ih _ _ _ _ _ _ _ _ h p e R s m args below meth c H locs cells slots Q ls' A H0 C S y bb nL ret rc fr lc cs hh hk hCk hx hb hml hown hts hN hK hL' hW hA hfr hlc hCR hSR hcC hsS hret)
        · cases h
      · rename_i hkind
        split at h
        · rename_i pc' st' hst
          exact hz_br_ok hx hb hst ⟨len, hd, hlen⟩ (hz_okB_of hdA) (ih _ _ _ _ _ _ _ _ h p e R s m args below meth c H locs cells slots Q ls A H0 C S y bb nL ret rc fr lc cs hh hk hCk hx hb hml hown hts hN hK hL hW hA hfr hlc hCR hSR hcC hsS hret)
        · cases h
      · rename_i hkind
        split at h
        · rename_i st' M1 hst
          have hl : len = hz_len i := by
            rcases hlen with ⟨_, _, _, _, rfl⟩ | ⟨_, _, rfl⟩ | q
            · cases hkind
            · cases hkind
            · exact q
          subst hl
          exact hz_mem_ok hx hb hts hown hK hst hd (hz_okF_of hts hdA hdW) hW (fun H1 locs1 hW1 => ih _ _ _ _ _ _ _ _ h p e R s m args below meth c H1 locs1 cells slots Q ls A H0 C S y bb nL ret rc fr lc cs hh hk hCk hx hb hml hown hts hN hK hL hW1 hA hfr hlc hCR hSR hcC hsS hret)
        · cases h
      · rename_i hkind
        rw [hk] at h
        obtain ⟨v, hv, h2⟩ := Option.map_eq_some_iff.mp h
        cases h2
        have hl : len = 1 := by
          rcases hlen with ⟨_, _, _, _, rfl⟩ | ⟨_, _, rfl⟩ | q
          · cases hkind
          · cases hkind
          · rw [q]; exact (hz_ret_len hv).1
        subst hl
        exact hret pc i ls st H locs cells slots hd hv hW (by omega) (by omega)
      · -- invokevirtual
        rename_i hkind
        obtain ⟨j, rfl⟩ := hz_k5 hkind
        have hl : len = 3 := by
          rcases hlen with ⟨_, _, _, _, q⟩ | ⟨_, _, q⟩ | q
          · cases q
          · cases q
          · exact q
        subst hl
        have hJ : hz_okJ fr lc true a x y' = true := hdA
        have hJW : hz_wds (hz_ndJ y j a x h') := hdW
        unfold hz_ndJ at hJW
        unfold hz_okJ at hJ
        unfold hz_inv at h
        split at h
        · rename_i ha
          rw [if_pos ha] at hJ
          simp at hJ
        · rename_i ha
          rw [if_neg ha] at hJ hJW
          split at h
          · cases h
          · rename_i z zb zn zr zc zf zl zs zh hz
            rw [hz] at hJ hJW
            have hlk : (a = 1 ∧ Jvm.Cond.methodLinkNest y.cls j z "HatsOfTheWind" ∈ hzNW) ∨ (¬ a = 1 ∧ Jvm.Cond.methodLink y.cls j z ∈ hzTB) := by
              by_cases h1 : a = 1
              · simp only [if_pos h1] at hJW
                exact Or.inl ⟨h1, hz_wds_nest hJW (List.mem_singleton.mpr rfl) rfl⟩
              · simp only [if_neg h1] at hJW
                exact Or.inr ⟨h1, hz_wds_good hJW (List.mem_singleton.mpr rfl) rfl⟩
            simp only [Bool.and_eq_true, decide_eq_true_eq, Bool.or_eq_true, Bool.not_true, Bool.false_eq_true, false_or, if_true, false_and, or_false] at hJ
            obtain ⟨⟨⟨⟨⟨hjf, hjl⟩, hjp⟩, hjv⟩, hj1⟩, hjn⟩ := hJ
            simp only [if_true] at h
            split at h
            · rename_i hcond
              obtain ⟨hrc, hyl, hsum, hcs, hlay⟩ := hcond
              obtain ⟨q, As', fs, hAs, hMq⟩ := hz_rcv_ok hrc
              have hxl : x < hzM.length := (List.getElem?_eq_some_iff.mp hz).1
              rw [(hn x (st.take y').reverse M _ _ _ _ _ _ _ _ _ hz).mpr hjn] at h
              split at h
              · rename_i rv1 M1 hrun
                obtain ⟨zh1, zh2, zh3, zh4, zh5⟩ := zh
                obtain ⟨k1, k2, k3, kp, k9, kw⟩ := hM x hxl _ _ _ _ _ _ _ _ _ _ _ _ _ hz hjn
                have hrc99 : zc ≠ 99 := hjv.mp trivial
                have k9 := k9 hrc99
                have kw : hz_wds ((zh4, .initialized z.cls) :: (zh1, .code z zb zn zr) :: [(zh2, .instanceMethod z), (zh3, .selects z.cls z z)]) := by
                  have := kw
                  unfold hz_ndM at this
                  simp only [if_neg hjn, if_neg hrc99] at this
                  exact this
                have k4 := hz_wds_good kw (q := (zh4, .initialized z.cls)) (by simp) rfl
                have hcode := hz_wds_good kw (q := (zh1, .code z zb zn zr)) (by simp) rfl
                have k7 := hz_wds_good kw (q := (zh2, .instanceMethod z)) (by simp) rfl
                have k8 := hz_wds_good kw (q := (zh3, .selects z.cls z z)) (by simp) rfl
                obtain ⟨r9, hr9, hr8⟩ := Option.map_eq_some_iff.mp k9
                have hmet := hz_met (M' := M1) (rv := rv1) H.size hz (hC x hxl) k1 (by rw [hz_lay_rev]; exact hlay) (ih _ _ _ _ _ _ _ _ hrun)
                have hstk : st.map (hz_eV ad) = (As'.map (hz_eV ad)).reverse ++ .ref (ad q) :: (st.drop y').map (hz_eV ad) := by
                  have e1 : st = (st.take y').reverse.reverse ++ st.drop y' := by rw [List.reverse_reverse, List.take_append_drop]
                  rw [hAs] at e1
                  conv => lhs; rw [e1]
                  simp [hz_eV]
                rw [hstk]
                have hlenAs : (As'.map (hz_eV ad)).length = y' - 1 := by
                  have := congrArg List.length hAs
                  simp only [List.length_reverse, List.length_take, List.length_cons] at this
                  rw [List.length_map]
                  omega
                obtain ⟨hP, hD, hS⟩ := id hW
                have hpre : PreV s H z.cls (ad q) (hz_Pc D ad (hz_tys t0 t1 t2) (st.take y').reverse M H.size) (As'.map (hz_eV ad)) := by
                  refine ⟨hz_blind _ _ _, ?_, fun U hU hwm => ?_⟩
                  · have := va_recv hK hP hr9 (hz_wl_get hMq)
                    rwa [hr8] at this
                  · refine ⟨by rw [hAs]; rfl, by rw [hU], by rw [hU]; exact hP, va_K.moved hwm.alike hK, hD.weaken (fun _ _ _ _ => trivial), hz_NS_call hN hW hA hU hwm⟩
                have hsum2 : (((st.drop y').map (hz_eV ad)).map fun v => v.category).sum ≤ 8 := by rw [hz_eV_sum]; exact hsum
                have hroom : cells + zs ≤ R.cells ∧ slots + hzSL * zs ≤ R.slots := ⟨by omega, Nat.le_trans (Nat.add_le_add_left (Nat.mul_le_mul_left _ hcs) _) (Nat.le_trans hsS hSR)⟩
                have hsub : slots + hzSL * zs + hzSL * (b - zs) ≤ S := by
                  have e : hzSL * zs + hzSL * (b - zs) = hzSL * b := by rw [← Nat.mul_add]; congr 1; omega
                  omega
                have hkk : ∀ (H1 : Heap) (locs1 : List Loc), hz_Wo D ad (hz_tys t0 t1 t2) A H0 M1 H1 locs1 → W p l e R s m args below meth c H1 locs1 (cells + zs) (slots + hzSL * zs) Q (F0 m (pc + 3) ls ((rv1.map (hz_eV ad)).toList ++ (st.drop y').map (hz_eV ad))) := by
                  intro H1 locs1 hW1
                  have e2 : (rv1.map (hz_eV ad)).toList ++ (st.drop y').map (hz_eV ad) = (rv1.toList ++ st.drop y').map (hz_eV ad) := by cases rv1 <;> simp
                  rw [e2]
                  exact ih _ _ _ _ _ _ _ _ h p e R s m args below meth c H1 locs1 (cells + zs) (slots + hzSL * zs) Q ls A H0 C S y bb nL ret rc fr lc cs hh hk hCk hx hb hml hown hts hN hK hL hW1 hA hfr hlc hCR hSR (by omega) hsub hret
                have hgood := hz_good z zb zn zr hcode
                have hR : ({ frames := zf, cells := zs, slots := hzSL * zs, locals := zl } : Room).frames + 1 ≤ R.frames ∧ 8 + (zn + 11) + ({ frames := zf, cells := zs, slots := hzSL * zs, locals := zl } : Room).locals ≤ R.locals := ⟨Nat.le_trans hjf hfr, by show 8 + (zn + 11) + zl ≤ R.locals; omega⟩
                have hdd : z.cls ≠ "java/lang/invoke/MethodHandle" ∧ z.cls ≠ "java/lang/invoke/VarHandle" ∧ (parseMethodDescriptor z.desc).map (fun d => d.parameters.length) = some (y' - 1) := ⟨k2, k3, by rw [kp]; exact congrArg some hjp⟩
                rcases hlk with ⟨_, hlk⟩ | ⟨_, hlk⟩
                · exact hz_back (va_runVN ⟨hx, hb, hml, hown, hts⟩ hmet ⟨va_cnB (y' - 1) hts hgood rfl rfl rfl (hN.1.1 _ hlk) (hts _ k4) hdd hR, hts _ k7, hts _ k8⟩ hpre rfl hlenAs hL.1 rfl (lv_room hsum2) hd hroom) hW hA hkk
                · exact hz_back (va_runV ⟨hx, hb, hml, hown, hts⟩ hmet ⟨callB_of (y' - 1) hts hgood rfl rfl rfl (hts _ k4) (hts _ hlk) hdd hR, hts _ k7, hts _ k8⟩ hpre rfl hlenAs hL.1 rfl (lv_room hsum2) hd hroom) hW hA hkk
              · cases h
            · cases h
      · -- invokestatic
        rename_i hkind
        obtain ⟨j, rfl⟩ := hz_k6 hkind
        have hl : len = 3 := by
          rcases hlen with ⟨_, _, _, _, q⟩ | ⟨_, _, q⟩ | q
          · cases q
          · cases q
          · exact q
        subst hl
        have hJ : hz_okJ fr lc false a x y' = true := hdA
        have hJW : hz_wds (hz_ndJ y j a x h') := hdW
        unfold hz_ndJ at hJW
        unfold hz_okJ at hJ
        unfold hz_inv at h
        split at h
        · rename_i ha
          rw [if_pos ha] at hJ hJW
          simp only [Bool.and_eq_true, decide_eq_true_eq, Bool.not_false, true_and] at hJ
          split at h
          · rename_i st' M1 hst
            exact hz_acp_ok hx hb (hml.trans hL.1.symm) hts hown hK hst hd (hts _ (hz_wds_good hJW (List.mem_singleton.mpr rfl) rfl)) hW (Nat.le_trans hJ.1 hfr) (Nat.le_trans hJ.2 hlc) (fun H1 locs1 hW1 => ih _ _ _ _ _ _ _ _ h p e R s m args below meth c H1 locs1 cells slots Q ls A H0 C S y bb nL ret rc fr lc cs hh hk hCk hx hb hml hown hts hN hK hL hW1 hA hfr hlc hCR hSR hcC hsS hret)
          · cases h
        · rename_i ha
          rw [if_neg ha] at hJ hJW
          split at h
          · cases h
          · rename_i z zb zn zr zc zf zl zs zh hz
            rw [hz] at hJ hJW
            have hlk : (a = 1 ∧ Jvm.Cond.methodLinkNest y.cls j z "HatsOfTheWind" ∈ hzNW) ∨ (¬ a = 1 ∧ Jvm.Cond.methodLink y.cls j z ∈ hzTB) := by
              by_cases h1 : a = 1
              · simp only [if_pos h1] at hJW
                exact Or.inl ⟨h1, hz_wds_nest hJW (List.mem_singleton.mpr rfl) rfl⟩
              · simp only [if_neg h1] at hJW
                exact Or.inr ⟨h1, hz_wds_good hJW (List.mem_singleton.mpr rfl) rfl⟩
            simp only [Bool.and_eq_true, decide_eq_true_eq, Bool.or_eq_true, Bool.not_false, Bool.false_eq_true, true_or, if_false, true_and, and_true, false_iff, ne_eq, Decidable.not_not] at hJ
            obtain ⟨⟨⟨⟨hjf, hjl⟩, hjp⟩, hjv⟩, hjn⟩ := hJ
            simp only [Bool.false_eq_true, if_false] at h
            split at h
            · rename_i hcond
              obtain ⟨hrc, hyl, hsum, hcs, hlay⟩ := hcond
              have hxl : x < hzM.length := (List.getElem?_eq_some_iff.mp hz).1
              have hsum2 : (((st.drop y').map (hz_eV ad)).map fun v => v.category).sum ≤ 8 := by rw [hz_eV_sum]; exact hsum
              have hroom : cells + zs ≤ R.cells ∧ slots + hzSL * zs ≤ R.slots := ⟨by omega, Nat.le_trans (Nat.add_le_add_left (Nat.mul_le_mul_left _ hcs) _) (Nat.le_trans hsS hSR)⟩
              have hsub : slots + hzSL * zs + hzSL * (b - zs) ≤ S := by
                have e : hzSL * zs + hzSL * (b - zs) = hzSL * b := by rw [← Nat.mul_add]; congr 1; omega
                omega
              have hstk : st.map (hz_eV ad) = (((st.take y').reverse).map (hz_eV ad)).reverse ++ (st.drop y').map (hz_eV ad) := by
                rw [← List.map_reverse, List.reverse_reverse, ← List.map_append, List.take_append_drop]
              rw [hstk]
              have hlenAs : (((st.take y').reverse).map (hz_eV ad)).length = y' := by
                simp only [List.length_map, List.length_reverse, List.length_take]
                omega
              have hkk : ∀ (rv1 : Option Value) (M1 : hzMem), hz_run ext n k (pc + 3) L (rv1.toList ++ st.drop y') M1 (b - zs) = some (rv, M') → ∀ (H1 : Heap) (locs1 : List Loc), hz_Wo D ad (hz_tys t0 t1 t2) A H0 M1 H1 locs1 → W p l e R s m args below meth c H1 locs1 (cells + zs) (slots + hzSL * zs) Q (F0 m (pc + 3) ls ((rv1.map (hz_eV ad)).toList ++ (st.drop y').map (hz_eV ad))) := by
                intro rv1 M1 h H1 locs1 hW1
                have e2 : (rv1.map (hz_eV ad)).toList ++ (st.drop y').map (hz_eV ad) = (rv1.toList ++ st.drop y').map (hz_eV ad) := by cases rv1 <;> simp
                rw [e2]
                exact ih _ _ _ _ _ _ _ _ h p e R s m args below meth c H1 locs1 (cells + zs) (slots + hzSL * zs) Q ls A H0 C S y bb nL ret rc fr lc cs hh hk hCk hx hb hml hown hts hN hK hL hW1 hA hfr hlc hCR hSR (by omega) hsub hret
              split at h
              · rename_i rv1 M1 hrun
                split at hrun
                · rename_i o ho
                  subst hrun
                  have h1 : ¬ (¬ zh.1 = 0) := fun q => by
                    have := (hn x (st.take y').reverse M _ _ _ _ _ _ _ _ _ hz).mpr q
                    rw [this] at ho
                    cases ho
                  have ha1 := hjn.resolve_left h1
                  have hlk := (hlk.resolve_left (fun q => ha1 q.1)).2
                  exact he x _ M rv1 M1 ho p e R s m args below meth c H locs cells slots Q ls pc _ A H0 j y.cls z zb zn zr zc zf zl zs zh hz hx hown hts hN hK hW hA (hml.trans hL.1.symm) (by rw [hb]; exact hd) (hts _ hlk) (Nat.le_trans hjf hfr) (Nat.le_trans hjl hlc) hroom.1 hroom.2 hsum2 (hkk rv1 M1 h)
                · rename_i ho
                  have hjn1 : ¬ zh.1 = 0 := (hn x (st.take y').reverse M _ _ _ _ _ _ _ _ _ hz).mp ho
                  obtain ⟨zh1, zh2, zh3, zh4, zh5⟩ := zh
                  obtain ⟨k1, k2, k3, kp, k9, kw⟩ := hM x hxl _ _ _ _ _ _ _ _ _ _ _ _ _ hz hjn1
                  have kw : hz_wds ((zh4, .initialized z.cls) :: (zh1, .code z zb zn zr) :: [(zh2, .static z)]) := by
                    have := kw
                    unfold hz_ndM at this
                    simp only [if_neg hjn1, if_pos hjv] at this
                    exact this
                  have k4 := hz_wds_good kw (q := (zh4, .initialized z.cls)) (by simp) rfl
                  have hcode := hz_wds_good kw (q := (zh1, .code z zb zn zr)) (by simp) rfl
                  have k5 := hz_wds_good kw (q := (zh2, .static z)) (by simp) rfl
                  have hmet := hz_met (M' := M1) (rv := rv1) H.size hz (hC x hxl) k1 (by rw [hz_lay_rev]; exact hlay) (ih _ _ _ _ _ _ _ _ hrun)
                  obtain ⟨hP, hD, hS⟩ := id hW
                  have hpre : PreS s H (hz_Pc D ad (hz_tys t0 t1 t2) (st.take y').reverse M H.size) (((st.take y').reverse).map (hz_eV ad)) := by
                    refine ⟨hz_blind _ _ _, fun U hU hwm => ?_⟩
                    exact ⟨rfl, by rw [hU], by rw [hU]; exact hP, va_K.moved hwm.alike hK, hD.weaken (fun _ _ _ _ => trivial), hz_NS_call hN hW hA hU hwm⟩
                  have hgood := hz_good z zb zn zr hcode
                  have hR : ({ frames := zf, cells := zs, slots := hzSL * zs, locals := zl } : Room).frames + 1 ≤ R.frames ∧ 8 + (zn + 11) + ({ frames := zf, cells := zs, slots := hzSL * zs, locals := zl } : Room).locals ≤ R.locals := ⟨Nat.le_trans hjf hfr, by show 8 + (zn + 11) + zl ≤ R.locals; omega⟩
                  have hdd : z.cls ≠ "java/lang/invoke/MethodHandle" ∧ z.cls ≠ "java/lang/invoke/VarHandle" ∧ (parseMethodDescriptor z.desc).map (fun d => d.parameters.length) = some y' := ⟨k2, k3, by rw [kp]; exact congrArg some hjp⟩
                  rcases hlk with ⟨_, hlk⟩ | ⟨_, hlk⟩
                  · exact hz_back (va_runSN ⟨hx, hb, hml, hown, hts⟩ hmet ⟨va_cnB y' hts hgood rfl rfl rfl (hN.1.1 _ hlk) (hts _ k4) hdd hR, hts _ k5, trivial⟩ hpre rfl hlenAs hL.1 rfl (lv_room hsum2) hd hroom) hW hA (hkk rv1 M1 h)
                  · exact hz_back (va_runS ⟨hx, hb, hml, hown, hts⟩ hmet ⟨callB_of y' hts hgood rfl rfl rfl (hts _ k4) (hts _ hlk) hdd hR, hts _ k5⟩ hpre rfl hlenAs hL.1 rfl (lv_room hsum2) hd hroom) hW hA (hkk rv1 M1 h)
              · cases h
            · cases h
      · cases h
