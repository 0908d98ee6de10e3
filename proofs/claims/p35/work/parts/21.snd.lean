section HS
variable {ext : Nat → List Value → hzMem → Option (Option (Option Value × hzMem))} {SS : List ha_Y} {H : List ha_H} {W : List ha_sh} {Wr : List Nat}
set_option maxHeartbeats 4000000 in
/-- a call -/
theorem ha_inv1_ok (hSS : ∀ Y ∈ SS, ha_val ext W Y) (hn : ∀ (x : Nat) (As : List Value) (M : hzMem) (q : hzN), hzM[x]? = some q → q.2.2.2.2.2.2.2.2.1 ≠ 0 → ext x As M = none)
    {rec : List ha_A → Nat → Nat → List ha_V → List ha_V → ha_S → Nat → Option (List ha_O)} (ih : ∀ acts k pc aL st S b outs, rec acts k pc aL st S b = some outs → ha_Snd ext W Wr acts k pc aL st S b outs)
    {acts : List ha_A} {virt : Bool} {k pc : Nat} {i : Instr} {a : Int} {x y h : Nat} {aL st : List ha_V} {S : ha_S} {b : Nat} {outs : List ha_O} (hf : hz_fetch k pc = some (i, a, x, y, h)) (hk : hz_kind i = (if virt = true then 5 else 6))
    (hR : ha_inv1 rec SS W Wr acts virt k pc a x y aL st S b = some outs) : ha_Snd ext W Wr acts k pc aL st S b outs := by
  intro M0 ρ L cst M Post hok hw hL hst hfin hacts
  unfold ha_inv1 at hR
  by_cases ha : a = -3
  · rw [if_pos ha] at hR
    split at hR
    · rename_i R hacp
      obtain ⟨cst', M', e1, hw', hN, hst', hok'⟩ := ha_acp_ok hok hw hst hacp
      refine ha_RT_acp hf (by cases virt <;> simp [hk]) ha e1 ?_
      exact ih _ _ _ _ _ _ _ _ hR M0 ρ L cst' M' Post hok' hw' (by rw [hN]; exact hL) (by rw [hN]; exact hst') (by rw [hN]; exact hfin) (by rw [hN]; exact hacts)
    · cases hR
  · rw [if_neg ha] at hR
    split at hR
    · cases hR
    · rename_i q hq
      by_cases hc : y ≤ st.length ∧ (if virt = true then ha_rcv W q.2.2.2.2.1 (st.take y).reverse else decide (q.2.2.2.2.1 = 99)) = true ∧ ((st.drop y).map ha_cA).sum ≤ 8 ∧ q.2.2.2.2.2.2.2.1 ≤ b ∧ ((st.take y).map ha_cA).sum ≤ q.2.2.1 ∧ (st.take y).all ha_okA = true
      · rw [if_pos hc] at hR
        obtain ⟨c1, c2, c3, c4, c5, c6⟩ := hc
        have sT := ha_st_take y hst
        have sD := ha_st_drop y hst
        have sA := ha_st_rev sT
        have allR : (st.take y).reverse.all ha_okA = true := by
          rw [List.all_eq_true] at c6 ⊢
          exact fun z hz => c6 z (List.mem_reverse.mp hz)
        have conc : (if virt = true then hz_rcv q.2.2.2.2.1 (cst.take y).reverse M else decide (q.2.2.2.2.1 = 99)) = true ∧ y ≤ cst.length ∧ ((cst.drop y).map fun v => v.category).sum ≤ 8 ∧ q.2.2.2.2.2.2.2.1 ≤ b ∧ (hz_lay (cst.take y)).length ≤ q.2.2.1 := by
          refine ⟨?_, by rw [← ha_st_len hst]; exact c1, Nat.le_trans (ha_sum_ok sD) c3, c4, Nat.le_trans (ha_lay_ok sT c6).2 c5⟩
          cases virt with
          | true => exact ha_rcv_ok hw.1 sA c2
          | false => exact c2
        split at hR
        · rename_i Y hY
          split at hR
          · rename_i hwr
            have hYm := List.mem_of_find?_eq_some hY
            have hYp := List.find?_some hY
            rw [Bool.and_eq_true, beq_iff_eq] at hYp
            obtain ⟨n1, rv1, M1, hs, hres, hw1⟩ := hSS Y hYm (cst.take y).reverse M (ha_argsA_ok hok _ _ _ sA hYp.2) hw.1 q (by rw [hYp.1]; exact hq)
            rw [hYp.1] at hs
            refine ha_RT_call hf hk ha hq conc hs ?_
            have hwW : ∀ j : Nat, j ∈ Y.2.2.2 → j ∈ Wr := fun j hj => by
              have := List.all_eq_true.mp hwr j hj
              rwa [List.contains_eq_mem, decide_eq_true_eq] at this
            have hw' : ha_wok W Wr M0 M1 := ⟨hw1.1, hw1.2.1.trans hw.2.1, fun j hj => (hw1.2.2 j (fun z => hj (hwW j z))).trans (hw.2.2 j hj)⟩
            obtain ⟨ρ', ex, hN, hrv, hok'⟩ := ha_resA_ok (ha_dropW_ok hok (Wr := Y.2.2.2) hw1.2.2) hres
            refine ih _ _ _ _ _ _ _ _ hR M0 ρ' L _ M1 Post hok' hw' (hL.ex ex hN) ?_ (hfin.ex ex hN (fun o ho => ho)) (hacts.ex ex hN)
            refine ha_st_app (sD.ex ex hN) ?_
            generalize (ha_resA (ha_dropW S Y.2.2.2) Y.2.2.1).2 = o at hrv ⊢
            cases o with
            | none =>
              cases rv1 with
              | none => trivial
              | some _ => exact hrv.elim
            | some o =>
              cases rv1 with
              | none => exact hrv.elim
              | some v => exact ⟨hrv, trivial⟩
          · cases hR
        · split at hR
          · rename_i hh
            split at hR
            · rename_i outs1 hcal
              have hent := ha_ent_ok sA allR q.2.2.1
              obtain ⟨n1, rv1, M1, hr1, o, ho, ρ', ex, hN, hok', hw', hrv⟩ := ih _ _ _ _ _ _ _ _ hcal M0 ρ (hz_ent q.2.2.1 (cst.take y).reverse) [] M (fun rv M' => ∃ o ∈ outs1, ∃ ρ', ha_ex S.1 ρ ρ' ∧ S.1 ≤ o.2.1 ∧ ha_ok ρ' M' o.2 ∧ ha_wok W Wr M0 M' ∧ ha_rv ρ' o.2.1 o.1 rv) hok hw hent trivial
                (fun o ho ρ' rv M' e1 e2 e3 e4 e5 => ⟨o, ho, ρ', e1, e2, e3, e4, e5⟩) (fun r hr => absurd hr List.not_mem_nil)
              have hs : ha_C ext n1 x (cst.take y).reverse M q.2.2.1 q.2.2.2.2.2.2.2.1 = some (rv1, M1) := by
                unfold ha_C
                rw [hn x _ M q hq hh]
                exact hr1
              refine ha_RT_call hf hk ha hq conc hs ?_
              obtain ⟨outs2, h2, h3⟩ := ha_cat_mem hR o ho
              refine ih _ _ _ _ _ _ _ _ h2 M0 ρ' L _ M1 Post hok' hw' (hL.ex ex hN) ?_ (hfin.ex ex hN h3) (hacts.ex ex hN)
              refine ha_st_app (sD.ex ex hN) ?_
              obtain ⟨o1, o2⟩ := o
              cases o1 with
              | none =>
                cases rv1 with
                | none => trivial
                | some _ => exact hrv.elim
              | some o1 =>
                cases rv1 with
                | none => exact hrv.elim
                | some v => exact ⟨hrv, trivial⟩
            · cases hR
          · cases hR
      · rw [if_neg hc] at hR
        cases hR
set_option maxHeartbeats 8000000 in
theorem ha_sound (hSS : ∀ Y ∈ SS, ha_val ext W Y) (hn : ∀ (x : Nat) (As : List Value) (M : hzMem) (q : hzN), hzM[x]? = some q → q.2.2.2.2.2.2.2.2.1 ≠ 0 → ext x As M = none) :
    ∀ (n : Nat) (acts : List ha_A) (skip : Bool) (k pc : Nat) (aL st : List ha_V) (S : ha_S) (b : Nat) (outs : List ha_O), ha_go SS H W Wr n acts skip k pc aL st S b = some outs → ha_Snd ext W Wr acts k pc aL st S b outs := by
  intro n
  induction n with
  | zero =>
    intro acts skip k pc aL st S b outs hg
    cases hg
  | succ n ih =>
    intro acts skip k pc aL st S b outs hg M0 ρ L cst M Post hok hw hL hst hfin hacts
    rw [ha_go] at hg
    split at hg
    · -- back at a head
      rename_i r hr
      split at hg
      · rename_i hc
        obtain ⟨rfl, c2, c3, c4⟩ := hc
        have hmem : r ∈ acts ∧ r.1 = pc := by
          cases skip with
          | true => simp at hr
          | false =>
            have hr' : acts.find? (fun r => r.1 == pc) = some r := by simpa using hr
            have := List.find?_some hr'
            exact ⟨List.mem_of_find?_eq_some hr', by simpa using this⟩
        obtain ⟨h1, h2, h3⟩ := hacts r hmem.1
        have hcst : cst = [] := by
          cases cst with
          | nil => rfl
          | cons _ _ => exact hst.elim
        subst hcst
        have := h3 L M (ha_bk_ok hok h1 _ _ _ _ c3 hL) hw ?_
        · rw [hmem.2, ← c2] at this
          exact this
        · unfold ha_gtr at c4
          split at c4
          · rename_i a hs
            rw [Bool.or_eq_true] at c4
            have hcase : (∃ s, a = .inl s ∧ (s, r.2.2.2.2.2.1) ∈ S.2.2.1) ∨ (∃ p q, ha_itv S a = some p ∧ ha_itv S (.inl r.2.2.2.2.2.1) = some q ∧ q.2 < p.1) := by
              rcases c4 with c4 | c4
              · split at c4
                · rename_i s
                  rw [List.contains_eq_mem, decide_eq_true_eq] at c4
                  exact Or.inl ⟨s, rfl, c4⟩
                · cases c4
              · split at c4
                · rename_i p q hp hq
                  exact Or.inr ⟨p, q, hp, hq, of_decide_eq_true c4⟩
                · cases c4
            rcases hcase with ⟨s, rfl, c5⟩ | ⟨p, q, hp, hq, hlt⟩
            · obtain ⟨g1, g2, g3⟩ := hok.2.2.1 _ c5
              rcases hL.2 _ _ hs with e | ⟨v, e1, e2⟩
              · cases e
              · exact ⟨ρ s, by rw [e1, e2.2], g3⟩
            · rcases hL.2 _ _ hs with e | ⟨v, e1, e2⟩
              · rw [e] at hp
                cases hp
              · obtain ⟨x, rfl, hx⟩ := ha_v_i e2 (ha_itv_isI hp)
                obtain ⟨p', e3, p1, p2⟩ := ha_itv_ok hok hx
                cases hp.symm.trans e3
                obtain ⟨q', e4, q1, q2⟩ := ha_itv_ok hok (a := .inl r.2.2.2.2.2.1) (x := ρ r.2.2.2.2.2.1) ⟨h2, rfl⟩
                cases hq.symm.trans e4
                exact ⟨x, e1, by omega⟩
          · cases c4
      · cases hg
    · split at hg
      · -- a loop's entry
        rename_i h hh
        split at hg
        · rename_i R hgen
          split at hg
          · rename_i s0 q hs0 hq
            split at hg
            · rename_i hst0
              subst hst0
              have hcst : cst = [] := by
                cases cst with
                | nil => rfl
                | cons _ _ => exact hst.elim
              subst hcst
              have hm0 := ha_gen_in hok _ _ _ _ L hgen hL
              have key : ∀ (m : Nat) (L : List (Option Value)) (M : hzMem), ha_hm ρ S.1 h.2.2.1 aL L → ha_wok W Wr M0 M → (∀ x : Int32, L[h.2.2.2]? = some (some (.int x)) → (q.2 - x.toInt).toNat < m) → ha_RT ext k pc L [] M b Post := by
                intro m
                induction m with
                | zero =>
                  intro L M hm hw hx
                  obtain ⟨x, e1, _, _⟩ := ha_hm_get hm _ _ hq
                  exact absurd (hx x e1) (Nat.not_lt_zero _)
                | succ m ihm =>
                  intro L M hm hw hx
                  obtain ⟨ρ1, ex1, hN1, hok1, hL1⟩ := ha_gen_ok (N0 := S.1) _ _ _ _ L ρ M hgen (ha_clr_ok hok) (Nat.le_refl _) hm
                  have ex1 : ha_ex S.1 ρ ρ1 := ex1
                  have hN1 : S.1 ≤ R.1.1 := hN1
                  refine ih _ _ _ _ _ _ _ _ _ hg M0 ρ1 L [] M Post hok1 hw hL1 trivial (hfin.ex ex1 hN1 (fun o ho => ho)) ?_
                  intro r hr
                  rcases List.mem_cons.mp hr with rfl | hr
                  · rcases hL1.2 _ _ hs0 with e | ⟨v, e1, e2⟩
                    · cases e
                    · refine ⟨hN1, e2.1, fun L2 M2 hm2 hw2 hx2 => ?_⟩
                      refine ihm L2 M2 (ha_hm_eq ex1.sy hm2) hw2 (fun x ex => ?_)
                      obtain ⟨x2, f1, f2⟩ := hx2
                      have f1 : L2[h.2.2.2]? = some (some (.int x2)) := f1
                      have f2 : (ρ1 s0).toInt < x2.toInt := f2
                      have exx : x = x2 := by
                        have := ex.symm.trans f1
                        simpa using this
                      subst exx
                      have g1 := hx (ρ1 s0) (by rw [e1, e2.2])
                      obtain ⟨x3, f3, _, f4⟩ := ha_hm_get hm2 _ _ hq
                      have exx : x = x3 := by
                        have := ex.symm.trans f3
                        simpa using this
                      subst exx
                      omega
                  · exact hacts.ex ex1 hN1 r hr
              obtain ⟨x, e1, _, _⟩ := ha_hm_get hm0 _ _ hq
              exact key _ L M hm0 hw (fun x' e2 => by
                have : x' = x := by
                  have := e2.symm.trans e1
                  simpa using this
                subst this
                exact Nat.lt_succ_self _)
            · cases hg
          · cases hg
        · cases hg
      · split at hg
        · cases hg
        · rename_i i a x y hx' hf
          split at hg
          · rename_i hk
            split at hg
            · rename_i R hs
              obtain ⟨cst', ρ', e, ex, hN, hst', hok'⟩ := ha_stk_ok hok hst hs
              exact ha_RT_stk hf hk e (ih _ _ _ _ _ _ _ _ _ hg M0 ρ' L cst' M Post hok' hw (hL.ex ex hN) hst' (hfin.ex ex hN (fun o ho => ho)) (hacts.ex ex hN))
            · cases hg
          · rename_i hk
            split at hg
            · rename_i R hs
              obtain ⟨L', cst', ρ', e, ex, hN, hL', hst', hok'⟩ := ha_loc_ok hok hL hst hs
              exact ha_RT_loc hf hk e (ih _ _ _ _ _ _ _ _ _ hg M0 ρ' L' cst' M Post hok' hw hL' hst' (hfin.ex ex hN (fun o ho => ho)) (hacts.ex ex hN))
            · cases hg
          · rename_i hk
            split at hg
            · rename_i Rs hs
              obtain ⟨t, S', r', cst', hm, e, hN, hst', hok'⟩ := ha_br_ok hok hst hs
              obtain ⟨o2, h2, h3⟩ := ha_cat_mem hg _ hm
              exact ha_RT_br hf hk e (ih _ _ _ _ _ _ _ _ _ h2 M0 ρ L cst' M Post hok' hw (by show ha_L ρ S'.1 aL L; rw [hN]; exact hL) (by show ha_st ρ S'.1 r' cst'; rw [hN]; exact hst') (hfin.ex ha_ex.rf (Nat.le_of_eq hN.symm) h3) (hacts.ex ha_ex.rf (Nat.le_of_eq hN.symm)))
            · cases hg
          · rename_i hk
            split at hg
            · rename_i Rs hs
              obtain ⟨R, hm, cst', M', ρ', e, hw', ex, hN, hst', hok'⟩ := ha_mem_ok hok hw hst hs
              obtain ⟨o2, h2, h3⟩ := ha_cat_mem hg _ hm
              exact ha_RT_mem hf hk e (ih _ _ _ _ _ _ _ _ _ h2 M0 ρ' L cst' M' Post hok' hw' (hL.ex ex hN) hst' (hfin.ex ex hN h3) (hacts.ex ex hN))
            · cases hg
          · rename_i hk
            split at hg
            · rename_i q hq
              obtain ⟨v, h1, h2⟩ := Option.map_eq_some_iff.mp hg
              subst h2
              obtain ⟨rv, e, hrv⟩ := ha_ret_ok hok hst h1
              exact ha_RT_ret hf hk hq e (hfin _ (List.mem_singleton.mpr rfl) ρ rv M ha_ex.rf (Nat.le_refl _) hok hw hrv)
            · cases hg
          · rename_i hk
            exact ha_inv1_ok hSS hn (fun acts k pc aL st S b outs h => ih acts false k pc aL st S b outs h) (virt := true) hf hk hg M0 ρ L cst M Post hok hw hL hst hfin hacts
          · rename_i hk
            exact ha_inv1_ok hSS hn (fun acts k pc aL st S b outs h => ih acts false k pc aL st S b outs h) (virt := false) hf hk hg M0 ρ L cst M Post hok hw hL hst hfin hacts
          · cases hg
end HS
