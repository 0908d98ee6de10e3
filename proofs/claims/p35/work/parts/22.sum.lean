/-! FROM A CHECK TO WHAT IS TOLD OF A METHOD -/
def ha_arg0 : List ((Int × Int) ⊕ (Nat ⊕ Unit)) → ha_S → ha_S × List ha_V
  | [], S => (S, [])
  | .inl q :: sp, S => ((ha_arg0 sp (ha_new S q)).1, .inl S.1 :: (ha_arg0 sp (ha_new S q)).2)
  | .inr (.inl k) :: sp, S => ((ha_arg0 sp S).1, ha_rf k :: (ha_arg0 sp S).2)
  | .inr (.inr _) :: sp, S => ((ha_arg0 sp S).1, ha_ll1 :: (ha_arg0 sp S).2)
theorem ha_arg0_ok : ∀ (sp : List ((Int × Int) ⊕ (Nat ⊕ Unit))) (S : ha_S) (As : List Value) (ρ : Nat → Int32) (M : hzMem), ha_ok ρ M S → ha_argsC sp As → ∃ ρ', ha_ex S.1 ρ ρ' ∧ S.1 ≤ (ha_arg0 sp S).1.1 ∧ ha_ok ρ' M (ha_arg0 sp S).1 ∧ ha_st ρ' (ha_arg0 sp S).1.1 (ha_arg0 sp S).2 As ∧ (ha_arg0 sp S).2.all ha_okA = true
  | [], S, [], ρ, M, h, _ => ⟨ρ, ha_ex.rf, Nat.le_refl _, h, trivial, rfl⟩
  | [], _, _ :: _, _, _, _, ha => ha.elim
  | s :: _, _, [], _, _, _, ha => ha.elim
  | .inl q :: sp, S, v :: vs, ρ, M, h, ha => by
    obtain ⟨x, rfl, x1, x2⟩ := ha.1
    obtain ⟨ρ1, e1, hx, ho⟩ := ha_new_ok h q x x1 x2
    obtain ⟨ρ', e2, hN, ho2, hs, hk⟩ := ha_arg0_ok sp (ha_new S q) vs ρ1 M ho ha.2
    refine ⟨ρ', e1.tr e2 (Nat.le_succ _), Nat.le_trans (Nat.le_succ _) hN, ho2, ⟨⟨Nat.lt_of_lt_of_le (Nat.lt_succ_self _) hN, ?_⟩, hs⟩, ?_⟩
    · rw [e2 _ (Nat.lt_succ_self _), hx]
    · show (_ && _) = true
      rw [hk]
      rfl
  | .inr (.inl k) :: sp, S, v :: vs, ρ, M, h, ha => by
    obtain ⟨ρ', e2, hN, ho2, hs, hk⟩ := ha_arg0_ok sp S vs ρ M h ha.2
    exact ⟨ρ', e2, hN, ho2, ⟨ha.1, hs⟩, by show (_ && _) = true; rw [hk]; rfl⟩
  | .inr (.inr u) :: sp, S, v :: vs, ρ, M, h, ha => by
    obtain ⟨ρ', e2, hN, ho2, hs, hk⟩ := ha_arg0_ok sp S vs ρ M h ha.2
    exact ⟨ρ', e2, hN, ho2, ⟨ha.1, hs⟩, by show (_ && _) = true; rw [hk]; rfl⟩
def ha_resO (r : Option ((Int × Int) ⊕ Unit)) (o : ha_O) : Bool := match r, o.1 with
  | none, none => true
  | some (.inl q), some a => (match ha_itv o.2 a with
    | some p => decide (q.1 ≤ p.1) && decide (p.2 ≤ q.2)
    | none => false)
  | some (.inr _), some a => ha_isL a
  | _, _ => false
theorem ha_resO_ok {ρ : Nat → Int32} {M : hzMem} {r : Option ((Int × Int) ⊕ Unit)} {o : ha_O} {rv : Option Value} (h : ha_ok ρ M o.2) (hr : ha_rv ρ o.2.1 o.1 rv) (hc : ha_resO r o = true) : ha_resC r rv := by
  obtain ⟨a, S⟩ := o
  dsimp only at h hr
  unfold ha_resO at hc
  dsimp only at hc
  split at hc
  · cases rv with
    | none => trivial
    | some _ => exact hr.elim
  · cases rv with
    | none => exact hr.elim
    | some v =>
      split at hc
      · rename_i p hp
        obtain ⟨x, rfl, hx⟩ := ha_v_i (show ha_v _ _ _ _ from hr) (ha_itv_isI hp)
        obtain ⟨p', e1, p1, p2⟩ := ha_itv_ok h hx
        cases hp.symm.trans e1
        rw [Bool.and_eq_true, decide_eq_true_eq, decide_eq_true_eq] at hc
        exact ⟨x, rfl, by omega, by omega⟩
      · cases hc
  · cases rv with
    | none => exact hr.elim
    | some v => exact ha_v_l (show ha_v _ _ _ _ from hr) hc
  · cases hc
def ha_S0 : ha_S := (0, [], [], [], [])
theorem ha_S0_ok (ρ : Nat → Int32) (M : hzMem) : ha_ok ρ M ha_S0 := ⟨rfl, fun s hs => absurd hs (Nat.not_lt_zero _), fun _ h => absurd h List.not_mem_nil, fun _ h => absurd h List.not_mem_nil, fun _ h => absurd h List.not_mem_nil⟩
def ha_chk (SS : List ha_Y) (H : List ha_H) (W : List ha_sh) (n : Nat) (Y : ha_Y) : Bool := match hzM[Y.1]? with
  | some q => decide (q.2.2.2.2.2.2.2.2.1 ≠ 0) && (match ha_go SS H W Y.2.2.2 n [] false Y.1 0 (ha_ent q.2.2.1 (ha_arg0 Y.2.1 ha_S0).2) [] (ha_arg0 Y.2.1 ha_S0).1 q.2.2.2.2.2.2.2.1 with
    | some outs => outs.all (fun o => ha_resO Y.2.2.1 o)
    | none => false)
  | none => false
theorem ha_chk_ok {ext : Nat → List Value → hzMem → Option (Option (Option Value × hzMem))} {SS : List ha_Y} {H : List ha_H} {W : List ha_sh} (hSS : ∀ Y ∈ SS, ha_val ext W Y) (hn : ∀ (x : Nat) (As : List Value) (M : hzMem) (q : hzN), hzM[x]? = some q → q.2.2.2.2.2.2.2.2.1 ≠ 0 → ext x As M = none)
    {n : Nat} {Y : ha_Y} (h : ha_chk SS H W n Y = true) : ha_val ext W Y := by
  intro As M hA hi q hq
  unfold ha_chk at h
  rw [hq] at h
  dsimp only at h
  rw [Bool.and_eq_true, decide_eq_true_eq] at h
  obtain ⟨h0, h⟩ := h
  split at h
  · rename_i outs hg
    obtain ⟨ρ', _, _, ho, hs, hk⟩ := ha_arg0_ok Y.2.1 ha_S0 As (fun _ => 0) M (ha_S0_ok _ M) hA
    obtain ⟨m, rv, M', hr, hp⟩ := ha_sound hSS hn n _ _ _ _ _ _ _ _ outs hg M ρ' (hz_ent q.2.2.1 As) [] M (fun rv M' => ha_resC Y.2.2.1 rv ∧ ha_wok W Y.2.2.2 M M') ho ⟨hi, rfl, fun _ _ => rfl⟩ (ha_ent_ok hs hk _) trivial
      (fun o hm ρ2 rv M' _ _ ho2 hw hrv => ⟨ha_resO_ok ho2 hrv (List.all_eq_true.mp h o hm), hw⟩) (fun r hr => absurd hr List.not_mem_nil)
    refine ⟨m, rv, M', ?_, hp⟩
    unfold ha_C
    rw [hn _ _ M q hq h0]
    exact hr
  · cases h
