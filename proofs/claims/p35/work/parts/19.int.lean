/-! THE INTERPRETER OF WHAT IS KNOWN -/
/-- what is told of a method: its arguments (an int between, a cell, a long), its answer (none: nothing; an int between; a long), the cells that it may write -/
abbrev ha_Y : Type := Nat × List ((Int × Int) ⊕ (Nat ⊕ Unit)) × Option ((Int × Int) ⊕ Unit) × List Nat
/-- a loop's head: method, place; of each local its bounds, or that it stays; which local counts up -/
abbrev ha_H : Type := Nat × Nat × List (Option (Int × Int)) × Nat
/-- a loop that is gone through: place, symbols at its entry, the locals at its entry, bounds, the counting local, its symbol, the budget -/
abbrev ha_A : Type := Nat × Nat × List ha_V × List (Option (Int × Int)) × Nat × Nat × Nat
abbrev ha_ll1 : ha_V := .inr (.inr (.inr true))
def ha_argC (sp : (Int × Int) ⊕ (Nat ⊕ Unit)) (v : Value) : Prop := match sp with
  | .inl q => ∃ x : Int32, v = .int x ∧ q.1 ≤ x.toInt ∧ x.toInt ≤ q.2
  | .inr (.inl k) => v = .ref k
  | .inr (.inr _) => ∃ x : Int64, v = .long x
def ha_argsC : List ((Int × Int) ⊕ (Nat ⊕ Unit)) → List Value → Prop
  | [], [] => True
  | s :: ss, v :: vs => ha_argC s v ∧ ha_argsC ss vs
  | _, _ => False
def ha_argA (S : ha_S) (sp : (Int × Int) ⊕ (Nat ⊕ Unit)) (a : ha_V) : Bool := match sp with
  | .inl q => (match ha_itv S a with
    | some p => decide (q.1 ≤ p.1) && decide (p.2 ≤ q.2)
    | none => false)
  | .inr (.inl k) => decide (a = ha_rf k)
  | .inr (.inr _) => ha_isL a
def ha_argsA (S : ha_S) : List ((Int × Int) ⊕ (Nat ⊕ Unit)) → List ha_V → Bool
  | [], [] => true
  | s :: ss, a :: as => ha_argA S s a && ha_argsA S ss as
  | _, _ => false
theorem ha_argA_ok {ρ : Nat → Int32} {M : hzMem} {S : ha_S} (h : ha_ok ρ M S) {sp : (Int × Int) ⊕ (Nat ⊕ Unit)} {a : ha_V} {v : Value} (hv : ha_v ρ S.1 a v) (hc : ha_argA S sp a = true) : ha_argC sp v := by
  unfold ha_argA at hc
  split at hc
  · split at hc
    · rename_i q p hp
      obtain ⟨x, rfl, hx⟩ := ha_v_i hv (ha_itv_isI hp)
      obtain ⟨p', e1, p1, p2⟩ := ha_itv_ok h hx
      cases hp.symm.trans e1
      rw [Bool.and_eq_true, decide_eq_true_eq, decide_eq_true_eq] at hc
      exact ⟨x, rfl, by omega, by omega⟩
    · cases hc
  · rw [decide_eq_true_eq] at hc
    subst hc
    exact hv
  · exact ha_v_l hv hc
theorem ha_argsA_ok {ρ : Nat → Int32} {M : hzMem} {S : ha_S} (h : ha_ok ρ M S) : ∀ (sps : List ((Int × Int) ⊕ (Nat ⊕ Unit))) (as : List ha_V) (vs : List Value), ha_st ρ S.1 as vs → ha_argsA S sps as = true → ha_argsC sps vs
  | [], [], [], _, _ => trivial
  | s :: ss, a :: as, v :: vs, hst, hc => by
    rw [ha_argsA, Bool.and_eq_true] at hc
    exact ⟨ha_argA_ok h hst.1 hc.1, ha_argsA_ok h ss as vs hst.2 hc.2⟩
  | [], [], _ :: _, hst, _ => hst.elim
  | [], _ :: _, _, _, hc => by cases hc
  | _ :: _, [], _, _, hc => by cases hc
  | _ :: _, _ :: _, [], hst, _ => hst.elim
def ha_resC (r : Option ((Int × Int) ⊕ Unit)) (rv : Option Value) : Prop := match r, rv with
  | none, none => True
  | some (.inl q), some v => ∃ x : Int32, v = .int x ∧ q.1 ≤ x.toInt ∧ x.toInt ≤ q.2
  | some (.inr _), some v => ∃ x : Int64, v = .long x
  | _, _ => False
/-- what is told of a method holds -/
def ha_val (ext : Nat → List Value → hzMem → Option (Option (Option Value × hzMem))) (W : List ha_sh) (Y : ha_Y) : Prop := ∀ (As : List Value) (M : hzMem), ha_argsC Y.2.1 As → ha_inv W M → ∀ q : hzN, hzM[Y.1]? = some q → ∃ n rv M', ha_C ext n Y.1 As M q.2.2.1 q.2.2.2.2.2.2.2.1 = some (rv, M') ∧ ha_resC Y.2.2.1 rv ∧ ha_wok W Y.2.2.2 M M'
def ha_clr (S : ha_S) : ha_S := (S.1, S.2.1, S.2.2.1, S.2.2.2.1, [])
theorem ha_clr_ok {ρ : Nat → Int32} {M M' : hzMem} {S : ha_S} (h : ha_ok ρ M S) : ha_ok ρ M' (ha_clr S) := ⟨h.1, h.2.1, h.2.2.1, h.2.2.2.1, fun _ hz => absurd hz List.not_mem_nil⟩
/-- what stays known when the cells Wr may have been written -/
def ha_dropW (S : ha_S) (Wr : List Nat) : ha_S := (S.1, S.2.1, S.2.2.1, S.2.2.2.1, S.2.2.2.2.filter (fun q => !Wr.contains q.1))
theorem ha_dropW_ok {ρ : Nat → Int32} {M M' : hzMem} {S : ha_S} (h : ha_ok ρ M S) {Wr : List Nat} (hm : ∀ j : Nat, j ∉ Wr → M'[j]? = M[j]?) : ha_ok ρ M' (ha_dropW S Wr) := by
  obtain ⟨hl, hE, hG, hF, hC⟩ := h
  refine ⟨hl, hE, hG, hF, fun z hz => ?_⟩
  obtain ⟨h1, h2⟩ := List.mem_filter.mp hz
  have hc := hC z h1
  rw [Bool.not_eq_true', List.contains_eq_mem, decide_eq_false_iff_not] at h2
  show ha_c ρ S.1 M' z
  unfold ha_c at hc ⊢
  rw [hm _ h2]
  exact hc
/-- a loop's entry: the locals within their bounds, new symbols for them -/
def ha_gen (S0 : ha_S) : ha_S → List (Option (Int × Int)) → List ha_V → Option (ha_S × List ha_V)
  | S, [], [] => some (S, [])
  | S, none :: sp, a :: as => (ha_gen S0 S sp as).map (fun R => (R.1, a :: R.2))
  | S, some q :: sp, a :: as => (match ha_itv S0 a with
    | some p => if q.1 ≤ p.1 ∧ p.2 ≤ q.2 then (ha_gen S0 (ha_new S q) sp as).map (fun R => (R.1, .inl S.1 :: R.2)) else none
    | none => none)
  | _, _, _ => none
def ha_wfa (N : Nat) (a : ha_V) : Bool := match a with
  | .inl s => decide (s < N)
  | _ => true
/-- back at a loop's head -/
def ha_bk (N0 : Nat) (S : ha_S) : List (Option (Int × Int)) → List ha_V → List ha_V → Bool
  | [], [], [] => true
  | none :: sp, a :: hs, c :: cs => (decide (a = ha_dd) || (decide (a = c) && ha_wfa N0 a)) && ha_bk N0 S sp hs cs
  | some q :: sp, _ :: hs, c :: cs => (match ha_itv S c with
    | some p => decide (q.1 ≤ p.1) && decide (p.2 ≤ q.2)
    | none => false) && ha_bk N0 S sp hs cs
  | _, _, _ => false
def ha_hm (ρ : Nat → Int32) (N0 : Nat) : List (Option (Int × Int)) → List ha_V → List (Option Value) → Prop
  | [], [], [] => True
  | none :: sp, a :: as, l :: L => (a = ha_dd ∨ ∃ v, l = some v ∧ ha_v ρ N0 a v) ∧ ha_hm ρ N0 sp as L
  | some q :: sp, _ :: as, l :: L => (∃ x : Int32, l = some (.int x) ∧ q.1 ≤ x.toInt ∧ x.toInt ≤ q.2) ∧ ha_hm ρ N0 sp as L
  | _, _, _ => False
theorem ha_hm_eq {ρ ρ' : Nat → Int32} {N0 : Nat} (e : ha_ex N0 ρ ρ') : ∀ {sp : List (Option (Int × Int))} {as : List ha_V} {L : List (Option Value)}, ha_hm ρ N0 sp as L → ha_hm ρ' N0 sp as L
  | [], [], [], _ => trivial
  | none :: _, _ :: _, _ :: _, h => ⟨by
    rcases h.1 with q | ⟨v, h1, h2⟩
    · exact Or.inl q
    · exact Or.inr ⟨v, h1, h2.ex e (Nat.le_refl _)⟩, ha_hm_eq e h.2⟩
  | some _ :: _, _ :: _, _ :: _, h => ⟨h.1, ha_hm_eq e h.2⟩
  | [], [], _ :: _, h => h.elim
  | [], _ :: _, _, h => by cases h
  | none :: _, [], _, h => by cases h
  | some _ :: _, [], _, h => by cases h
  | none :: _, _ :: _, [], h => by cases h
  | some _ :: _, _ :: _, [], h => by cases h
theorem ha_ex.sy {N : Nat} {ρ ρ' : Nat → Int32} (h : ha_ex N ρ ρ') : ha_ex N ρ' ρ := fun s hs => (h s hs).symm
theorem ha_L_hd {ρ : Nat → Int32} {N : Nat} {a : ha_V} {as : List ha_V} {L : List (Option Value)} (h : ha_L ρ N (a :: as) L) : ∃ l L', L = l :: L' ∧ (a = ha_dd ∨ ∃ v, l = some v ∧ ha_v ρ N a v) ∧ ha_L ρ N as L' := by
  cases L with
  | nil => cases h.1
  | cons l L' =>
    refine ⟨l, L', rfl, ?_, by have := h.1; simpa using this, fun j b hj => ?_⟩
    · rcases h.2 0 a rfl with q | ⟨v, h1, h2⟩
      · exact Or.inl q
      · exact Or.inr ⟨v, by simpa using h1, h2⟩
    · exact h.2 (j + 1) b hj
theorem ha_L_nil {ρ : Nat → Int32} {N : Nat} {L : List (Option Value)} (h : ha_L ρ N [] L) : L = [] := by
  cases L with
  | nil => rfl
  | cons l L' => cases h.1
theorem ha_L_cons {ρ : Nat → Int32} {N : Nat} {a : ha_V} {as : List ha_V} {l : Option Value} {L : List (Option Value)} (h1 : a = ha_dd ∨ ∃ v, l = some v ∧ ha_v ρ N a v) (h : ha_L ρ N as L) : ha_L ρ N (a :: as) (l :: L) := by
  refine ⟨by simp [h.1], fun j b hj => ?_⟩
  cases j with
  | zero =>
    cases hj
    rcases h1 with q | ⟨v, h1, h2⟩
    · exact Or.inl q
    · exact Or.inr ⟨v, by rw [h1]; rfl, h2⟩
  | succ j => exact h.2 j b hj
/-- at a loop's entry its head holds -/
theorem ha_gen_in {ρ : Nat → Int32} {M : hzMem} {S0 : ha_S} (h : ha_ok ρ M S0) : ∀ (sp : List (Option (Int × Int))) (as : List ha_V) (S : ha_S) (R : ha_S × List ha_V) (L : List (Option Value)), ha_gen S0 S sp as = some R → ha_L ρ S0.1 as L → ha_hm ρ S0.1 sp as L
  | [], [], S, R, L, hg, hL => by rw [ha_L_nil hL]; trivial
  | none :: sp, a :: as, S, R, L, hg, hL => by
    obtain ⟨l, L', rfl, h1, h2⟩ := ha_L_hd hL
    rw [ha_gen] at hg
    obtain ⟨R', g1, g2⟩ := Option.map_eq_some_iff.mp hg
    exact ⟨h1, ha_gen_in h sp as S R' L' g1 h2⟩
  | some q :: sp, a :: as, S, R, L, hg, hL => by
    obtain ⟨l, L', rfl, h1, h2⟩ := ha_L_hd hL
    rw [ha_gen] at hg
    split at hg
    · rename_i p hp
      split at hg
      · rename_i hc
        obtain ⟨R', g1, g2⟩ := Option.map_eq_some_iff.mp hg
        refine ⟨?_, ha_gen_in h sp as _ R' L' g1 h2⟩
        rcases h1 with e | ⟨v, e1, e2⟩
        · rw [e] at hp
          cases hp
        · obtain ⟨x, rfl, hx⟩ := ha_v_i e2 (ha_itv_isI hp)
          obtain ⟨p', e3, p1, p2⟩ := ha_itv_ok h hx
          cases hp.symm.trans e3
          exact ⟨x, e1, by omega, by omega⟩
      · cases hg
    · cases hg
  | [], _ :: _, S, R, L, hg, _ => by cases hg
  | none :: _, [], S, R, L, hg, _ => by cases hg
  | some _ :: _, [], S, R, L, hg, _ => by cases hg
/-- where a loop's head holds its body's symbols have values -/
theorem ha_gen_ok {S0 : ha_S} {N0 : Nat} : ∀ (sp : List (Option (Int × Int))) (as : List ha_V) (S : ha_S) (R : ha_S × List ha_V) (L : List (Option Value)) (ρ : Nat → Int32) (M : hzMem), ha_gen S0 S sp as = some R → ha_ok ρ M S → N0 ≤ S.1 → ha_hm ρ N0 sp as L → ∃ ρ', ha_ex S.1 ρ ρ' ∧ S.1 ≤ R.1.1 ∧ ha_ok ρ' M R.1 ∧ ha_L ρ' R.1.1 R.2 L
  | [], [], S, R, L, ρ, M, hg, h, hN, hm => by
    cases L with
    | nil =>
      cases hg
      exact ⟨ρ, ha_ex.rf, Nat.le_refl _, h, rfl, fun j a hj => by simp at hj⟩
    | cons _ _ => exact hm.elim
  | none :: sp, a :: as, S, R, L, ρ, M, hg, h, hN, hm => by
    cases L with
    | nil => exact hm.elim
    | cons l L =>
      rw [ha_gen] at hg
      obtain ⟨R', g1, g2⟩ := Option.map_eq_some_iff.mp hg
      subst g2
      obtain ⟨ρ', ex, hN', ho, hL⟩ := ha_gen_ok sp as S R' L ρ M g1 h hN hm.2
      refine ⟨ρ', ex, hN', ho, ha_L_cons ?_ hL⟩
      rcases hm.1 with q | ⟨v, h1, h2⟩
      · exact Or.inl q
      · exact Or.inr ⟨v, h1, h2.ex (fun s hs => ex s (Nat.lt_of_lt_of_le hs hN)) (Nat.le_trans hN hN')⟩
  | some q :: sp, a :: as, S, R, L, ρ, M, hg, h, hN, hm => by
    cases L with
    | nil => exact hm.elim
    | cons l L =>
      rw [ha_gen] at hg
      split at hg
      · split at hg
        · obtain ⟨R', g1, g2⟩ := Option.map_eq_some_iff.mp hg
          subst g2
          obtain ⟨⟨x, hl, x1, x2⟩, hm2⟩ := hm
          obtain ⟨ρ1, ex1, hx1, ho1⟩ := ha_new_ok h q x x1 x2
          obtain ⟨ρ', ex, hN', ho, hL⟩ := ha_gen_ok (N0 := N0) sp as (ha_new S q) R' L ρ1 M g1 ho1 (Nat.le_succ_of_le hN) (ha_hm_eq (fun s hs => ex1 s (Nat.lt_of_lt_of_le hs hN)) hm2)
          refine ⟨ρ', ex1.tr ex (Nat.le_succ _), Nat.le_trans (Nat.le_succ _) hN', ho, ha_L_cons (Or.inr ⟨.int x, hl, Nat.lt_of_lt_of_le (Nat.lt_succ_self _) hN', ?_⟩) hL⟩
          rw [ex S.1 (Nat.lt_succ_self _), hx1]
        · cases hg
      · cases hg
  | [], _ :: _, S, R, L, ρ, M, hg, _, _, _ => by cases hg
  | none :: _, [], S, R, L, ρ, M, hg, _, _, _ => by cases hg
  | some _ :: _, [], S, R, L, ρ, M, hg, _, _, _ => by cases hg
theorem ha_bk_ok {ρ : Nat → Int32} {M : hzMem} {S : ha_S} (h : ha_ok ρ M S) {N0 : Nat} (hN : N0 ≤ S.1) : ∀ (sp : List (Option (Int × Int))) (hs cs : List ha_V) (L : List (Option Value)), ha_bk N0 S sp hs cs = true → ha_L ρ S.1 cs L → ha_hm ρ N0 sp hs L
  | [], [], [], L, _, hL => by rw [ha_L_nil hL]; trivial
  | none :: sp, a :: hs, c :: cs, L, hb, hL => by
    obtain ⟨l, L', rfl, h1, h2⟩ := ha_L_hd hL
    rw [ha_bk, Bool.and_eq_true, Bool.or_eq_true, Bool.and_eq_true, decide_eq_true_eq, decide_eq_true_eq] at hb
    refine ⟨?_, ha_bk_ok h hN sp hs cs L' hb.2 h2⟩
    rcases hb.1 with q | ⟨q1, q2⟩
    · exact Or.inl q
    · subst q1
      rcases h1 with e | ⟨v, e1, e2⟩
      · exact Or.inl e
      · refine Or.inr ⟨v, e1, ?_⟩
        unfold ha_v at e2 ⊢
        unfold ha_wfa at q2
        split at e2
        · exact ⟨of_decide_eq_true q2, e2.2⟩
        · exact e2
        · exact e2
        · exact e2
        · trivial
  | some q :: sp, a :: hs, c :: cs, L, hb, hL => by
    obtain ⟨l, L', rfl, h1, h2⟩ := ha_L_hd hL
    rw [ha_bk, Bool.and_eq_true] at hb
    refine ⟨?_, ha_bk_ok h hN sp hs cs L' hb.2 h2⟩
    have hb1 := hb.1
    split at hb1
    · rename_i p hp
      rw [Bool.and_eq_true, decide_eq_true_eq, decide_eq_true_eq] at hb1
      rcases h1 with e | ⟨v, e1, e2⟩
      · rw [e] at hp
        cases hp
      · obtain ⟨x, rfl, hx⟩ := ha_v_i e2 (ha_itv_isI hp)
        obtain ⟨p', e3, p1, p2⟩ := ha_itv_ok h hx
        cases hp.symm.trans e3
        exact ⟨x, e1, by omega, by omega⟩
    · cases hb1
  | [], [], _ :: _, L, hb, _ => by cases hb
  | [], _ :: _, _, L, hb, _ => by cases hb
  | none :: _, [], _, L, hb, _ => by cases hb
  | some _ :: _, [], _, L, hb, _ => by cases hb
  | none :: _, _ :: _, [], L, hb, _ => by cases hb
  | some _ :: _, _ :: _, [], L, hb, _ => by cases hb
def ha_cat {α β : Type} (f : α → Option (List β)) : List α → Option (List β)
  | [] => some []
  | a :: as => match f a, ha_cat f as with
    | some x, some y => some (x ++ y)
    | _, _ => none
theorem ha_cat_mem {α β : Type} {f : α → Option (List β)} : ∀ {as : List α} {bs : List β}, ha_cat f as = some bs → ∀ a ∈ as, ∃ x, f a = some x ∧ ∀ b ∈ x, b ∈ bs
  | [], _, _, a, h => absurd h List.not_mem_nil
  | a :: as, bs, hc, b, hb => by
    rw [ha_cat] at hc
    split at hc
    · rename_i x y h1 h2
      cases hc
      rcases List.mem_cons.mp hb with rfl | hb
      · exact ⟨x, h1, fun z hz => List.mem_append_left _ hz⟩
      · obtain ⟨x', g1, g2⟩ := ha_cat_mem h2 b hb
        exact ⟨x', g1, fun z hz => List.mem_append_right _ (g2 z hz)⟩
    · cases hc
def ha_ret (i : Instr) (ret : Option FieldType) (S : ha_S) (st : List ha_V) : Option (Option ha_V) := match i, st with
  | .ireturn, [v] => (match ha_itv S v, ret with
    | some _, some .int => some (some v)
    | some p, some .boolean => if 0 ≤ p.1 ∧ p.2 ≤ 1 then some (some v) else none
    | _, _ => none)
  | .lreturn, [v] => if ha_isL v = true ∧ ret = some .long then some (some v) else none
  | .return_, [] => if ret = none then some none else none
  | _, _ => none
def ha_rv (ρ : Nat → Int32) (N : Nat) (a : Option ha_V) (rv : Option Value) : Prop := match a, rv with
  | none, none => True
  | some a, some v => ha_v ρ N a v
  | _, _ => False
theorem ha_ret_ok {ρ : Nat → Int32} {M : hzMem} {S : ha_S} (h : ha_ok ρ M S) {i : Instr} {ret : Option FieldType} {st : List ha_V} {cst : List Value} (hst : ha_st ρ S.1 st cst) {o : Option ha_V} (hR : ha_ret i ret S st = some o) : ∃ rv, hz_ret i ret cst = some rv ∧ ha_rv ρ S.1 o rv := by
  unfold ha_ret at hR
  split at hR
  · rename_i v
    obtain ⟨w, ws, rfl, hv, hvs⟩ := ha_st_cons hst
    have : ws = [] := by
      cases ws with
      | nil => rfl
      | cons _ _ => exact hvs.elim
    subst this
    split at hR
    · rename_i p hp
      cases hR
      obtain ⟨x, rfl, hx⟩ := ha_v_i hv (ha_itv_isI hp)
      exact ⟨_, rfl, hv⟩
    · rename_i p hp
      split at hR
      · rename_i hc
        cases hR
        obtain ⟨x, rfl, hx⟩ := ha_v_i hv (ha_itv_isI hp)
        obtain ⟨p', e3, p1, p2⟩ := ha_itv_ok h hx
        cases hp.symm.trans e3
        have h01 : x = 0 ∨ x = 1 := by
          by_cases q : x.toInt = 0
          · exact Or.inl (Int32.toInt.inj (by rw [q]; rfl))
          · exact Or.inr (Int32.toInt.inj (by rw [show x.toInt = 1 by omega]; rfl))
        exact ⟨some (.int x), if_pos h01, hv⟩
      · cases hR
    · cases hR
  · rename_i v
    split at hR
    · rename_i hc
      cases hR
      obtain ⟨w, ws, rfl, hv, hvs⟩ := ha_st_cons hst
      have : ws = [] := by
        cases ws with
        | nil => rfl
        | cons _ _ => exact hvs.elim
      subst this
      obtain ⟨x, rfl⟩ := ha_v_l hv hc.1
      rw [hc.2]
      exact ⟨_, rfl, hv⟩
    · cases hR
  · split at hR
    · rename_i hc
      cases hR
      cases cst with
      | nil => rw [hc]; exact ⟨none, rfl, trivial⟩
      | cons _ _ => exact hst.elim
    · cases hR
  · cases hR
