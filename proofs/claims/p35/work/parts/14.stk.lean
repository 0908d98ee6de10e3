/-! THE STACK's INSTRUCTIONS on what is known -/
def ha_st (ρ : Nat → Int32) (N : Nat) : List ha_V → List Value → Prop
  | [], [] => True
  | a :: as, v :: vs => ha_v ρ N a v ∧ ha_st ρ N as vs
  | _, _ => False
theorem ha_st.ex {N N' : Nat} {ρ ρ' : Nat → Int32} (e : ha_ex N ρ ρ') (hN : N ≤ N') : ∀ {as : List ha_V} {vs : List Value}, ha_st ρ N as vs → ha_st ρ' N' as vs
  | [], [], _ => trivial
  | _ :: _, _ :: _, h => ⟨h.1.ex e hN, ha_st.ex e hN h.2⟩
  | [], _ :: _, h => h.elim
  | _ :: _, [], h => h.elim
theorem ha_st_cons {ρ : Nat → Int32} {N : Nat} {a : ha_V} {as : List ha_V} {cst : List Value} (h : ha_st ρ N (a :: as) cst) : ∃ v vs, cst = v :: vs ∧ ha_v ρ N a v ∧ ha_st ρ N as vs := by
  cases cst with
  | nil => exact h.elim
  | cons v vs => exact ⟨v, vs, rfl, h.1, h.2⟩
def ha_isL (a : ha_V) : Bool := match a with
  | .inr (.inr (.inr true)) => true
  | _ => false
theorem ha_v_l {ρ : Nat → Int32} {N : Nat} {a : ha_V} {v : Value} (h : ha_v ρ N a v) (hi : ha_isL a = true) : ∃ x, v = .long x := by
  unfold ha_isL at hi
  split at hi
  · exact h
  · cases hi
/-- of one slot -/
def ha_c1 (a : ha_V) : Bool := match a with
  | .inl _ => true
  | .inr (.inl _) => true
  | .inr (.inr (.inl _)) => true
  | _ => false
theorem ha_v_c1 {ρ : Nat → Int32} {N : Nat} {a : ha_V} {v : Value} (h : ha_v ρ N a v) (hi : ha_c1 a = true) : v.category = 1 := by
  unfold ha_c1 at hi
  split at hi
  · rw [h.2]; rfl
  · obtain ⟨x, h1, _⟩ := h; rw [h1]; rfl
  · rw [show v = _ from h]; rfl
  · cases hi
theorem ha_itv_isI {S : ha_S} {a : ha_V} {q : Int × Int} (h : ha_itv S a = some q) : ha_isI a = true := by
  unfold ha_itv at h
  split at h
  · rfl
  · rfl
  · cases h
def ha_kk (S : ha_S) (a : Int) (r : List ha_V) : Option (ha_S × List ha_V) := if ha_lo ≤ a ∧ a ≤ ha_hi then some (S, .inr (.inl a) :: r) else none
/-- two ints give an int -/
def ha_b (S : ha_S) (x y : ha_V) (r : List ha_V) (f : Option (ha_S × ha_V)) : Option (ha_S × List ha_V) := if ha_isI x = true ∧ ha_isI y = true then f.map (fun R => (R.1, R.2 :: r)) else none
def ha_u (x : ha_V) (r : List ha_V) (f : ha_S × ha_V) : Option (ha_S × List ha_V) := if ha_isI x = true then some (f.1, f.2 :: r) else none
def ha_ll (S : ha_S) (x y : ha_V) (r : List ha_V) : Option (ha_S × List ha_V) := if ha_isL x = true ∧ ha_isL y = true then some (S, .inr (.inr (.inr true)) :: r) else none
def ha_stk (i : Instr) (a : Int) (S : ha_S) (st : List ha_V) : Option (ha_S × List ha_V) := match i, st with
  | .iconst _, r => ha_kk S a r
  | .bipush _, r => ha_kk S a r
  | .sipush _, r => ha_kk S a r
  | .ldc _, r => ha_kk S a r
  | .ldc_w _, r => ha_kk S a r
  | .lconst _, r => some (S, .inr (.inr (.inr true)) :: r)
  | .ldc2_w _, r => some (S, .inr (.inr (.inr true)) :: r)
  | .iadd, y :: x :: r => ha_b S x y r (ha_add S x y)
  | .isub, y :: x :: r => ha_b S x y r (ha_sub S x y)
  | .imul, y :: x :: r => ha_b S x y r (ha_mul S x y)
  | .idiv, y :: x :: r => ha_b S x y r (ha_div S x y)
  | .irem, y :: x :: r => ha_b S x y r (ha_rem S x y)
  | .iand, y :: x :: r => ha_b S x y r (ha_and S x y)
  | .ixor, y :: x :: r => ha_b S x y r (some (ha_xor S x y))
  | .ior, y :: x :: r => ha_b S x y r (some (ha_any S))
  | .ishl, y :: x :: r => ha_b S x y r (some (ha_any S))
  | .ishr, y :: x :: r => ha_b S x y r (some (ha_any S))
  | .iushr, y :: x :: r => ha_b S x y r (some (ha_any S))
  | .ineg, x :: r => ha_u x r (ha_any S)
  | .i2b, x :: r => ha_u x r (ha_any S)
  | .i2s, x :: r => ha_u x r (ha_any S)
  | .i2l, x :: r => if ha_isI x = true then some (S, .inr (.inr (.inr true)) :: r) else none
  | .ladd, y :: x :: r => ha_ll S x y r
  | .lsub, y :: x :: r => ha_ll S x y r
  | .lmul, y :: x :: r => ha_ll S x y r
  | .lcmp, y :: x :: r => if ha_isL x = true ∧ ha_isL y = true then some ((ha_any S).1, (ha_any S).2 :: r) else none
  | .dup, v :: r => if ha_c1 v = true then some (S, v :: v :: r) else none
  | .dup2, v :: w :: r => if ha_c1 v = true ∧ ha_c1 w = true then some (S, v :: w :: v :: w :: r) else none
  | .pop, v :: r => if ha_c1 v = true then some (S, r) else none
  | .pop2, v :: r => if ha_isL v = true then some (S, r) else none
  | _, _ => none
/-- what a step of knowledge has to say of a step -/
def ha_R (ρ : Nat → Int32) (M : hzMem) (S : ha_S) (R : ha_S × List ha_V) (c : Option (List Value)) : Prop := ∃ cst' ρ', c = some cst' ∧ ha_ex S.1 ρ ρ' ∧ S.1 ≤ R.1.1 ∧ ha_st ρ' R.1.1 R.2 cst' ∧ ha_ok ρ' M R.1
section HA
variable {ρ : Nat → Int32} {M : hzMem} {S : ha_S} {a : Int} {r : List ha_V} {x y : ha_V} {cst : List Value} {R : ha_S × List ha_V}
theorem ha_kk_ok (h : ha_ok ρ M S) (hr : ha_st ρ S.1 r cst) (hR : ha_kk S a r = some R) : ha_R ρ M S R (some (.int (Int32.ofInt a) :: cst)) := by
  unfold ha_kk at hR
  split at hR
  · rename_i hc
    cases hR
    refine ⟨_, ρ, rfl, ha_ex.rf, Nat.le_refl _, ⟨⟨_, rfl, ?_⟩, hr⟩, h⟩
    rw [Int32.toInt_ofInt]
    exact ha_bm hc.1 hc.2
  · cases hR
theorem ha_b_ok {g : Int32 → Int32 → Option Value} {c : Option (List Value)} (hst : ha_st ρ S.1 (y :: x :: r) cst) {f : Option (ha_S × ha_V)} (hR : ha_b S x y r f = some R)
    (hf : ∀ (cx cy : Int32) (cr : List Value) (R0 : ha_S × ha_V), cst = .int cy :: .int cx :: cr → ha_i ρ S.1 x cx → ha_i ρ S.1 y cy → f = some R0 → ∃ z, c = some (.int z :: cr) ∧ ∃ ρ', ha_ex S.1 ρ ρ' ∧ S.1 ≤ R0.1.1 ∧ ha_i ρ' R0.1.1 R0.2 z ∧ ha_ok ρ' M R0.1) : ha_R ρ M S R c := by
  unfold ha_b at hR
  split at hR
  · rename_i hc
    obtain ⟨R0, h1, h2⟩ := Option.map_eq_some_iff.mp hR
    subst h2
    obtain ⟨v, vs, rfl, hv, hvs⟩ := ha_st_cons hst
    obtain ⟨w, ws, rfl, hw, hws⟩ := ha_st_cons hvs
    obtain ⟨cy, rfl, hy⟩ := ha_v_i hv hc.2
    obtain ⟨cx, rfl, hx⟩ := ha_v_i hw hc.1
    obtain ⟨z, e, ρ', ex, hN, hz, ho⟩ := hf cx cy ws R0 rfl hx hy h1
    exact ⟨_, ρ', e, ex, hN, ⟨ha_i_v hz, hws.ex ex hN⟩, ho⟩
  · cases hR
theorem ha_u_ok {c : Option (List Value)} (hst : ha_st ρ S.1 (x :: r) cst) {f : ha_S × ha_V} (hR : ha_u x r f = some R)
    (hf : ∀ (cx : Int32) (cr : List Value), cst = .int cx :: cr → ∃ z, c = some (.int z :: cr) ∧ ∃ ρ', ha_ex S.1 ρ ρ' ∧ S.1 ≤ f.1.1 ∧ ha_i ρ' f.1.1 f.2 z ∧ ha_ok ρ' M f.1) : ha_R ρ M S R c := by
  unfold ha_u at hR
  split at hR
  · rename_i hc
    cases hR
    obtain ⟨w, ws, rfl, hw, hws⟩ := ha_st_cons hst
    obtain ⟨cx, rfl, hx⟩ := ha_v_i hw hc
    obtain ⟨z, e, ρ', ex, hN, hz, ho⟩ := hf cx ws rfl
    exact ⟨_, ρ', e, ex, hN, ⟨ha_i_v hz, hws.ex ex hN⟩, ho⟩
  · cases hR
theorem ha_ll_ok {c : Option (List Value)} (h : ha_ok ρ M S) (hst : ha_st ρ S.1 (y :: x :: r) cst) (hR : ha_ll S x y r = some R)
    (hf : ∀ (cx cy : Int64) (cr : List Value), cst = .long cy :: .long cx :: cr → ∃ z, c = some (.long z :: cr)) : ha_R ρ M S R c := by
  unfold ha_ll at hR
  split at hR
  · rename_i hc
    cases hR
    obtain ⟨v, vs, rfl, hv, hvs⟩ := ha_st_cons hst
    obtain ⟨w, ws, rfl, hw, hws⟩ := ha_st_cons hvs
    obtain ⟨cy, rfl⟩ := ha_v_l hv hc.2
    obtain ⟨cx, rfl⟩ := ha_v_l hw hc.1
    obtain ⟨z, e⟩ := hf cx cy ws rfl
    exact ⟨_, ρ, e, ha_ex.rf, Nat.le_refl _, ⟨⟨z, rfl⟩, hws⟩, h⟩
  · cases hR
set_option maxHeartbeats 4000000 in
theorem ha_stk_ok {i : Instr} {st : List ha_V} (h : ha_ok ρ M S) (hst : ha_st ρ S.1 st cst) (hR : ha_stk i a S st = some R) : ha_R ρ M S R (hz_stk i a cst) := by
  unfold ha_stk at hR
  split at hR
  · exact ha_kk_ok h hst hR
  · exact ha_kk_ok h hst hR
  · exact ha_kk_ok h hst hR
  · exact ha_kk_ok h hst hR
  · exact ha_kk_ok h hst hR
  · cases hR; exact ⟨_, ρ, rfl, ha_ex.rf, Nat.le_refl _, ⟨⟨_, rfl⟩, hst⟩, h⟩
  · cases hR; exact ⟨_, ρ, rfl, ha_ex.rf, Nat.le_refl _, ⟨⟨_, rfl⟩, hst⟩, h⟩
  · refine ha_b_ok (g := fun _ _ => none) hst hR (fun cx cy cr R0 e hx hy hf => ?_)
    subst e
    obtain ⟨R1, e1, hq⟩ := ha_add_ok h hx hy
    cases e1.symm.trans hf
    exact ⟨_, rfl, hq⟩
  · refine ha_b_ok (g := fun _ _ => none) hst hR (fun cx cy cr R0 e hx hy hf => ?_)
    subst e
    obtain ⟨R1, e1, hq⟩ := ha_sub_ok h hx hy
    cases e1.symm.trans hf
    exact ⟨_, rfl, hq⟩
  · refine ha_b_ok (g := fun _ _ => none) hst hR (fun cx cy cr R0 e hx hy hf => ?_)
    subst e
    obtain ⟨R1, e1, hq⟩ := ha_mul_ok h hx hy
    cases e1.symm.trans hf
    exact ⟨_, rfl, hq⟩
  · refine ha_b_ok (g := fun _ _ => none) hst hR (fun cx cy cr R0 e hx hy hf => ?_)
    subst e
    obtain ⟨h0, hq⟩ := ha_div_ok h hx hy hf
    exact ⟨_, if_neg h0, hq⟩
  · refine ha_b_ok (g := fun _ _ => none) hst hR (fun cx cy cr R0 e hx hy hf => ?_)
    subst e
    obtain ⟨h0, hq⟩ := ha_rem_ok h hx hy hf
    exact ⟨_, if_neg h0, hq⟩
  · refine ha_b_ok (g := fun _ _ => none) hst hR (fun cx cy cr R0 e hx hy hf => ?_)
    subst e
    obtain ⟨R1, e1, hq⟩ := ha_and_ok h hx hy
    cases e1.symm.trans hf
    exact ⟨_, rfl, hq⟩
  · refine ha_b_ok (g := fun _ _ => none) hst hR (fun cx cy cr R0 e hx hy hf => ?_)
    subst e
    cases hf
    exact ⟨_, rfl, ha_xor_ok h hx hy⟩
  · refine ha_b_ok (g := fun _ _ => none) hst hR (fun cx cy cr R0 e hx hy hf => ?_)
    subst e
    cases hf
    exact ⟨_, rfl, ha_any_ok h _⟩
  · refine ha_b_ok (g := fun _ _ => none) hst hR (fun cx cy cr R0 e hx hy hf => ?_)
    subst e
    cases hf
    exact ⟨_, rfl, ha_any_ok h _⟩
  · refine ha_b_ok (g := fun _ _ => none) hst hR (fun cx cy cr R0 e hx hy hf => ?_)
    subst e
    cases hf
    exact ⟨_, rfl, ha_any_ok h _⟩
  · refine ha_b_ok (g := fun _ _ => none) hst hR (fun cx cy cr R0 e hx hy hf => ?_)
    subst e
    cases hf
    exact ⟨_, rfl, ha_any_ok h _⟩
  · refine ha_u_ok hst hR (fun cx cr e => ?_)
    subst e
    exact ⟨_, rfl, ha_any_ok h _⟩
  · refine ha_u_ok hst hR (fun cx cr e => ?_)
    subst e
    exact ⟨_, rfl, ha_any_ok h _⟩
  · refine ha_u_ok hst hR (fun cx cr e => ?_)
    subst e
    exact ⟨_, rfl, ha_any_ok h _⟩
  · split at hR
    · rename_i hc
      cases hR
      obtain ⟨w, ws, rfl, hw, hws⟩ := ha_st_cons hst
      obtain ⟨cx, rfl, hx⟩ := ha_v_i hw hc
      exact ⟨_, ρ, rfl, ha_ex.rf, Nat.le_refl _, ⟨⟨_, rfl⟩, hws⟩, h⟩
    · cases hR
  · exact ha_ll_ok h hst hR (fun cx cy cr e => ⟨_, by rw [e]; rfl⟩)
  · exact ha_ll_ok h hst hR (fun cx cy cr e => ⟨_, by rw [e]; rfl⟩)
  · exact ha_ll_ok h hst hR (fun cx cy cr e => ⟨_, by rw [e]; rfl⟩)
  · split at hR
    · rename_i hc
      cases hR
      obtain ⟨v, vs, rfl, hv, hvs⟩ := ha_st_cons hst
      obtain ⟨w, ws, rfl, hw, hws⟩ := ha_st_cons hvs
      obtain ⟨cy, rfl⟩ := ha_v_l hv hc.2
      obtain ⟨cx, rfl⟩ := ha_v_l hw hc.1
      obtain ⟨ρ', ex, hN, hz, ho⟩ := ha_any_ok h (lg_cmp cx cy)
      exact ⟨_, ρ', rfl, ex, hN, ⟨ha_i_v hz, hws.ex ex hN⟩, ho⟩
    · cases hR
  · split at hR
    · rename_i hc
      cases hR
      obtain ⟨v, vs, rfl, hv, hvs⟩ := ha_st_cons hst
      exact ⟨_, ρ, if_pos (ha_v_c1 hv hc), ha_ex.rf, Nat.le_refl _, ⟨hv, hv, hvs⟩, h⟩
    · cases hR
  · split at hR
    · rename_i hc
      cases hR
      obtain ⟨v, vs, rfl, hv, hvs⟩ := ha_st_cons hst
      obtain ⟨w, ws, rfl, hw, hws⟩ := ha_st_cons hvs
      exact ⟨_, ρ, if_pos ⟨ha_v_c1 hv hc.1, ha_v_c1 hw hc.2⟩, ha_ex.rf, Nat.le_refl _, ⟨hv, hw, hv, hw, hws⟩, h⟩
    · cases hR
  · split at hR
    · rename_i hc
      cases hR
      obtain ⟨v, vs, rfl, hv, hvs⟩ := ha_st_cons hst
      exact ⟨_, ρ, if_pos (ha_v_c1 hv hc), ha_ex.rf, Nat.le_refl _, hvs, h⟩
    · cases hR
  · split at hR
    · rename_i hc
      cases hR
      obtain ⟨v, vs, rfl, hv, hvs⟩ := ha_st_cons hst
      obtain ⟨cx, rfl⟩ := ha_v_l hv hc
      exact ⟨vs, ρ, rfl, ha_ex.rf, Nat.le_refl _, hvs, h⟩
    · cases hR
  · cases hR
end HA
