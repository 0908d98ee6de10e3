/-! LOCALS AND JUMPS on what is known -/
def ha_L (ρ : Nat → Int32) (N : Nat) (aL : List ha_V) (L : List (Option Value)) : Prop := aL.length = L.length ∧ ∀ (j : Nat) (a : ha_V), aL[j]? = some a → a = ha_dd ∨ ∃ v, L[j]? = some (some v) ∧ ha_v ρ N a v
theorem ha_L.ex {N N' : Nat} {ρ ρ' : Nat → Int32} {aL : List ha_V} {L : List (Option Value)} (h : ha_L ρ N aL L) (e : ha_ex N ρ ρ') (hN : N ≤ N') : ha_L ρ' N' aL L := ⟨h.1, fun j a hj => by
  rcases h.2 j a hj with q | ⟨v, h1, h2⟩
  · exact Or.inl q
  · exact Or.inr ⟨v, h1, h2.ex e hN⟩⟩
def ha_cut (aL : List ha_V) (i : Nat) : List ha_V := match i with
  | 0 => aL
  | j + 1 => match aL[j]? with
    | some a => if ha_c1 a = true then aL else aL.set j ha_dd
    | none => aL
def ha_put (aL : List ha_V) (i : Nat) (a : ha_V) : List ha_V := if ha_isL a = true then ((ha_cut aL i).set i a).set (i + 1) ha_dd else (ha_cut aL i).set i a
theorem ha_cut_len (aL : List ha_V) (i : Nat) : (ha_cut aL i).length = aL.length := by
  unfold ha_cut
  split
  · rfl
  · split
    · split <;> simp
    · rfl
theorem ha_cut_ok {ρ : Nat → Int32} {N : Nat} {aL : List ha_V} {L : List (Option Value)} (h : ha_L ρ N aL L) (i : Nat) : ha_L ρ N (ha_cut aL i) (hz_cut L i) := by
  refine ⟨by rw [ha_cut_len, hz_cut_len]; exact h.1, fun j a hj => ?_⟩
  cases i with
  | zero => exact h.2 j a hj
  | succ i =>
    have key : (ha_cut aL (i + 1))[j]? = some a → a = ha_dd ∨ (aL[j]? = some a ∧ (j = i → ha_c1 a = true)) := by
      clear hj
      intro hj
      unfold ha_cut at hj
      dsimp only at hj
      split at hj
      · rename_i b hb
        split at hj
        · rename_i hc
          refine Or.inr ⟨hj, fun e => ?_⟩
          subst e
          cases hb.symm.trans hj
          exact hc
        · by_cases e : j = i
          · subst e
            rw [List.getElem?_set_self (List.getElem?_eq_some_iff.mp hb).1] at hj
            cases hj
            exact Or.inl rfl
          · rw [List.getElem?_set_ne (fun q => e q.symm)] at hj
            exact Or.inr ⟨hj, fun q => absurd q e⟩
      · rename_i hb
        refine Or.inr ⟨hj, fun e => ?_⟩
        subst e
        rw [hb] at hj
        cases hj
    rcases key hj with e | ⟨h1, h2⟩
    · exact Or.inl e
    · rcases h.2 j a h1 with e | ⟨v, g1, g2⟩
      · exact Or.inl e
      · refine Or.inr ⟨v, ?_, g2⟩
        unfold hz_cut
        dsimp only
        split
        · rename_i w hw
          split
          · rename_i hc
            by_cases e : j = i
            · subst e
              rw [hw] at g1
              cases g1
              have := ha_v_c1 g2 (h2 rfl)
              omega
            · rw [List.getElem?_set_ne (fun q => e q.symm)]
              exact g1
          · exact g1
        · exact g1
theorem ha_put_ok {ρ : Nat → Int32} {N : Nat} {aL : List ha_V} {L : List (Option Value)} (h : ha_L ρ N aL L) {i : Nat} {a : ha_V} {v : Value} (hv : ha_v ρ N a v) (hc : (ha_isL a = true ∧ v.category = 2) ∨ (ha_isL a = false ∧ ¬ v.category = 2)) (hi : i + (v.category - 1) < L.length) : ha_L ρ N (ha_put aL i a) (hz_put L i v) := by
  have h0 := ha_cut_ok h i
  have hl0 : i < (hz_cut L i).length := by rw [hz_cut_len]; omega
  have h1 : ha_L ρ N ((ha_cut aL i).set i a) ((hz_cut L i).set i (some v)) := by
    refine ⟨by rw [List.length_set, List.length_set]; exact h0.1, fun j b hj => ?_⟩
    by_cases e : j = i
    · subst e
      rw [List.getElem?_set_self (by rw [h0.1]; exact hl0)] at hj
      cases hj
      exact Or.inr ⟨v, List.getElem?_set_self hl0, hv⟩
    · rw [List.getElem?_set_ne (fun q => e q.symm)] at hj
      rw [List.getElem?_set_ne (fun q => e q.symm)]
      exact h0.2 j b hj
  unfold ha_put hz_put
  rcases hc with ⟨c1, c2⟩ | ⟨c1, c2⟩
  · rw [if_pos c1, if_pos c2]
    refine ⟨by simp only [List.length_set]; exact h0.1, fun j b hj => ?_⟩
    by_cases e : j = i + 1
    · subst e
      have hl : i + 1 < ((ha_cut aL i).set i a).length := by rw [List.length_set, h0.1, hz_cut_len]; omega
      rw [List.getElem?_set_self hl] at hj
      cases hj
      exact Or.inl rfl
    · rw [List.getElem?_set_ne (fun q => e q.symm)] at hj
      rw [List.getElem?_set_ne (fun q => e q.symm)]
      exact h1.2 j b hj
  · rw [if_neg (by rw [c1]; decide), if_neg c2]
    exact h1
def ha_isR (a : ha_V) : Bool := match a with
  | .inr (.inr (.inl _)) => true
  | _ => false
def ha_ld (aL : List ha_V) (k : Nat) (chk : ha_V → Bool) (r : List ha_V) (S : ha_S) : Option (ha_S × List ha_V × List ha_V) := match aL[k]? with
  | some a => if chk a = true then some (S, aL, a :: r) else none
  | none => none
def ha_sto (aL : List ha_V) (k : Nat) (chk : ha_V → Bool) (a : ha_V) (r : List ha_V) (S : ha_S) : Option (ha_S × List ha_V × List ha_V) :=
  if chk a = true ∧ k + (ha_isL a).toNat < aL.length then some (S, ha_put aL k a, r) else none
def ha_loc (i : Instr) (S : ha_S) (aL st : List ha_V) : Option (ha_S × List ha_V × List ha_V) := match i, st with
  | .iload_n k, r => ha_ld aL k ha_isI r S
  | .iload k, r => ha_ld aL k ha_isI r S
  | .aload_n k, r => ha_ld aL k ha_isR r S
  | .aload k, r => ha_ld aL k ha_isR r S
  | .lload_n k, r => ha_ld aL k ha_isL r S
  | .lload k, r => ha_ld aL k ha_isL r S
  | .istore_n k, a :: r => ha_sto aL k ha_isI a r S
  | .istore k, a :: r => ha_sto aL k ha_isI a r S
  | .astore_n k, a :: r => ha_sto aL k ha_isR a r S
  | .astore k, a :: r => ha_sto aL k ha_isR a r S
  | .lstore_n k, a :: r => ha_sto aL k ha_isL a r S
  | .lstore k, a :: r => ha_sto aL k ha_isL a r S
  | .iinc k n, r => (match aL[k]? with
    | some a => if ha_isI a = true ∧ ha_lo ≤ n ∧ n ≤ ha_hi then (match ha_add S a (ha_kt n) with
      | some R => some (R.1, ha_put aL k R.2, r)
      | none => none) else none
    | none => none)
  | _, _ => none
/-- what a step of knowledge has to say of a step over the locals -/
def ha_RL (ρ : Nat → Int32) (M : hzMem) (S : ha_S) (R : ha_S × List ha_V × List ha_V) (c : Option (List (Option Value) × List Value)) : Prop := ∃ L' cst' ρ', c = some (L', cst') ∧ ha_ex S.1 ρ ρ' ∧ S.1 ≤ R.1.1 ∧ ha_L ρ' R.1.1 R.2.1 L' ∧ ha_st ρ' R.1.1 R.2.2 cst' ∧ ha_ok ρ' M R.1
section HC
variable {ρ : Nat → Int32} {M : hzMem} {S : ha_S} {aL r : List ha_V} {L : List (Option Value)} {cst : List Value} {R : ha_S × List ha_V × List ha_V} {k : Nat}
theorem ha_v_r {N : Nat} {a : ha_V} {v : Value} (h : ha_v ρ N a v) (hi : ha_isR a = true) : ∃ q, v = .ref q := by
  unfold ha_isR at hi
  split at hi
  · exact ⟨_, h⟩
  · cases hi
theorem ha_ld_ok (h : ha_ok ρ M S) (hL : ha_L ρ S.1 aL L) (hst : ha_st ρ S.1 r cst) {chk : ha_V → Bool} (hd : chk ha_dd = false) (hR : ha_ld aL k chk r S = some R) {c : Option (List (Option Value) × List Value)}
    (hc : ∀ a v, chk a = true → ha_v ρ S.1 a v → L[k]? = some (some v) → c = some (L, v :: cst)) : ha_RL ρ M S R c := by
  unfold ha_ld at hR
  split at hR
  · rename_i a ha
    split at hR
    · rename_i hq
      cases hR
      rcases hL.2 k a ha with e | ⟨v, g1, g2⟩
      · rw [e, hd] at hq
        cases hq
      · exact ⟨L, v :: cst, ρ, hc a v hq g2 g1, ha_ex.rf, Nat.le_refl _, hL, ⟨g2, hst⟩, h⟩
    · cases hR
  · cases hR
theorem ha_sto_ok (h : ha_ok ρ M S) (hL : ha_L ρ S.1 aL L) {a : ha_V} (hst : ha_st ρ S.1 (a :: r) cst) {chk : ha_V → Bool} (hR : ha_sto aL k chk a r S = some R) {c : Option (List (Option Value) × List Value)}
    (hc : ∀ v cr, chk a = true → ha_v ρ S.1 a v → cst = v :: cr → c = hz_sto L k v cr ∧ ((ha_isL a = true ∧ v.category = 2) ∨ (ha_isL a = false ∧ v.category = 1))) : ha_RL ρ M S R c := by
  unfold ha_sto at hR
  split at hR
  · rename_i hq
    cases hR
    obtain ⟨v, vs, rfl, hv, hvs⟩ := ha_st_cons hst
    obtain ⟨e1, e2⟩ := hc v vs hq.1 hv rfl
    have hlen : k + (v.category - 1) < L.length := by
      have := hq.2
      rw [hL.1] at this
      rcases e2 with ⟨c1, c2⟩ | ⟨c1, c2⟩
      · rw [c1] at this; have : k + 1 < L.length := this; omega
      · rw [c1] at this; have : k + 0 < L.length := this; omega
    refine ⟨hz_put L k v, vs, ρ, ?_, ha_ex.rf, Nat.le_refl _, ha_put_ok hL hv ?_ hlen, hvs, h⟩
    · rw [e1]
      unfold hz_sto
      exact if_pos hlen
    · rcases e2 with c | ⟨c1, c2⟩
      · exact Or.inl c
      · exact Or.inr ⟨c1, by omega⟩
  · cases hR
theorem ha_isI_nL {a : ha_V} (h : ha_isI a = true) : ha_isL a = false := by
  unfold ha_isI at h
  split at h
  · rfl
  · rfl
  · cases h
theorem ha_isR_nL {a : ha_V} (h : ha_isR a = true) : ha_isL a = false := by
  unfold ha_isR at h
  split at h
  · rfl
  · cases h
set_option maxHeartbeats 4000000 in
theorem ha_loc_ok (h : ha_ok ρ M S) (hL : ha_L ρ S.1 aL L) {i : Instr} {st : List ha_V} (hst : ha_st ρ S.1 st cst) (hR : ha_loc i S aL st = some R) : ha_RL ρ M S R (hz_loc i L cst) := by
  have eI : ∀ k a v, ha_isI a = true → ha_v ρ S.1 a v → L[k]? = some (some v) → hz_ldi L k cst = some (L, v :: cst) := fun k a v hi hv hk => by
    obtain ⟨x, rfl, _⟩ := ha_v_i hv hi
    simp only [hz_ldi, hk]
  have eA : ∀ k a v, ha_isR a = true → ha_v ρ S.1 a v → L[k]? = some (some v) → hz_lda L k cst = some (L, v :: cst) := fun k a v hi hv hk => by
    obtain ⟨x, rfl⟩ := ha_v_r hv hi
    simp only [hz_lda, hk]
  have eL : ∀ k a v, ha_isL a = true → ha_v ρ S.1 a v → L[k]? = some (some v) → hz_ldl L k cst = some (L, v :: cst) := fun k a v hi hv hk => by
    obtain ⟨x, rfl⟩ := ha_v_l hv hi
    simp only [hz_ldl, hk]
  unfold ha_loc at hR
  split at hR
  · exact ha_ld_ok h hL hst rfl hR (eI _)
  · exact ha_ld_ok h hL hst rfl hR (eI _)
  · exact ha_ld_ok h hL hst rfl hR (eA _)
  · exact ha_ld_ok h hL hst rfl hR (eA _)
  · exact ha_ld_ok h hL hst rfl hR (eL _)
  · exact ha_ld_ok h hL hst rfl hR (eL _)
  · refine ha_sto_ok h hL hst hR (fun v cr hi hv e => ?_)
    obtain ⟨x, rfl, _⟩ := ha_v_i hv hi
    subst e
    exact ⟨rfl, Or.inr ⟨ha_isI_nL hi, rfl⟩⟩
  · refine ha_sto_ok h hL hst hR (fun v cr hi hv e => ?_)
    obtain ⟨x, rfl, _⟩ := ha_v_i hv hi
    subst e
    exact ⟨rfl, Or.inr ⟨ha_isI_nL hi, rfl⟩⟩
  · refine ha_sto_ok h hL hst hR (fun v cr hi hv e => ?_)
    obtain ⟨x, rfl⟩ := ha_v_r hv hi
    subst e
    exact ⟨rfl, Or.inr ⟨ha_isR_nL hi, rfl⟩⟩
  · refine ha_sto_ok h hL hst hR (fun v cr hi hv e => ?_)
    obtain ⟨x, rfl⟩ := ha_v_r hv hi
    subst e
    exact ⟨rfl, Or.inr ⟨ha_isR_nL hi, rfl⟩⟩
  · refine ha_sto_ok h hL hst hR (fun v cr hi hv e => ?_)
    obtain ⟨x, rfl⟩ := ha_v_l hv hi
    subst e
    exact ⟨rfl, Or.inl ⟨hi, rfl⟩⟩
  · refine ha_sto_ok h hL hst hR (fun v cr hi hv e => ?_)
    obtain ⟨x, rfl⟩ := ha_v_l hv hi
    subst e
    exact ⟨rfl, Or.inl ⟨hi, rfl⟩⟩
  · rename_i r k n
    split at hR
    · rename_i a ha
      split at hR
      · rename_i hc
        split at hR
        · rename_i R0 hadd
          cases hR
          rcases hL.2 k a ha with e | ⟨v, g1, g2⟩
          · rw [e] at hc
            cases hc.1
          · obtain ⟨x, rfl, hx⟩ := ha_v_i g2 hc.1
            have hn : ha_i ρ S.1 (ha_kt n) (Int32.ofInt n) := by
              show (Int32.ofInt n).toInt = n
              rw [Int32.toInt_ofInt]
              exact ha_bm hc.2.1 hc.2.2
            obtain ⟨R1, e1, ρ', ex, hN, hz, ho⟩ := ha_add_ok h hx hn
            cases e1.symm.trans hadd
            have hlen : k < L.length := (List.getElem?_eq_some_iff.mp g1).1
            have hnl : ha_isL R0.2 = false := by
              have hz' := hz
              unfold ha_i at hz'
              split at hz'
              · rename_i e; rw [e]; rfl
              · rename_i e; rw [e]; rfl
              · exact hz'.elim
            refine ⟨hz_put L k (.int (x + Int32.ofInt n)), cst, ρ', ?_, ex, hN, ha_put_ok (hL.ex ex hN) (ha_i_v hz) (Or.inr ⟨hnl, show ¬ (1 : Nat) = 2 by decide⟩) hlen, hst.ex ex hN, ho⟩
            simp only [hz_loc, g1, hz_sto]
            exact if_pos hlen
        · cases hR
      · cases hR
    · cases hR
  · cases hR
end HC
def ha_brc (c : Jvm.ClassFile.Cond) (S : ha_S) (v w : ha_V) (x y : Nat) (r : List ha_V) : List (Nat × ha_S × List ha_V) :=
  (ha_cmp c true S v w).toList.map (fun S' => (x, S', r)) ++ (ha_cmp c false S v w).toList.map (fun S' => (y, S', r))
/-- outside lo .. hi -/
def ha_out (S : ha_S) (v : ha_V) (p : Int × Int) (lo hi : Int) : Option ha_S := if lo ≤ p.1 then ha_set S v (max p.1 (hi + 1)) p.2 else if p.2 ≤ hi then ha_set S v p.1 (min p.2 (lo - 1)) else some S
theorem ha_out_ok {ρ : Nat → Int32} {M : hzMem} {S : ha_S} (h : ha_ok ρ M S) {v : ha_V} {z : Int32} (hz : ha_i ρ S.1 v z) {p : Int × Int} (p1 : p.1 ≤ z.toInt) (p2 : z.toInt ≤ p.2) {lo hi : Int} (ho : z.toInt < lo ∨ hi < z.toInt) : ∃ S', ha_out S v p lo hi = some S' ∧ S'.1 = S.1 ∧ ha_ok ρ M S' := by
  unfold ha_out
  split
  · exact ha_set_ok h hz (by omega) (by omega)
  · split
    · exact ha_set_ok h hz (by omega) (by omega)
    · exact ⟨S, rfl, rfl, h⟩
def ha_br (i : Instr) (pc x : Nat) (S : ha_S) (st : List ha_V) : Option (List (Nat × ha_S × List ha_V)) := match i, st with
  | .goto _, r => some [(x, S, r)]
  | .ifCond c _, v :: r => if ha_isI v = true then some (ha_brc c S v (ha_kt 0) x (pc + 3) r) else none
  | .if_icmp c _, w :: v :: r => if ha_isI v = true ∧ ha_isI w = true then some (ha_brc c S v w x (pc + 3) r) else none
  | .tableswitch d lo hi offs, v :: r => (match ha_itv S v, hz_tgt pc d with
    | some p, some t0 => if offs.toList.all (fun o => (hz_tgt pc o).isSome) = true ∧ hi - lo + 1 = (offs.size : Int) then
        some (((ha_out S v p lo hi).toList.map (fun S' => (t0, S', r))) ++ (List.range offs.size).filterMap (fun (u : Nat) => (ha_set S v (max p.1 (lo + u)) (min p.2 (lo + u))).bind (fun S' => (offs[u]?).bind (fun o => (hz_tgt pc o).map (fun t => (t, S', r)))))) else none
    | _, _ => none)
  | .lookupswitch d ps, v :: r => (match ha_itv S v, hz_tgt pc d with
    | some p, some t0 => if (ps.toList.zip (ps.toList.drop 1)).all (fun (a, next) => a.1 < next.1) = true ∧ ps.toList.all (fun o => (hz_tgt pc o.2).isSome) = true then
        some ((t0, S, r) :: ps.toList.filterMap (fun o => (ha_set S v (max p.1 o.1) (min p.2 o.1)).bind (fun S' => (hz_tgt pc o.2).map (fun t => (t, S', r))))) else none
    | _, _ => none)
  | _, _ => none
theorem ha_brc_ok {ρ : Nat → Int32} {M : hzMem} {S : ha_S} (h : ha_ok ρ M S) {v w : ha_V} {cv cw : Int32} (hv : ha_i ρ S.1 v cv) (hw : ha_i ρ S.1 w cw) (c : Jvm.ClassFile.Cond) (x y : Nat) (r : List ha_V) :
    ∃ S', ((if hz_cmp c cv cw = true then x else y), S', r) ∈ ha_brc c S v w x y r ∧ S'.1 = S.1 ∧ ha_ok ρ M S' := by
  cases hc : hz_cmp c cv cw with
  | true =>
    obtain ⟨S', e, n, o⟩ := ha_cmp_ok h hv hw hc
    exact ⟨S', List.mem_append_left _ (List.mem_map.mpr ⟨S', by rw [e]; simp, rfl⟩), n, o⟩
  | false =>
    obtain ⟨S', e, n, o⟩ := ha_cmp_ok h hv hw hc
    exact ⟨S', List.mem_append_right _ (List.mem_map.mpr ⟨S', by rw [e]; simp, rfl⟩), n, o⟩
set_option maxHeartbeats 4000000 in
theorem ha_br_ok {ρ : Nat → Int32} {M : hzMem} {S : ha_S} (h : ha_ok ρ M S) {i : Instr} {pc x : Nat} {st : List ha_V} {cst : List Value} (hst : ha_st ρ S.1 st cst) {Rs : List (Nat × ha_S × List ha_V)} (hR : ha_br i pc x S st = some Rs) :
    ∃ t S' r' cst', (t, S', r') ∈ Rs ∧ hz_br i pc x cst = some (t, cst') ∧ S'.1 = S.1 ∧ ha_st ρ S.1 r' cst' ∧ ha_ok ρ M S' := by
  unfold ha_br at hR
  split at hR
  · cases hR
    exact ⟨x, S, _, cst, List.mem_singleton.mpr rfl, rfl, rfl, hst, h⟩
  · rename_i c off v r
    split at hR
    · rename_i hi
      cases hR
      obtain ⟨w, ws, rfl, hv, hvs⟩ := ha_st_cons hst
      obtain ⟨cv, rfl, hcv⟩ := ha_v_i hv hi
      obtain ⟨S', h1, h2, h3⟩ := ha_brc_ok h hcv (show ha_i ρ S.1 (ha_kt 0) 0 from rfl) c x (pc + 3) r
      exact ⟨_, S', r, ws, h1, rfl, h2, hvs, h3⟩
    · cases hR
  · rename_i c off w v r
    split at hR
    · rename_i hi
      cases hR
      obtain ⟨w1, ws0, rfl, hw, hvs0⟩ := ha_st_cons hst
      obtain ⟨w2, ws, rfl, hv, hvs⟩ := ha_st_cons hvs0
      obtain ⟨cv, rfl, hcv⟩ := ha_v_i hv hi.1
      obtain ⟨cw, rfl, hcw⟩ := ha_v_i hw hi.2
      obtain ⟨S', h1, h2, h3⟩ := ha_brc_ok h hcv hcw c x (pc + 3) r
      exact ⟨_, S', r, ws, h1, rfl, h2, hvs, h3⟩
    · cases hR
  · rename_i d lo hi offs v r
    split at hR
    · rename_i p t0 hp ht
      split at hR
      · rename_i hc
        cases hR
        obtain ⟨w, ws, rfl, hv, hvs⟩ := ha_st_cons hst
        obtain ⟨z, rfl, hz⟩ := ha_v_i hv (ha_itv_isI hp)
        obtain ⟨p', e1, p1, p2⟩ := ha_itv_ok h hz
        cases hp.symm.trans e1
        by_cases ho : z.toInt < lo ∨ hi < z.toInt
        · obtain ⟨S', g1, g2, g3⟩ := ha_out_ok h hz p1 p2 ho
          refine ⟨t0, S', r, ws, List.mem_append_left _ (List.mem_map.mpr ⟨S', by rw [g1]; simp, rfl⟩), ?_, g2, hvs, g3⟩
          · show (if z.toInt < lo ∨ hi < z.toInt then _ else _) = _
            rw [if_pos ho, ht]
            rfl
        · have hu : (z.toInt - lo).toNat < offs.size := by omega
          have hou : offs[(z.toInt - lo).toNat]? = some offs[(z.toInt - lo).toNat] := Array.getElem?_eq_getElem hu
          have hmem : offs[(z.toInt - lo).toNat] ∈ offs.toList := by rw [Array.mem_toList_iff]; exact Array.getElem_mem hu
          obtain ⟨t, ht2⟩ := Option.isSome_iff_exists.mp (List.all_eq_true.mp hc.1 _ hmem)
          obtain ⟨S', g1, g2, g3⟩ := ha_set_ok h hz (lo := max p.1 (lo + ((z.toInt - lo).toNat : Nat))) (hi := min p.2 (lo + ((z.toInt - lo).toNat : Nat))) (by omega) (by omega)
          refine ⟨t, S', r, ws, List.mem_append_right _ (List.mem_filterMap.mpr ⟨(z.toInt - lo).toNat, List.mem_range.mpr hu, ?_⟩), ?_, g2, hvs, g3⟩
          · rw [g1, hou]
            show (hz_tgt pc _).map _ = _
            rw [ht2]
            rfl
          · show (if z.toInt < lo ∨ hi < z.toInt then _ else _) = _
            rw [if_neg ho, hou]
            show (hz_tgt pc _).map _ = _
            rw [ht2]
            rfl
      · cases hR
    · cases hR
  · rename_i d ps v r
    split at hR
    · rename_i p t0 hp ht
      split at hR
      · rename_i hc
        cases hR
        obtain ⟨w, ws, rfl, hv, hvs⟩ := ha_st_cons hst
        obtain ⟨z, rfl, hz⟩ := ha_v_i hv (ha_itv_isI hp)
        obtain ⟨p', e1, p1, p2⟩ := ha_itv_ok h hz
        cases hp.symm.trans e1
        cases hf : ps.toList.find? (fun q => q.1 == z.toInt) with
        | none =>
          refine ⟨t0, S, r, ws, List.mem_cons_self, ?_, rfl, hvs, h⟩
          rw [show hz_br (.lookupswitch d ps) pc x (.int z :: ws) = _ from if_pos hc.1, Op.lookupswitch.offset_none hf, ht]
          rfl
        | some q =>
          have q1 : q.1 = z.toInt := by
            have := List.find?_some hf
            simpa using this
          have q2 : q ∈ ps.toList := List.mem_of_find?_eq_some hf
          obtain ⟨t, ht2⟩ := Option.isSome_iff_exists.mp (List.all_eq_true.mp hc.2 _ q2)
          obtain ⟨S', g1, g2, g3⟩ := ha_set_ok h hz (lo := max p.1 q.1) (hi := min p.2 q.1) (by omega) (by omega)
          refine ⟨t, S', r, ws, List.mem_cons_of_mem _ (List.mem_filterMap.mpr ⟨q, q2, by rw [g1]; show (hz_tgt pc q.2).map _ = _; rw [ht2]; rfl⟩), ?_, g2, hvs, g3⟩
          rw [show hz_br (.lookupswitch d ps) pc x (.int z :: ws) = _ from if_pos hc.1, Op.lookupswitch.offset_some (a := q.1) (o := q.2) hf, ht2]
          rfl
      · cases hR
    · cases hR
  · cases hR
