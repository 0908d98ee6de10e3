/-! THE CELLS', THE LOCALS' AND THE JUMPS' INSTRUCTIONS on what is known -/
def ha_dropA (S : ha_S) (k : Nat) : ha_S := (S.1, S.2.1, S.2.2.1, S.2.2.2.1, S.2.2.2.2.filter (fun q => !(q.1 == k)))
theorem ha_dropA_ok {ρ : Nat → Int32} {M : hzMem} {S : ha_S} (h : ha_ok ρ M S) {k : Nat} {e} : ha_ok ρ (M.set k e) (ha_dropA S k) := by
  obtain ⟨hl, hE, hG, hF, hC⟩ := h
  refine ⟨hl, hE, hG, hF, fun z hz => ?_⟩
  obtain ⟨h1, h2⟩ := List.mem_filter.mp hz
  have hc := hC z h1
  have q : k ≠ z.1 := fun q => by simp [q] at h2
  show ha_c ρ S.1 (M.set k e) z
  unfold ha_c at hc ⊢
  rw [List.getElem?_set_ne q]
  exact hc
abbrev ha_rf (k : Nat) : ha_V := .inr (.inr (.inl k))
abbrev ha_kt (c : Int) : ha_V := .inr (.inl c)
abbrev ha_dd : ha_V := .inr (.inr (.inr false))
def ha_ldI (S : ha_S) (k : Nat) (i : ha_V) (q : Int × Int) (r : List ha_V) : Option (List (ha_S × List ha_V)) := match ha_look S k i with
  | some v => if ha_isI v = true then some [(S, v :: r)] else none
  | none => some [(ha_memo (ha_mk S q).1 k i (ha_mk S q).2, (ha_mk S q).2 :: r)]
def ha_mem (W : List ha_sh) (Wr : List Nat) (i : Instr) (x y : Nat) (S : ha_S) (st : List ha_V) : Option (List (ha_S × List ha_V)) := match i, st with
  | .getfield _, .inr (.inr (.inl k)) :: r => (match W[k]? with
    | some (.inl (c, fs)) => if c = x then (match fs[y]? with
      | some (.inr q) => some [(S, ha_rf q :: r)]
      | some (.inl q) => ha_ldI S k (ha_kt y) q r
      | none => none) else none
    | _ => none)
  | .putfield _, v :: .inr (.inr (.inl k)) :: r => (match W[k]? with
    | some (.inl (c, fs)) => (match fs[y]?, ha_itv S v with
      | some (.inl q), some p => if c = x ∧ k ∈ Wr ∧ q.1 ≤ p.1 ∧ p.2 ≤ q.2 ∧ (ha_pf x y = 1 ∨ (ha_pf x y = 2 ∧ 0 ≤ p.1 ∧ p.2 ≤ 1)) then some [(ha_memo (ha_drop S k [y]) k (ha_kt y) v, r)] else none
      | _, _ => none)
    | _ => none)
  | .iaload, ix :: .inr (.inr (.inl k)) :: r => (match W[k]? with
    | some (.inr (.inl (n, d, []))) => (match ha_itv S ix with
      | some p => if 0 ≤ p.1 ∧ p.2 < n then ha_ldI S k ix d r else none
      | none => none)
    | some (.inr (.inl (n, d, ex))) => (match ha_pos S ix with
      | some P => if P.all (fun j => decide (j < n)) = true ∧ ha_isI ix = true then ha_ldI S k ix (ha_hull d ex P) r else none
      | none => none)
    | _ => none)
  | .iastore, v :: ix :: .inr (.inr (.inl k)) :: r => (match W[k]? with
    | some (.inr (.inl (n, d, []))) => (match ha_itv S ix, ha_itv S v with
      | some p, some q => if k ∈ Wr ∧ 0 ≤ p.1 ∧ p.2 < n ∧ d.1 ≤ q.1 ∧ q.2 ≤ d.2 then some [(ha_memo (ha_dropA S k) k ix v, r)] else none
      | _, _ => none)
    | some (.inr (.inl (n, d, ex))) => (match ha_pos S ix, ha_itv S v with
      | some P, some q => if k ∈ Wr ∧ ha_isI ix = true ∧ P.all (fun j => decide (j < n) && decide ((ha_ai d ex j).1 ≤ q.1) && decide (q.2 ≤ (ha_ai d ex j).2)) = true then some [(ha_memo (ha_drop S k P) k ix v, r)] else none
      | _, _ => none)
    | _ => none)
  | .aaload, ix :: .inr (.inr (.inl k)) :: r => (match W[k]? with
    | some (.inr (.inr l)) => (match ha_itv S ix with
      | some p => if 0 ≤ p.1 ∧ p.2 < l.length then some ((List.range l.length).filterMap (fun (j : Nat) => (ha_set S ix (max p.1 j) (min p.2 j)).bind (fun S' => (l[j]?).map (fun q => (S', ha_rf q :: r))))) else none
      | none => none)
    | _ => none)
  | _, _ => none
/-- what a step of knowledge has to say of a step over the cells -/
def ha_RM (W : List ha_sh) (Wr : List Nat) (M0 : hzMem) (ρ : Nat → Int32) (S : ha_S) (Rs : List (ha_S × List ha_V)) (c : Option (List Value × hzMem)) : Prop :=
  ∃ R ∈ Rs, ∃ cst' M' ρ', c = some (cst', M') ∧ ha_wok W Wr M0 M' ∧ ha_ex S.1 ρ ρ' ∧ S.1 ≤ R.1.1 ∧ ha_st ρ' R.1.1 R.2 cst' ∧ ha_ok ρ' M' R.1
section HB
variable {W : List ha_sh} {Wr : List Nat} {M0 : hzMem} {ρ : Nat → Int32} {M : hzMem} {S : ha_S} {r : List ha_V} {cst : List Value} {Rs : List (ha_S × List ha_V)}
theorem ha_ldI_ok (h : ha_ok ρ M S) (hw : ha_wok W Wr M0 M) {k : Nat} {i : ha_V} {q : Int × Int} (hr : ha_st ρ S.1 r cst) (hR : ha_ldI S k i q r = some Rs) {z : Int32} (h1 : q.1 ≤ z.toInt) (h2 : z.toInt ≤ q.2)
    (hl : ∀ v, ha_isI v = true → ha_c ρ S.1 M (k, i, v) → ha_i ρ S.1 v z) (hm : ∀ ρ' N' v, ha_ex S.1 ρ ρ' → S.1 ≤ N' → ha_i ρ' N' v z → ha_c ρ' N' M (k, i, v)) : ha_RM W Wr M0 ρ S Rs (some (.int z :: cst, M)) := by
  unfold ha_ldI at hR
  split at hR
  · rename_i v hv
    split at hR
    · rename_i hi
      cases hR
      exact ⟨_, List.mem_singleton.mpr rfl, _, _, ρ, rfl, hw, ha_ex.rf, Nat.le_refl _, ⟨ha_i_v (hl v hi (ha_look_ok h hv)), hr⟩, h⟩
    · cases hR
  · cases hR
    obtain ⟨ρ', ex, hN, hz, ho⟩ := ha_mk_ok h q z h1 h2
    exact ⟨_, List.mem_singleton.mpr rfl, _, _, ρ', rfl, hw, ex, hN, ⟨ha_i_v hz, hr.ex ex hN⟩, ha_memo_ok ho (hm ρ' _ _ ex hN hz)⟩
theorem ha_i_same {N : Nat} {v : ha_V} {x z : Int32} (h : ha_i ρ N v x) (h' : ha_i ρ N v z) : x = z := by
  unfold ha_i at h h'
  split at h
  · exact h.2.trans h'.2.symm
  · exact Int32.toInt.inj (h.trans h'.symm)
  · exact h.elim
theorem ha_itv_in {x : Int32} {n : Nat} (h1 : 0 ≤ x.toInt) (h2 : x.toInt < n) : hz_in x n = true := by
  unfold hz_in
  rw [Bool.and_eq_true, decide_eq_true_eq, decide_eq_true_eq]
  exact ⟨h1, h2⟩
set_option maxHeartbeats 4000000 in
theorem ha_mem_ok (h : ha_ok ρ M S) (hw : ha_wok W Wr M0 M) {i : Instr} {x y : Nat} {st : List ha_V} (hst : ha_st ρ S.1 st cst) (hR : ha_mem W Wr i x y S st = some Rs) : ha_RM W Wr M0 ρ S Rs (hz_mem i x y cst M) := by
  unfold ha_mem at hR
  split at hR
  · -- getfield
    rename_i fi k r
    obtain ⟨v, vs, rfl, hv, hvs⟩ := ha_st_cons hst
    cases hv
    split at hR
    · rename_i c fs hk
      split at hR
      · rename_i hc
        subst hc
        obtain ⟨e, hM, hs⟩ := hw.1 k _ hk
        unfold ha_shp at hs
        split at hs
        · rename_i c2 fs2 c3 ws heq
          cases heq
          obtain ⟨rfl, hlen, hf⟩ := hs
          split at hR
          · rename_i q hq
            cases hR
            have hlt : y < ws.length := by rw [hlen]; exact (List.getElem?_eq_some_iff.mp hq).1
            have hwy : ws[y]? = some ws[y] := List.getElem?_eq_getElem hlt
            have := hf y _ _ hq hwy
            refine ⟨_, List.mem_singleton.mpr rfl, ws[y] :: vs, M, ρ, ?_, hw, ha_ex.rf, Nat.le_refl _, ⟨this, hvs⟩, h⟩
            simp only [hz_mem, hM, if_true, hwy, Option.map_some]
          · rename_i q hq
            have hlt : y < ws.length := by rw [hlen]; exact (List.getElem?_eq_some_iff.mp hq).1
            have hwy : ws[y]? = some ws[y] := List.getElem?_eq_getElem hlt
            obtain ⟨z, hz, z1, z2⟩ := hf y _ _ hq hwy
            have e1 : hz_mem (.getfield fi) c3 y (.ref k :: vs) M = some (.int z :: vs, M) := by
              simp only [hz_mem, hM, if_true, hwy, Option.map_some, hz]
            rw [e1]
            refine ha_ldI_ok h hw hvs hR z1 z2 (fun v hi hc => ?_) (fun ρ' N' v ex hN hv => ?_)
            · unfold ha_c at hc
              dsimp only at hc
              rw [hM] at hc
              obtain ⟨y', w, g1, g2, g3⟩ := hc
              have : y = y' := by
                have g1' : (y : Int) = (y' : Int) := by simpa using g1
                omega
              subst this
              rw [hwy, hz] at g2
              cases g2
              obtain ⟨z', e2, hv⟩ := ha_v_i g3 hi
              cases e2
              exact hv
            · unfold ha_c
              dsimp only
              rw [hM]
              exact ⟨y, .int z, rfl, by rw [hwy, hz], ha_i_v hv⟩
          · cases hR
        · rename_i heq; cases heq
        · rename_i heq; cases heq
        · exact hs.elim
      · cases hR
    · cases hR
  · -- putfield
    rename_i v k r
    obtain ⟨w, ws0, rfl, hv, hvs0⟩ := ha_st_cons hst
    obtain ⟨v2, vs, rfl, hv2, hvs⟩ := ha_st_cons hvs0
    cases hv2
    split at hR
    · rename_i c fs hk
      split at hR
      · rename_i q p hq hp
        split at hR
        · rename_i hc
          obtain ⟨rfl, hkw, c1, c2, c3⟩ := hc
          cases hR
          obtain ⟨z, rfl, hz⟩ := ha_v_i hv (ha_itv_isI hp)
          obtain ⟨p', e1, p1, p2⟩ := ha_itv_ok h hz
          cases hp.symm.trans e1
          obtain ⟨e, hM, hs⟩ := hw.1 k _ hk
          unfold ha_shp at hs
          split at hs
          · rename_i c2' fs2 c3' ws heq
            cases heq
            obtain ⟨rfl, hlen, hf⟩ := hs
            have hlt : y < ws.length := by rw [hlen]; exact (List.getElem?_eq_some_iff.mp hq).1
            have hfit : hz_fit c3' y (.int z) = true := ha_pf_ok (by
              rcases c3 with c3 | ⟨c3, c4, c5⟩
              · exact Or.inl c3
              · exact Or.inr ⟨c3, by omega, by omega⟩)
            have hlk : k < M.length := (List.getElem?_eq_some_iff.mp hM).1
            refine ⟨_, List.mem_singleton.mpr rfl, vs, M.set k (.inr (c3', ws.set y (.int z))), ρ, ?_, ?_, ha_ex.rf, Nat.le_refl _, hvs, ?_⟩
            · simp only [hz_mem, hM, hfit, hlt, and_self, if_true]
            · refine ha_wok_set hw hM hkw (fun sh hsh => ?_)
              cases hk.symm.trans hsh
              refine ⟨rfl, by rw [List.length_set]; exact hlen, fun y' I v' hI hv' => ?_⟩
              by_cases e : y' = y
              · subst e
                cases hq.symm.trans hI
                rw [List.getElem?_set_self hlt] at hv'
                cases hv'
                exact ⟨z, rfl, by omega, by omega⟩
              · rw [List.getElem?_set_ne (fun q => e q.symm)] at hv'
                exact hf y' I v' hI hv'
            · refine ha_memo_ok (ha_drop_ok h hM (List.mem_singleton.mpr rfl) (Or.inl ⟨_, _, _, rfl, rfl⟩)) ?_
              unfold ha_c
              dsimp only
              rw [List.getElem?_set_self hlk]
              exact ⟨y, .int z, rfl, List.getElem?_set_self hlt, ha_i_v hz⟩
          · rename_i heq; cases heq
          · rename_i heq; cases heq
          · exact hs.elim
        · cases hR
      · cases hR
    · cases hR
  · -- iaload
    rename_i ix k r
    obtain ⟨w, ws0, rfl, hv, hvs0⟩ := ha_st_cons hst
    obtain ⟨v2, vs, rfl, hv2, hvs⟩ := ha_st_cons hvs0
    cases hv2
    have key : ∀ (n : Nat) (d : Int × Int) (ex : List (Nat × Int × Int)) (q : Int × Int) (z : Int32), W[k]? = some (.inr (.inl (n, d, ex))) → ha_i ρ S.1 ix z → w = .int z → 0 ≤ z.toInt → z.toInt < n → q.1 ≤ (ha_ai d ex z.toInt.toNat).1 → (ha_ai d ex z.toInt.toNat).2 ≤ q.2 → ha_ldI S k ix q r = some Rs → ha_RM W Wr M0 ρ S Rs (hz_mem .iaload x y (w :: .ref k :: vs) M) := by
      intro n d ex q z hk hz hwz h0 hn q1 q2 hR
      subst hwz
      obtain ⟨e, hM, hs⟩ := hw.1 k _ hk
      unfold ha_shp at hs
      split at hs
      · rename_i heq; cases heq
      · rename_i n2 d2 ex2 t n' f heq
        cases heq
        obtain ⟨rfl, rfl, hf⟩ := hs
        have e1 : hz_mem .iaload x y (.int z :: .ref k :: vs) M = some (.int (f z.toNatClampNeg) :: vs, M) := by
          simp only [hz_mem, hM, ha_itv_in h0 hn, and_self, if_true]
        rw [e1]
        have hfz := hf z.toNatClampNeg (by show z.toInt.toNat < n'; omega)
        refine ha_ldI_ok h hw hvs hR (Int.le_trans q1 hfz.1) (Int.le_trans hfz.2 q2) (fun v hi hc => ?_) (fun ρ' N' v ex hN hv => ?_)
        · unfold ha_c at hc
          dsimp only at hc
          rw [hM] at hc
          obtain ⟨j, g1, g2⟩ := hc
          rw [ha_i_same hz g1]
          exact g2
        · unfold ha_c
          dsimp only
          rw [hM]
          exact ⟨z, hz.ex ex hN, hv⟩
      · rename_i heq; cases heq
      · exact hs.elim
    split at hR
    · rename_i n d hk
      split at hR
      · rename_i p hp
        split at hR
        · rename_i hc
          obtain ⟨z, rfl, hz⟩ := ha_v_i hv (ha_itv_isI hp)
          obtain ⟨p', e1, p1, p2⟩ := ha_itv_ok h hz
          cases hp.symm.trans e1
          exact key n d [] d z hk hz rfl (by omega) (by omega) (Int.le_refl _) (Int.le_refl _) hR
        · cases hR
      · cases hR
    · rename_i n d ex _ hk
      split at hR
      · rename_i P hP
        split at hR
        · rename_i hc
          obtain ⟨z, rfl, hz⟩ := ha_v_i hv hc.2
          obtain ⟨h0, hm⟩ := ha_pos_ok h hz hP
          have hn := of_decide_eq_true (List.all_eq_true.mp hc.1 _ hm)
          obtain ⟨a1, a2⟩ := ha_hull_ok d ex P _ hm
          exact key n d ex _ z hk hz rfl h0 (by omega) a1 a2 hR
        · cases hR
      · cases hR
    · cases hR
  · -- iastore
    rename_i v ix k r
    obtain ⟨cv, ws0, rfl, hv, hvs0⟩ := ha_st_cons hst
    obtain ⟨w, ws1, rfl, hx, hvs1⟩ := ha_st_cons hvs0
    obtain ⟨v2, vs, rfl, hv2, hvs⟩ := ha_st_cons hvs1
    cases hv2
    have key : ∀ (n : Nat) (d : Int × Int) (ex : List (Nat × Int × Int)) (z u : Int32) (S' : ha_S), W[k]? = some (.inr (.inl (n, d, ex))) → k ∈ Wr → ha_i ρ S.1 ix z → w = .int z → ha_i ρ S.1 v u → cv = .int u → 0 ≤ z.toInt → z.toInt < n → (ha_ai d ex z.toInt.toNat).1 ≤ u.toInt → u.toInt ≤ (ha_ai d ex z.toInt.toNat).2 → S'.1 = S.1 → (∀ (t n' : Nat) (f : Nat → Int32), M[k]? = some (.inl (t, n', .inl f)) → ha_ok ρ (M.set k (.inl (t, n', .inl (upd f z.toNatClampNeg u)))) S') → ha_RM W Wr M0 ρ S [(ha_memo S' k ix v, r)] (hz_mem .iastore x y (cv :: w :: .ref k :: vs) M) := by
      intro n d ex z u S' hk hkw hz hwz hu hcu h0 hn u1 u2 hS' hdr
      subst hwz
      subst hcu
      obtain ⟨e, hM, hs⟩ := hw.1 k _ hk
      unfold ha_shp at hs
      split at hs
      · rename_i heq; cases heq
      · rename_i n2 d2 ex2 t n' f heq
        cases heq
        obtain ⟨rfl, rfl, hf⟩ := hs
        have hlk : k < M.length := (List.getElem?_eq_some_iff.mp hM).1
        refine ⟨_, List.mem_singleton.mpr rfl, vs, M.set k (.inl (0, n', .inl (upd f z.toNatClampNeg u))), ρ, ?_, ?_, ha_ex.rf, by show S.1 ≤ S'.1; omega, by show ha_st ρ S'.1 r vs; rw [hS']; exact hvs, ?_⟩
        · simp only [hz_mem, hM, ha_itv_in h0 hn, and_self, if_true]
        · refine ha_wok_set hw hM hkw (fun sh hsh => ?_)
          cases hk.symm.trans hsh
          refine ⟨rfl, rfl, fun j hj => ?_⟩
          show (ha_ai d ex j).1 ≤ (upd f z.toNatClampNeg u j).toInt ∧ (upd f z.toNatClampNeg u j).toInt ≤ (ha_ai d ex j).2
          unfold upd
          split
          · rename_i e
            subst e
            exact ⟨u1, u2⟩
          · exact hf j hj
        · refine ha_memo_ok (hdr _ _ _ hM) ?_
          unfold ha_c
          dsimp only
          rw [List.getElem?_set_self hlk]
          refine ⟨z, by rw [hS']; exact hz, ?_⟩
          rw [show upd f z.toNatClampNeg u z.toNatClampNeg = u from if_pos rfl, hS']
          exact hu
      · rename_i heq; cases heq
      · exact hs.elim
    split at hR
    · rename_i n d hk
      split at hR
      · rename_i p q hp hq
        split at hR
        · rename_i hc
          cases hR
          obtain ⟨z, rfl, hz⟩ := ha_v_i hx (ha_itv_isI hp)
          obtain ⟨u, rfl, hu⟩ := ha_v_i hv (ha_itv_isI hq)
          obtain ⟨p', e1, p1, p2⟩ := ha_itv_ok h hz
          cases hp.symm.trans e1
          obtain ⟨q', e2, q1, q2⟩ := ha_itv_ok h hu
          cases hq.symm.trans e2
          exact key n d [] z u _ hk hc.1 hz rfl hu rfl (by omega) (by omega) (by show d.1 ≤ u.toInt; omega) (by show u.toInt ≤ d.2; omega) rfl (fun t n' f hM => ha_dropA_ok h)
        · cases hR
      · cases hR
    · rename_i n d ex _ hk
      split at hR
      · rename_i P q hP hq
        split at hR
        · rename_i hc
          cases hR
          obtain ⟨z, rfl, hz⟩ := ha_v_i hx hc.2.1
          obtain ⟨u, rfl, hu⟩ := ha_v_i hv (ha_itv_isI hq)
          obtain ⟨q', e2, q1, q2⟩ := ha_itv_ok h hu
          cases hq.symm.trans e2
          obtain ⟨h0, hm⟩ := ha_pos_ok h hz hP
          have hn := List.all_eq_true.mp hc.2.2 _ hm
          simp only [Bool.and_eq_true, decide_eq_true_eq] at hn
          exact key n d ex z u _ hk hc.1 hz rfl hu rfl h0 (by omega) (by omega) (by omega) rfl (fun t n' f hM => ha_drop_ok h hM hm (Or.inr ⟨_, _, _, _, rfl, rfl⟩))
        · cases hR
      · cases hR
    · cases hR
  · -- aaload
    rename_i ix k r
    obtain ⟨w, ws0, rfl, hv, hvs0⟩ := ha_st_cons hst
    obtain ⟨v2, vs, rfl, hv2, hvs⟩ := ha_st_cons hvs0
    cases hv2
    split at hR
    · rename_i lst hk
      split at hR
      · rename_i p hp
        split at hR
        · rename_i hc
          cases hR
          obtain ⟨z, rfl, hz⟩ := ha_v_i hv (ha_itv_isI hp)
          obtain ⟨p', e1, p1, p2⟩ := ha_itv_ok h hz
          cases hp.symm.trans e1
          obtain ⟨e, hM, hs⟩ := hw.1 k _ hk
          unfold ha_shp at hs
          split at hs
          · rename_i heq; cases heq
          · rename_i heq; cases heq
          · rename_i l2 t n' f heq
            cases heq
            obtain ⟨rfl, rfl, hf⟩ := hs
            have hj : z.toInt.toNat < lst.length := by omega
            have hlj : lst[z.toInt.toNat]? = some lst[z.toInt.toNat] := List.getElem?_eq_getElem hj
            obtain ⟨S', g1, g2, g3⟩ := ha_set_ok h hz (lo := max p.1 (z.toInt.toNat : Int)) (hi := min p.2 (z.toInt.toNat : Int)) (by omega) (by omega)
            refine ⟨(S', ha_rf lst[z.toInt.toNat] :: r), List.mem_filterMap.mpr ⟨z.toInt.toNat, List.mem_range.mpr hj, by rw [g1, hlj]; rfl⟩, .ref lst[z.toInt.toNat] :: vs, M, ρ, ?_, hw, ha_ex.rf, by show S.1 ≤ S'.1; omega, ⟨rfl, by show ha_st ρ S'.1 r vs; rw [g2]; exact hvs⟩, g3⟩
            have hfj := hf _ _ hlj
            simp only [hz_mem, hM, ha_itv_in (x := z) (n := lst.length) (by omega) (by omega), and_self, if_true, show z.toNatClampNeg = z.toInt.toNat from rfl, hfj, Option.map_some]
          · exact hs.elim
        · cases hR
      · cases hR
    · cases hR
  · cases hR
end HB
