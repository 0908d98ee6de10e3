/-! THE INTERPRETER ITSELF, and that it is sound -/
theorem ha_st_len {ρ : Nat → Int32} {N : Nat} : ∀ {as : List ha_V} {vs : List Value}, ha_st ρ N as vs → as.length = vs.length
  | [], [], _ => rfl
  | _ :: as, _ :: vs, h => by rw [List.length_cons, List.length_cons, ha_st_len h.2]
  | [], _ :: _, h => h.elim
  | _ :: _, [], h => h.elim
theorem ha_st_take {ρ : Nat → Int32} {N : Nat} : ∀ (y : Nat) {as : List ha_V} {vs : List Value}, ha_st ρ N as vs → ha_st ρ N (as.take y) (vs.take y)
  | 0, _, _, _ => trivial
  | _ + 1, [], [], _ => trivial
  | y + 1, _ :: _, _ :: _, h => ⟨h.1, ha_st_take y h.2⟩
  | _ + 1, [], _ :: _, h => h.elim
  | _ + 1, _ :: _, [], h => h.elim
theorem ha_st_drop {ρ : Nat → Int32} {N : Nat} : ∀ (y : Nat) {as : List ha_V} {vs : List Value}, ha_st ρ N as vs → ha_st ρ N (as.drop y) (vs.drop y)
  | 0, _, _, h => h
  | _ + 1, [], [], _ => trivial
  | y + 1, _ :: as, _ :: vs, h => ha_st_drop y (as := as) (vs := vs) h.2
  | _ + 1, [], _ :: _, h => h.elim
  | _ + 1, _ :: _, [], h => h.elim
theorem ha_st_app {ρ : Nat → Int32} {N : Nat} {bs : List ha_V} {ws : List Value} (hb : ha_st ρ N bs ws) : ∀ {as : List ha_V} {vs : List Value}, ha_st ρ N as vs → ha_st ρ N (as ++ bs) (vs ++ ws)
  | [], [], _ => hb
  | _ :: _, _ :: _, h => ⟨h.1, ha_st_app hb h.2⟩
  | [], _ :: _, h => h.elim
  | _ :: _, [], h => h.elim
theorem ha_st_rev {ρ : Nat → Int32} {N : Nat} : ∀ {as : List ha_V} {vs : List Value}, ha_st ρ N as vs → ha_st ρ N as.reverse vs.reverse
  | [], [], _ => trivial
  | a :: as, v :: vs, h => by
    rw [List.reverse_cons, List.reverse_cons]
    exact ha_st_app (show ha_st ρ N [a] [v] from ⟨h.1, trivial⟩) (ha_st_rev h.2)
  | [], _ :: _, h => h.elim
  | _ :: _, [], h => h.elim
def ha_cA (a : ha_V) : Nat := if ha_isL a = true then 2 else if ha_c1 a = true then 1 else 9
def ha_okA (a : ha_V) : Bool := ha_isL a || ha_c1 a
theorem ha_cA_ok {ρ : Nat → Int32} {N : Nat} {a : ha_V} {v : Value} (h : ha_v ρ N a v) : v.category ≤ ha_cA a := by
  unfold ha_cA
  split
  · rename_i hl
    obtain ⟨x, rfl⟩ := ha_v_l h hl
    exact Nat.le_refl _
  · split
    · rename_i hc
      rw [ha_v_c1 h hc]
      exact Nat.le_refl _
    · cases v <;> simp [Value.category]
theorem ha_sum_ok {ρ : Nat → Int32} {N : Nat} : ∀ {as : List ha_V} {vs : List Value}, ha_st ρ N as vs → (vs.map fun v => v.category).sum ≤ (as.map ha_cA).sum
  | [], [], _ => Nat.le_refl _
  | _ :: _, _ :: _, h => by
    rw [List.map_cons, List.map_cons, List.sum_cons, List.sum_cons]
    exact Nat.add_le_add (ha_cA_ok h.1) (ha_sum_ok h.2)
  | [], _ :: _, h => h.elim
  | _ :: _, [], h => h.elim
def ha_lay : List ha_V → List ha_V
  | [] => []
  | a :: as => if ha_isL a = true then a :: ha_dd :: ha_lay as else a :: ha_lay as
def ha_ent (nL : Nat) (as : List ha_V) : List ha_V := ha_lay as ++ List.replicate (nL - (ha_lay as).length) ha_dd
theorem ha_lay_ok {ρ : Nat → Int32} {N : Nat} : ∀ {as : List ha_V} {vs : List Value}, ha_st ρ N as vs → as.all ha_okA = true → ha_L ρ N (ha_lay as) (hz_lay vs) ∧ (hz_lay vs).length ≤ (as.map ha_cA).sum
  | [], [], _, _ => ⟨⟨rfl, fun j a hj => by simp [ha_lay] at hj⟩, Nat.le_refl _⟩
  | a :: as, v :: vs, h, hk => by
    rw [List.all_cons, Bool.and_eq_true] at hk
    obtain ⟨h1, h2⟩ := ha_lay_ok h.2 hk.2
    rw [ha_lay, hz_lay, List.map_cons, List.sum_cons]
    cases hl : ha_isL a with
    | true =>
      obtain ⟨x, hx⟩ := ha_v_l h.1 hl
      have hc : v.category = 2 := by rw [hx]; rfl
      have hA : ha_cA a = 2 := if_pos hl
      rw [if_pos hc, if_pos rfl, hA]
      exact ⟨ha_L_cons (Or.inr ⟨v, rfl, h.1⟩) (ha_L_cons (Or.inl rfl) h1), by simp only [List.length_cons]; omega⟩
    | false =>
      have hc1 : ha_c1 a = true := by simpa [ha_okA, hl] using hk.1
      have hc : ¬ v.category = 2 := by rw [ha_v_c1 h.1 hc1]; decide
      have hA : ha_cA a = 1 := by unfold ha_cA; rw [hl, if_neg (by decide), if_pos hc1]
      rw [if_neg hc, if_neg (by decide), hA]
      exact ⟨ha_L_cons (Or.inr ⟨v, rfl, h.1⟩) h1, by simp only [List.length_cons]; omega⟩
  | [], _ :: _, h, _ => h.elim
  | _ :: _, [], h, _ => h.elim
theorem ha_ent_ok {ρ : Nat → Int32} {N : Nat} {as : List ha_V} {vs : List Value} (h : ha_st ρ N as vs) (hk : as.all ha_okA = true) (nL : Nat) : ha_L ρ N (ha_ent nL as) (hz_ent nL vs) := by
  obtain ⟨h1, _⟩ := ha_lay_ok h hk
  refine ⟨by unfold ha_ent hz_ent; simp only [List.length_append, List.length_replicate, h1.1], fun j a hj => ?_⟩
  unfold ha_ent at hj
  by_cases q : j < (ha_lay as).length
  · rw [List.getElem?_append_left q] at hj
    rcases h1.2 j a hj with e | ⟨v, e1, e2⟩
    · exact Or.inl e
    · refine Or.inr ⟨v, ?_, e2⟩
      unfold hz_ent
      rw [List.getElem?_append_left (by rw [← h1.1]; exact q)]
      exact e1
  · rw [List.getElem?_append_right (by omega)] at hj
    exact Or.inl (List.mem_replicate.mp (List.mem_of_getElem? hj)).2
def ha_acp (W : List ha_sh) (Wr : List Nat) (S : ha_S) (st : List ha_V) : Option (ha_S × List ha_V) := match st with
  | n :: dp :: .inr (.inr (.inl b)) :: sp :: .inr (.inr (.inl a)) :: r => (match W[a]?, W[b]?, ha_itv S n, ha_itv S dp, ha_itv S sp with
    | some (.inr (.inl (n0, d0, []))), some (.inr (.inl (n1, d1, []))), some pn, some pd, some ps => if b ∈ Wr ∧ 0 ≤ pn.1 ∧ 0 ≤ pd.1 ∧ 0 ≤ ps.1 ∧ ps.2 + pn.2 ≤ n0 ∧ pd.2 + pn.2 ≤ n1 ∧ d1.1 ≤ d0.1 ∧ d0.2 ≤ d1.2 ∧ (r.map ha_cA).sum ≤ 8 then some (ha_dropA S b, r) else none
    | _, _, _, _, _ => none)
  | _ => none
set_option maxHeartbeats 4000000 in
theorem ha_acp_ok {W : List ha_sh} {Wr : List Nat} {M0 : hzMem} {ρ : Nat → Int32} {M : hzMem} {S : ha_S} (h : ha_ok ρ M S) (hw : ha_wok W Wr M0 M) {st : List ha_V} {cst : List Value} (hst : ha_st ρ S.1 st cst) {R : ha_S × List ha_V} (hR : ha_acp W Wr S st = some R) :
    ∃ cst' M', hz_acp cst M = some (cst', M') ∧ ha_wok W Wr M0 M' ∧ R.1.1 = S.1 ∧ ha_st ρ S.1 R.2 cst' ∧ ha_ok ρ M' R.1 := by
  unfold ha_acp at hR
  split at hR
  · rename_i n dp b sp a r
    split at hR
    · rename_i n0 d0 n1 d1 pn pd ps ka kb en ed es
      split at hR
      · rename_i hc
        obtain ⟨c1, c2, c3, c4, c5, c6, c7, c8, c9⟩ := hc
        cases hR
        obtain ⟨v1, r1, rfl, g1, s1⟩ := ha_st_cons hst
        obtain ⟨v2, r2, rfl, g2, s2⟩ := ha_st_cons s1
        obtain ⟨v3, r3, rfl, g3, s3⟩ := ha_st_cons s2
        obtain ⟨v4, r4, rfl, g4, s4⟩ := ha_st_cons s3
        obtain ⟨v5, r5, rfl, g5, s5⟩ := ha_st_cons s4
        obtain ⟨zn, rfl, hn⟩ := ha_v_i g1 (ha_itv_isI en)
        obtain ⟨zd, rfl, hd⟩ := ha_v_i g2 (ha_itv_isI ed)
        obtain ⟨zs, rfl, hs⟩ := ha_v_i g4 (ha_itv_isI es)
        cases g3
        cases g5
        obtain ⟨q1, f1, b1, b2⟩ := ha_itv_ok h hn
        cases en.symm.trans f1
        obtain ⟨q2, f2, b3, b4⟩ := ha_itv_ok h hd
        cases ed.symm.trans f2
        obtain ⟨q3, f3, b5, b6⟩ := ha_itv_ok h hs
        cases es.symm.trans f3
        obtain ⟨ea, hMa, sa⟩ := hw.1 a _ ka
        obtain ⟨eb, hMb, sb⟩ := hw.1 b _ kb
        have fa : ∃ f, ea = .inl (0, n0, .inl f) ∧ ∀ j : Nat, j < n0 → d0.1 ≤ (f j).toInt ∧ (f j).toInt ≤ d0.2 := by
          unfold ha_shp at sa
          split at sa
          · rename_i heq; cases heq
          · rename_i heq
            cases heq
            obtain ⟨rfl, rfl, hf⟩ := sa
            exact ⟨_, rfl, hf⟩
          · rename_i heq; cases heq
          · exact sa.elim
        have fb : ∃ f, eb = .inl (0, n1, .inl f) ∧ ∀ j : Nat, j < n1 → d1.1 ≤ (f j).toInt ∧ (f j).toInt ≤ d1.2 := by
          unfold ha_shp at sb
          split at sb
          · rename_i heq; cases heq
          · rename_i heq
            cases heq
            obtain ⟨rfl, rfl, hf⟩ := sb
            exact ⟨_, rfl, hf⟩
          · rename_i heq; cases heq
          · exact sb.elim
        obtain ⟨f, rfl, hf⟩ := fa
        obtain ⟨g, rfl, hg⟩ := fb
        have nn : ∀ z : Int32, 0 ≤ z.toInt → ¬ z < 0 := fun z hz q => by
          rw [Int32.lt_iff_toInt_lt, Int32.toInt_zero] at q
          omega
        have tn : ∀ z : Int32, z.toNatClampNeg = z.toInt.toNat := fun _ => rfl
        refine ⟨r5, M.set b (.inl (0, n1, .inl (va_cpy f g zs.toNatClampNeg zd.toNatClampNeg zn.toNatClampNeg))), ?_, ?_, rfl, s5, ha_dropA_ok h⟩
        · show (match M[a]?, M[b]? with
            | some (.inl (t, n0, .inl f)), some (.inl (u, n1, .inl g)) => _
            | _, _ => _) = _
          rw [hMa, hMb]
          exact if_pos ⟨rfl, rfl, nn _ (by omega), nn _ (by omega), nn _ (by omega), by rw [tn, tn]; omega, by rw [tn, tn]; omega, Nat.le_trans (ha_sum_ok s5) c9⟩
        · refine ha_wok_set hw hMb c1 (fun sh hsh => ?_)
          cases kb.symm.trans hsh
          refine ⟨rfl, rfl, fun j hj => ?_⟩
          show d1.1 ≤ (va_cpy f g _ _ _ j).toInt ∧ (va_cpy f g _ _ _ j).toInt ≤ d1.2
          unfold va_cpy
          split
          · rename_i hj2
            rw [tn, tn] at hj2
            have := hf (zs.toInt.toNat + (j - zd.toInt.toNat)) (by omega)
            rw [tn, tn]
            omega
          · exact hg j hj
      · cases hR
    · cases hR
  · cases hR
def ha_rcv (W : List ha_sh) (rc : Nat) (As : List ha_V) : Bool := match As with
  | .inr (.inr (.inl q)) :: _ => (match W[q]? with
    | some (.inl (c, _)) => decide (c = rc)
    | _ => false)
  | _ => false
theorem ha_rcv_ok {W : List ha_sh} {M : hzMem} {ρ : Nat → Int32} {N rc : Nat} {As : List ha_V} {cs : List Value} (hi : ha_inv W M) (hst : ha_st ρ N As cs) (h : ha_rcv W rc As = true) : hz_rcv rc cs M = true := by
  cases As with
  | nil => cases h
  | cons a r =>
    obtain ⟨v, vs, rfl, hv, _⟩ := ha_st_cons hst
    match a, h, hv with
    | .inl _, h, _ => cases h
    | .inr (.inl _), h, _ => cases h
    | .inr (.inr (.inr _)), h, _ => cases h
    | .inr (.inr (.inl q)), h, hv =>
      cases hv
      have h : (match W[q]? with
        | some (.inl (c, _)) => decide (c = rc)
        | _ => false) = true := h
      cases hk : W[q]? with
      | none => rw [hk] at h; cases h
      | some sh =>
        obtain ⟨e, hM, hs⟩ := hi q _ hk
        match sh, hk, hs with
        | .inr _, hk, _ => rw [hk] at h; cases h
        | .inl (c, fs), hk, hs =>
          rw [hk] at h
          have h : decide (c = rc) = true := h
          rw [decide_eq_true_eq] at h
          subst h
          match e, hM, hs with
          | .inr (c', ws), hM, hs =>
            obtain ⟨rfl, _⟩ := hs
            simp only [hz_rcv, hM, decide_true]
          | .inl _, hM, hs => exact hs.elim
def ha_resA (S : ha_S) (r : Option ((Int × Int) ⊕ Unit)) : ha_S × Option ha_V := match r with
  | none => (S, none)
  | some (.inl q) => ((ha_mk S q).1, some (ha_mk S q).2)
  | some (.inr _) => (S, some ha_ll1)
theorem ha_resA_ok {ρ : Nat → Int32} {M : hzMem} {S : ha_S} (h : ha_ok ρ M S) {r : Option ((Int × Int) ⊕ Unit)} {rv : Option Value} (hr : ha_resC r rv) : ∃ ρ', ha_ex S.1 ρ ρ' ∧ S.1 ≤ (ha_resA S r).1.1 ∧ ha_rv ρ' (ha_resA S r).1.1 (ha_resA S r).2 rv ∧ ha_ok ρ' M (ha_resA S r).1 := by
  unfold ha_resC at hr
  split at hr
  · exact ⟨ρ, ha_ex.rf, Nat.le_refl _, trivial, h⟩
  · rename_i q v
    obtain ⟨x, rfl, x1, x2⟩ := hr
    obtain ⟨ρ', e, hN, hi, ho⟩ := ha_mk_ok h q x x1 x2
    exact ⟨ρ', e, hN, ha_i_v hi, ho⟩
  · exact ⟨ρ, ha_ex.rf, Nat.le_refl _, hr, h⟩
  · exact hr.elim
abbrev ha_O : Type := Option ha_V × ha_S
def ha_inv1 (rec : List ha_A → Nat → Nat → List ha_V → List ha_V → ha_S → Nat → Option (List ha_O)) (SS : List ha_Y) (W : List ha_sh) (Wr : List Nat) (acts : List ha_A) (virt : Bool) (k pc : Nat) (a : Int) (x y : Nat) (aL st : List ha_V) (S : ha_S) (b : Nat) : Option (List ha_O) :=
  if a = -3 then (match ha_acp W Wr S st with
    | some R => rec acts k (pc + 3) aL R.2 R.1 b
    | none => none)
  else match hzM[x]? with
    | none => none
    | some q =>
      if y ≤ st.length ∧ (if virt = true then ha_rcv W q.2.2.2.2.1 (st.take y).reverse else decide (q.2.2.2.2.1 = 99)) = true ∧ ((st.drop y).map ha_cA).sum ≤ 8 ∧ q.2.2.2.2.2.2.2.1 ≤ b ∧ ((st.take y).map ha_cA).sum ≤ q.2.2.1 ∧ (st.take y).all ha_okA = true then
        match SS.find? (fun Y => Y.1 == x && ha_argsA S Y.2.1 (st.take y).reverse) with
        | some Y => if Y.2.2.2.all (fun j => Wr.contains j) = true then rec acts k (pc + 3) aL ((ha_resA (ha_dropW S Y.2.2.2) Y.2.2.1).2.toList ++ st.drop y) (ha_resA (ha_dropW S Y.2.2.2) Y.2.2.1).1 (b - q.2.2.2.2.2.2.2.1) else none
        | none => if q.2.2.2.2.2.2.2.2.1 ≠ 0 then (match rec [] x 0 (ha_ent q.2.2.1 (st.take y).reverse) [] S q.2.2.2.2.2.2.2.1 with
          | some outs => ha_cat (fun o => rec acts k (pc + 3) aL (o.1.toList ++ st.drop y) o.2 (b - q.2.2.2.2.2.2.2.1)) outs
          | none => none) else none
      else none
def ha_gtr (S : ha_S) (aL : List ha_V) (r : ha_A) : Bool := match aL[r.2.2.2.2.1]? with
  | some a => (match a with
    | .inl s => S.2.2.1.contains (s, r.2.2.2.2.2.1)
    | _ => false) || (match ha_itv S a, ha_itv S (.inl r.2.2.2.2.2.1) with
    | some p, some q => decide (q.2 < p.1)
    | _, _ => false)
  | _ => false
def ha_go (SS : List ha_Y) (H : List ha_H) (W : List ha_sh) (Wr : List Nat) : Nat → List ha_A → Bool → Nat → Nat → List ha_V → List ha_V → ha_S → Nat → Option (List ha_O)
  | 0, _, _, _, _, _, _, _, _ => none
  | n + 1, acts, skip, k, pc, aL, st, S, b => match (if skip = true then none else acts.find? (fun r => r.1 == pc)) with
    | some r => if st = [] ∧ b = r.2.2.2.2.2.2 ∧ ha_bk r.2.1 S r.2.2.2.1 r.2.2.1 aL = true ∧ ha_gtr S aL r = true then some [] else none
    | none => match (if skip = true then none else H.find? (fun h => h.1 == k && (h.2.1 == pc && (ha_gen S (ha_clr S) h.2.2.1 aL).isSome))) with
      | some h => (match ha_gen S (ha_clr S) h.2.2.1 aL with
        | some R => (match R.2[h.2.2.2]?, h.2.2.1[h.2.2.2]? with
          | some (.inl s0), some (some _) => if st = [] then ha_go SS H W Wr n ((pc, S.1, aL, h.2.2.1, h.2.2.2, s0, b) :: acts) true k pc R.2 [] R.1 b else none
          | _, _ => none)
        | none => none)
      | none => match hz_fetch k pc with
        | none => none
        | some (i, a, x, y, _) => match hz_kind i with
          | 0 => (match ha_stk i a S st with
            | some R => ha_go SS H W Wr n acts false k (pc + hz_len i) aL R.2 R.1 b
            | none => none)
          | 1 => (match ha_loc i S aL st with
            | some R => ha_go SS H W Wr n acts false k (pc + hz_len i) R.2.1 R.2.2 R.1 b
            | none => none)
          | 2 => (match ha_br i pc x S st with
            | some Rs => ha_cat (fun R => ha_go SS H W Wr n acts false k R.1 aL R.2.2 R.2.1 b) Rs
            | none => none)
          | 3 => (match ha_mem W Wr i x y S st with
            | some Rs => ha_cat (fun R => ha_go SS H W Wr n acts false k (pc + hz_len i) aL R.2 R.1 b) Rs
            | none => none)
          | 4 => (match hzM[k]? with
            | some q => (ha_ret i q.2.2.2.1 S st).map (fun v => [(v, S)])
            | none => none)
          | 5 => ha_inv1 (fun acts k pc aL st S b => ha_go SS H W Wr n acts false k pc aL st S b) SS W Wr acts true k pc a x y aL st S b
          | 6 => ha_inv1 (fun acts k pc aL st S b => ha_go SS H W Wr n acts false k pc aL st S b) SS W Wr acts false k pc a x y aL st S b
          | _ => none

def ha_act (ext : Nat → List Value → hzMem → Option (Option (Option Value × hzMem))) (W : List ha_sh) (Wr : List Nat) (M0 : hzMem) (ρ : Nat → Int32) (k : Nat) (Post : Option Value → hzMem → Prop) (r : ha_A) : Prop := ∀ (L : List (Option Value)) (M : hzMem), ha_hm ρ r.2.1 r.2.2.2.1 r.2.2.1 L → ha_wok W Wr M0 M → (∃ x : Int32, L[r.2.2.2.2.1]? = some (some (.int x)) ∧ (ρ r.2.2.2.2.2.1).toInt < x.toInt) → ha_RT ext k r.1 L [] M r.2.2.2.2.2.2 Post
def ha_acts (ext : Nat → List Value → hzMem → Option (Option (Option Value × hzMem))) (W : List ha_sh) (Wr : List Nat) (M0 : hzMem) (ρ : Nat → Int32) (N : Nat) (k : Nat) (Post : Option Value → hzMem → Prop) (acts : List ha_A) : Prop := ∀ r ∈ acts, r.2.1 ≤ N ∧ r.2.2.2.2.2.1 < N ∧ ha_act ext W Wr M0 ρ k Post r
theorem ha_acts.ex {ext : Nat → List Value → hzMem → Option (Option (Option Value × hzMem))} {W : List ha_sh} {Wr : List Nat} {M0 : hzMem} {ρ ρ' : Nat → Int32} {N N' k : Nat} {Post : Option Value → hzMem → Prop} {acts : List ha_A} (h : ha_acts ext W Wr M0 ρ N k Post acts) (e : ha_ex N ρ ρ') (hN : N ≤ N') : ha_acts ext W Wr M0 ρ' N' k Post acts := by
  intro r hr
  obtain ⟨h1, h2, h3⟩ := h r hr
  refine ⟨Nat.le_trans h1 hN, Nat.lt_of_lt_of_le h2 hN, fun L M hm hw hx => h3 L M (ha_hm_eq (fun s hs => (e s (Nat.lt_of_lt_of_le hs h1)).symm) hm) hw ?_⟩
  rw [← e _ h2]
  exact hx
theorem ha_hm_get {ρ : Nat → Int32} {N0 : Nat} : ∀ {sp : List (Option (Int × Int))} {as : List ha_V} {L : List (Option Value)}, ha_hm ρ N0 sp as L → ∀ (j : Nat) (q : Int × Int), sp[j]? = some (some q) → ∃ x : Int32, L[j]? = some (some (.int x)) ∧ q.1 ≤ x.toInt ∧ x.toInt ≤ q.2
  | [], [], [], _, j, q, hj => by simp at hj
  | none :: _, _ :: _, _ :: _, h, 0, q, hj => by simp at hj
  | some q0 :: _, _ :: _, _ :: _, h, 0, q, hj => by
    obtain ⟨x, hl, h1, h2⟩ := h.1
    have e : q0 = q := by simpa using hj
    subst e
    exact ⟨x, by rw [hl]; rfl, h1, h2⟩
  | none :: _, _ :: _, _ :: _, h, j + 1, q, hj => ha_hm_get h.2 j q (by simpa using hj)
  | some _ :: _, _ :: _, _ :: _, h, j + 1, q, hj => ha_hm_get h.2 j q (by simpa using hj)
  | [], [], _ :: _, h, _, _, _ => h.elim
  | [], _ :: _, _, h, _, _, _ => by cases h
  | none :: _, [], _, h, _, _, _ => by cases h
  | some _ :: _, [], _, h, _, _, _ => by cases h
  | none :: _, _ :: _, [], h, _, _, _ => by cases h
  | some _ :: _, _ :: _, [], h, _, _, _ => by cases h
/-- what the interpreter's answers have to say: an end that one of them describes -/
def ha_fin (W : List ha_sh) (Wr : List Nat) (M0 : hzMem) (ρ : Nat → Int32) (N : Nat) (Post : Option Value → hzMem → Prop) (outs : List ha_O) : Prop := ∀ o ∈ outs, ∀ (ρ' : Nat → Int32) (rv : Option Value) (M' : hzMem), ha_ex N ρ ρ' → N ≤ o.2.1 → ha_ok ρ' M' o.2 → ha_wok W Wr M0 M' → ha_rv ρ' o.2.1 o.1 rv → Post rv M'
theorem ha_fin.ex {W : List ha_sh} {Wr : List Nat} {M0 : hzMem} {ρ ρ' : Nat → Int32} {N N' : Nat} {Post : Option Value → hzMem → Prop} {outs outs' : List ha_O} (h : ha_fin W Wr M0 ρ N Post outs) (e : ha_ex N ρ ρ') (hN : N ≤ N') (hs : ∀ o ∈ outs', o ∈ outs) : ha_fin W Wr M0 ρ' N' Post outs' :=
  fun o ho ρ2 rv M' e2 hN2 hok hw hrv => h o (hs o ho) ρ2 rv M' (e.tr e2 hN) (Nat.le_trans hN hN2) hok hw hrv
def ha_Snd (ext : Nat → List Value → hzMem → Option (Option (Option Value × hzMem))) (W : List ha_sh) (Wr : List Nat) (acts : List ha_A) (k pc : Nat) (aL st : List ha_V) (S : ha_S) (b : Nat) (outs : List ha_O) : Prop :=
  ∀ (M0 : hzMem) (ρ : Nat → Int32) (L : List (Option Value)) (cst : List Value) (M : hzMem) (Post : Option Value → hzMem → Prop), ha_ok ρ M S → ha_wok W Wr M0 M → ha_L ρ S.1 aL L → ha_st ρ S.1 st cst → ha_fin W Wr M0 ρ S.1 Post outs → ha_acts ext W Wr M0 ρ S.1 k Post acts → ha_RT ext k pc L cst M b Post
