/-! THE WORLD's SHAPE: what each cell holds, in which bounds -/
/-- an object: its class, of each field the bounds, or the cell that stands there; a row of ints: its length, bounds, and those of single places; a row of cells -/
abbrev ha_sh : Type := (Nat × List ((Int × Int) ⊕ Nat)) ⊕ ((Nat × (Int × Int) × List (Nat × Int × Int)) ⊕ List Nat)
def ha_ai (d : Int × Int) (ex : List (Nat × Int × Int)) (j : Nat) : Int × Int := match ex.lookup j with
  | some q => q
  | none => d
def ha_fld (I : (Int × Int) ⊕ Nat) (v : Value) : Prop := match I with
  | .inl q => ∃ x : Int32, v = .int x ∧ q.1 ≤ x.toInt ∧ x.toInt ≤ q.2
  | .inr r => v = .ref r
def ha_shp (sh : ha_sh) (e : (Nat × vp_A) ⊕ (Nat × List Value)) : Prop := match sh, e with
  | .inl (c, fs), .inr (c', vs) => c' = c ∧ vs.length = fs.length ∧ ∀ (y : Nat) (I : (Int × Int) ⊕ Nat) (v : Value), fs[y]? = some I → vs[y]? = some v → ha_fld I v
  | .inr (.inl (n, d, ex)), .inl (t, n', .inl f) => t = 0 ∧ n' = n ∧ ∀ j : Nat, j < n → (ha_ai d ex j).1 ≤ (f j).toInt ∧ (f j).toInt ≤ (ha_ai d ex j).2
  | .inr (.inr l), .inl (t, n', .inr (.inr (.inr (.inr f)))) => t = 2 ∧ n' = l.length ∧ ∀ (j r : Nat), l[j]? = some r → f j = some r
  | _, _ => False
def ha_inv (W : List ha_sh) (M : hzMem) : Prop := ∀ (k : Nat) (sh : ha_sh), W[k]? = some sh → ∃ e, M[k]? = some e ∧ ha_shp sh e
/-- the world is well, and outside the told cells as it was -/
def ha_wok (W : List ha_sh) (Wr : List Nat) (M0 M : hzMem) : Prop := ha_inv W M ∧ M.length = M0.length ∧ ∀ j : Nat, j ∉ Wr → M[j]? = M0[j]?
theorem ha_inv_set {W : List ha_sh} {M : hzMem} {k : Nat} {e0 e : (Nat × vp_A) ⊕ (Nat × List Value)} (h : ha_inv W M) (hk : M[k]? = some e0) (he : ∀ sh, W[k]? = some sh → ha_shp sh e) : ha_inv W (M.set k e) := by
  intro j sh hj
  by_cases q : j = k
  · subst q
    exact ⟨e, List.getElem?_set_self (List.getElem?_eq_some_iff.mp hk).1, he sh hj⟩
  · obtain ⟨x, h1, h2⟩ := h j sh hj
    exact ⟨x, by rw [List.getElem?_set_ne (fun z => q z.symm)]; exact h1, h2⟩
theorem ha_wok_set {W : List ha_sh} {Wr : List Nat} {M0 M : hzMem} {k : Nat} {e0 e : (Nat × vp_A) ⊕ (Nat × List Value)} (h : ha_wok W Wr M0 M) (hk : M[k]? = some e0) (hw : k ∈ Wr) (he : ∀ sh, W[k]? = some sh → ha_shp sh e) : ha_wok W Wr M0 (M.set k e) := by
  refine ⟨ha_inv_set h.1 hk he, by rw [List.length_set]; exact h.2.1, fun j hj => ?_⟩
  have hne : k ≠ j := fun z => hj (z ▸ hw)
  rw [List.getElem?_set_ne hne]
  exact h.2.2 j hj
/-- the places that an index may be -/
def ha_pos (S : ha_S) (a : ha_V) : Option (List Nat) := match a with
  | .inr (.inl c) => if 0 ≤ c then some [c.toNat] else none
  | .inl s => match ha_itv S (.inl (ha_af S s).2.1) with
    | some p => if p.2 - p.1 ≤ 200 ∧ 0 ≤ (ha_af S s).1 * p.1 + (ha_af S s).2.2 ∧ 0 ≤ (ha_af S s).1 then some ((List.range (p.2 - p.1 + 1).toNat).map (fun (u : Nat) => ((ha_af S s).1 * (p.1 + (u : Int)) + (ha_af S s).2.2).toNat)) else none
    | none => none
  | _ => none
theorem ha_pos_ok {ρ : Nat → Int32} {M : hzMem} {S : ha_S} (h : ha_ok ρ M S) {a : ha_V} {x : Int32} (ha : ha_i ρ S.1 a x) {P : List Nat} (hP : ha_pos S a = some P) : 0 ≤ x.toInt ∧ x.toInt.toNat ∈ P := by
  unfold ha_pos at hP
  split at hP
  · rename_i c
    split at hP
    · rename_i hc
      cases hP
      have e : x.toInt = c := ha
      exact ⟨by omega, by rw [e]; exact List.mem_singleton.mpr rfl⟩
    · cases hP
  · rename_i s
    obtain ⟨a1, a2⟩ := ha_af_ok h ha.1
    split at hP
    · rename_i p hp
      split at hP
      · rename_i hc
        cases hP
        obtain ⟨p', e1, e2, e3⟩ := ha_itv_ok h (a := .inl (ha_af S s).2.1) (x := ρ (ha_af S s).2.1) ⟨a1, rfl⟩
        cases hp.symm.trans e1
        have hx : x.toInt = (ha_af S s).1 * (ρ (ha_af S s).2.1).toInt + (ha_af S s).2.2 := by rw [ha.2]; exact a2
        have m1 : (ha_af S s).1 * p.1 ≤ (ha_af S s).1 * (ρ (ha_af S s).2.1).toInt := Int.mul_le_mul_of_nonneg_left e2 hc.2.2
        refine ⟨by omega, List.mem_map.mpr ⟨((ρ (ha_af S s).2.1).toInt - p.1).toNat, List.mem_range.mpr (by omega), ?_⟩⟩
        rw [hx, show (p.1 + (((ρ (ha_af S s).2.1).toInt - p.1).toNat : Int)) = (ρ (ha_af S s).2.1).toInt by omega]
      · cases hP
    · cases hP
  · cases hP
def ha_hull (d : Int × Int) (ex : List (Nat × Int × Int)) : List Nat → Int × Int
  | [] => (0, 0)
  | [j] => ha_ai d ex j
  | j :: P => (min (ha_ai d ex j).1 (ha_hull d ex P).1, max (ha_ai d ex j).2 (ha_hull d ex P).2)
theorem ha_hull_ok (d : Int × Int) (ex : List (Nat × Int × Int)) : ∀ (P : List Nat) (j : Nat), j ∈ P → (ha_hull d ex P).1 ≤ (ha_ai d ex j).1 ∧ (ha_ai d ex j).2 ≤ (ha_hull d ex P).2
  | [], j, h => absurd h List.not_mem_nil
  | [i], j, h => by rw [List.mem_singleton] at h; subst h; exact ⟨Int.le_refl _, Int.le_refl _⟩
  | i :: k :: P, j, h => by
    show min _ _ ≤ _ ∧ _ ≤ max _ _
    rcases List.mem_cons.mp h with rfl | h
    · exact ⟨Int.min_le_left _ _, Int.le_max_left _ _⟩
    · obtain ⟨a, b⟩ := ha_hull_ok d ex (k :: P) j h
      exact ⟨Int.le_trans (Int.min_le_right _ _) a, Int.le_trans b (Int.le_max_right _ _)⟩
def ha_look (S : ha_S) (k : Nat) (i : ha_V) : Option ha_V := (S.2.2.2.2.find? (fun q => q.1 == k && decide (q.2.1 = i))).map (fun q => q.2.2)
theorem ha_look_ok {ρ : Nat → Int32} {M : hzMem} {S : ha_S} (h : ha_ok ρ M S) {k : Nat} {i v : ha_V} (hq : ha_look S k i = some v) : ha_c ρ S.1 M (k, i, v) := by
  unfold ha_look at hq
  obtain ⟨q, h1, h2⟩ := Option.map_eq_some_iff.mp hq
  have h3 := List.find?_some h1
  have h4 := List.mem_of_find?_eq_some h1
  rw [Bool.and_eq_true, beq_iff_eq, decide_eq_true_eq] at h3
  obtain ⟨a, b, c⟩ := q
  obtain ⟨e1, e2⟩ := h3
  dsimp only at e1 e2 h2
  subst e1; subst e2; subst h2
  exact h.2.2.2.2 _ h4
def ha_memo (S : ha_S) (k : Nat) (i v : ha_V) : ha_S := (S.1, S.2.1, S.2.2.1, S.2.2.2.1, (k, i, v) :: S.2.2.2.2)
theorem ha_memo_ok {ρ : Nat → Int32} {M : hzMem} {S : ha_S} (h : ha_ok ρ M S) {k : Nat} {i v : ha_V} (hc : ha_c ρ S.1 M (k, i, v)) : ha_ok ρ M (ha_memo S k i v) := by
  obtain ⟨hl, hE, hG, hF, hC⟩ := h
  refine ⟨hl, hE, hG, hF, fun z hz => ?_⟩
  rcases List.mem_cons.mp hz with rfl | hz
  · exact hc
  · exact hC z hz
/-- what stays known when cell k is written at places P -/
def ha_drop (S : ha_S) (k : Nat) (P : List Nat) : ha_S := (S.1, S.2.1, S.2.2.1, S.2.2.2.1, S.2.2.2.2.filter (fun q => !(q.1 == k) || (match q.2.1 with
  | .inr (.inl c) => decide (0 ≤ c) && !P.contains c.toNat
  | _ => false)))
theorem ha_drop_ok {ρ : Nat → Int32} {M : hzMem} {S : ha_S} (h : ha_ok ρ M S) {k j : Nat} {P : List Nat} {e0 e : (Nat × vp_A) ⊕ (Nat × List Value)} (hk : M[k]? = some e0) (hj : j ∈ P)
    (he : (∃ c fs w, e0 = .inr (c, fs) ∧ e = .inr (c, fs.set j w)) ∨ (∃ t n f w, e0 = .inl (t, n, .inl f) ∧ e = .inl (t, n, .inl (upd f j w)))) : ha_ok ρ (M.set k e) (ha_drop S k P) := by
  obtain ⟨hl, hE, hG, hF, hC⟩ := h
  refine ⟨hl, hE, hG, hF, fun z hz => ?_⟩
  obtain ⟨h1, h2⟩ := List.mem_filter.mp hz
  have hc := hC z h1
  show ha_c ρ S.1 (M.set k e) z
  by_cases q : z.1 = k
  · have hkl : k < M.length := (List.getElem?_eq_some_iff.mp hk).1
    simp only [q, beq_self_eq_true, Bool.not_true, Bool.false_or] at h2
    split at h2
    · rename_i c hzc
      rw [Bool.and_eq_true, decide_eq_true_eq, Bool.not_eq_true', List.contains_eq_mem, decide_eq_false_iff_not] at h2
      have hne : c.toNat ≠ j := fun e => h2.2 (e ▸ hj)
      unfold ha_c at hc ⊢
      rw [q] at hc ⊢
      rw [hk] at hc
      rw [List.getElem?_set_self hkl]
      rcases he with ⟨c', fs, w, rfl, rfl⟩ | ⟨t, n, f, w, rfl, rfl⟩
      · obtain ⟨y, w', g1, g2, g3⟩ := hc
        refine ⟨y, w', g1, ?_, g3⟩
        rw [hzc] at g1
        have : c = (y : Int) := by simpa using g1
        rw [List.getElem?_set_ne (by omega)]
        exact g2
      · obtain ⟨i, g1, g2⟩ := hc
        refine ⟨i, g1, ?_⟩
        rw [hzc] at g1
        have g1' : i.toInt = c := g1
        have : i.toNatClampNeg ≠ j := by rw [show i.toNatClampNeg = i.toInt.toNat from rfl, g1']; exact hne
        show ha_i ρ S.1 z.2.2 (upd f j w i.toNatClampNeg)
        unfold upd
        rw [if_neg this]
        exact g2
    · cases h2
  · unfold ha_c at hc ⊢
    rw [List.getElem?_set_ne (fun z => q z.symm)]
    exact hc
/-- a field that may be written: an int's (1), a boolean's (2) -/
def ha_pf (x y : Nat) : Nat := match hzCl[x]? with
  | some (_, T, N) => if y < N ∧ (T y).2.2.2 = false then (match (T y).2.2.1 with
    | "I" => 1
    | "Z" => 2
    | _ => 0) else 0
  | none => 0
theorem ha_pf_ok {x y : Nat} {z : Int32} (h : ha_pf x y = 1 ∨ (ha_pf x y = 2 ∧ 0 ≤ z.toInt ∧ z.toInt ≤ 1)) : hz_fit x y (.int z) = true := by
  have h01 : 0 ≤ z.toInt ∧ z.toInt ≤ 1 → (decide (z = 0) || decide (z = 1)) = true := fun ⟨h1, h2⟩ => by
    by_cases q : z.toInt = 0
    · rw [show z = 0 from Int32.toInt.inj (by rw [q]; rfl)]
      rfl
    · rw [show z = 1 from Int32.toInt.inj (by rw [show z.toInt = 1 by omega]; rfl)]
      rfl
  unfold ha_pf at h
  unfold hz_fit
  cases hc : hzCl[x]? with
  | none =>
    simp only [hc] at h
    rcases h with h | h
    · cases h
    · cases h.1
  | some q =>
    obtain ⟨C, T, N⟩ := q
    simp only [hc] at h
    dsimp only
    by_cases g : y < N ∧ (T y).2.2.2 = false
    · simp only [if_pos g] at h
      simp only [g.1, g.2, decide_true, Bool.not_false, Bool.true_and]
      split at h
      · rename_i e
        rw [e]
        rfl
      · rename_i e
        rw [e]
        rcases h with h | h
        · cases h
        · exact h01 h.2
      · rcases h with h | h
        · cases h
        · cases h.1
    · simp only [if_neg g] at h
      rcases h with h | h
      · cases h
      · cases h.1
