/-! INTERVALS AND SYMBOLS: what a value is known to be; a state of knowledge, and what it says of a valuation of its symbols -/
/-- a symbol of an int; a known int; a cell; a long (true), anything (false) -/
abbrev ha_V : Type := Nat ⊕ (Int ⊕ (Nat ⊕ Bool))
/-- how many symbols; their intervals, the newest first; pairs (a, b): a is above b; (s, a, p, c): s is a times p plus c; (cell, place, value): what is held there -/
abbrev ha_S : Type := Nat × List (Int × Int) × List (Nat × Nat) × List (Nat × Int × Nat × Int) × List (Nat × ha_V × ha_V)
def ha_v (ρ : Nat → Int32) (N : Nat) (a : ha_V) (v : Value) : Prop := match a with
  | .inl s => s < N ∧ v = .int (ρ s)
  | .inr (.inl c) => ∃ x : Int32, v = .int x ∧ x.toInt = c
  | .inr (.inr (.inl k)) => v = .ref k
  | .inr (.inr (.inr true)) => ∃ x : Int64, v = .long x
  | .inr (.inr (.inr false)) => True
/-- an int, known as a -/
def ha_i (ρ : Nat → Int32) (N : Nat) (a : ha_V) (x : Int32) : Prop := match a with
  | .inl s => s < N ∧ x = ρ s
  | .inr (.inl c) => x.toInt = c
  | _ => False
theorem ha_i_v {ρ : Nat → Int32} {N : Nat} {a : ha_V} {x : Int32} (h : ha_i ρ N a x) : ha_v ρ N a (.int x) := by
  unfold ha_i at h
  split at h
  · exact ⟨h.1, by rw [h.2]⟩
  · exact ⟨x, rfl, h⟩
  · exact h.elim
def ha_isI (a : ha_V) : Bool := match a with
  | .inl _ => true
  | .inr (.inl _) => true
  | _ => false
theorem ha_v_i {ρ : Nat → Int32} {N : Nat} {a : ha_V} {v : Value} (h : ha_v ρ N a v) (hi : ha_isI a = true) : ∃ x, v = .int x ∧ ha_i ρ N a x := by
  unfold ha_v at h
  split at h
  · exact ⟨_, h.2, h.1, rfl⟩
  · obtain ⟨x, h1, h2⟩ := h; exact ⟨x, h1, h2⟩
  · cases hi
  · cases hi
  · cases hi
/-- what a cache's entry says of the cells -/
def ha_c (ρ : Nat → Int32) (N : Nat) (M : hzMem) (q : Nat × ha_V × ha_V) : Prop := match M[q.1]? with
  | some (.inr (_, fs)) => ∃ (y : Nat) (w : Value), q.2.1 = .inr (.inl (y : Int)) ∧ fs[y]? = some w ∧ ha_v ρ N q.2.2 w
  | some (.inl (_, _, .inl f)) => ∃ j : Int32, ha_i ρ N q.2.1 j ∧ ha_i ρ N q.2.2 (f j.toNatClampNeg)
  | _ => False
def ha_ok (ρ : Nat → Int32) (M : hzMem) (S : ha_S) : Prop :=
  S.2.1.length = S.1 ∧ (∀ s, s < S.1 → ∃ q, S.2.1[S.1 - 1 - s]? = some q ∧ q.1 ≤ (ρ s).toInt ∧ (ρ s).toInt ≤ q.2) ∧
  (∀ q ∈ S.2.2.1, q.1 < S.1 ∧ q.2 < S.1 ∧ (ρ q.2).toInt < (ρ q.1).toInt) ∧
  (∀ q ∈ S.2.2.2.1, q.1 < S.1 ∧ q.2.2.1 < S.1 ∧ (ρ q.1).toInt = q.2.1 * (ρ q.2.2.1).toInt + q.2.2.2) ∧
  (∀ q ∈ S.2.2.2.2, ha_c ρ S.1 M q)
/-- ρ' goes on from ρ: the same on the first N symbols -/
def ha_ex (N : Nat) (ρ ρ' : Nat → Int32) : Prop := ∀ s, s < N → ρ' s = ρ s
theorem ha_ex.rf {N : Nat} {ρ : Nat → Int32} : ha_ex N ρ ρ := fun _ _ => rfl
theorem ha_ex.tr {N N' : Nat} {a b c : Nat → Int32} (h : ha_ex N a b) (h' : ha_ex N' b c) (hN : N ≤ N') : ha_ex N a c := fun s hs => (h' s (Nat.lt_of_lt_of_le hs hN)).trans (h s hs)
theorem ha_v.ex {N N' : Nat} {ρ ρ' : Nat → Int32} {a : ha_V} {v : Value} (h : ha_v ρ N a v) (e : ha_ex N ρ ρ') (hN : N ≤ N') : ha_v ρ' N' a v := by
  unfold ha_v at h ⊢
  split at h
  · exact ⟨Nat.lt_of_lt_of_le h.1 hN, by rw [e _ h.1]; exact h.2⟩
  · exact h
  · exact h
  · exact h
  · trivial
theorem ha_i.ex {N N' : Nat} {ρ ρ' : Nat → Int32} {a : ha_V} {x : Int32} (h : ha_i ρ N a x) (e : ha_ex N ρ ρ') (hN : N ≤ N') : ha_i ρ' N' a x := by
  unfold ha_i at h ⊢
  split at h
  · exact ⟨Nat.lt_of_lt_of_le h.1 hN, by rw [e _ h.1]; exact h.2⟩
  · exact h
  · exact h.elim
theorem ha_c.ex {N N' : Nat} {ρ ρ' : Nat → Int32} {M : hzMem} {q : Nat × ha_V × ha_V} (h : ha_c ρ N M q) (e : ha_ex N ρ ρ') (hN : N ≤ N') : ha_c ρ' N' M q := by
  unfold ha_c at h ⊢
  split at h
  · obtain ⟨y, w, h1, h2, h3⟩ := h
    exact ⟨y, w, h1, h2, h3.ex e hN⟩
  · obtain ⟨j, h1, h2⟩ := h
    exact ⟨j, h1.ex e hN, h2.ex e hN⟩
  · exact h.elim
def ha_lo : Int := -2147483648
def ha_hi : Int := 2147483647
theorem ha_rng (x : Int32) : ha_lo ≤ x.toInt ∧ x.toInt ≤ ha_hi := ⟨Int32.le_toInt x, by have := Int32.toInt_lt x; unfold ha_hi; omega⟩
/-- the interval of an int -/
def ha_itv (S : ha_S) (a : ha_V) : Option (Int × Int) := match a with
  | .inl s => S.2.1[S.1 - 1 - s]?
  | .inr (.inl c) => some (c, c)
  | _ => none
theorem ha_itv_ok {ρ : Nat → Int32} {M : hzMem} {S : ha_S} (h : ha_ok ρ M S) {a : ha_V} {x : Int32} (ha : ha_i ρ S.1 a x) : ∃ q, ha_itv S a = some q ∧ q.1 ≤ x.toInt ∧ x.toInt ≤ q.2 := by
  unfold ha_i at ha
  split at ha
  · obtain ⟨q, h1, h2, h3⟩ := h.2.1 _ ha.1
    exact ⟨q, h1, by rw [ha.2]; exact h2, by rw [ha.2]; exact h3⟩
  · exact ⟨_, rfl, by rw [ha]; exact Int.le_refl _, by rw [ha]; exact Int.le_refl _⟩
  · exact ha.elim
/-- a new symbol -/
def ha_new (S : ha_S) (q : Int × Int) : ha_S := (S.1 + 1, q :: S.2.1, S.2.2)
theorem ha_new_ok {ρ : Nat → Int32} {M : hzMem} {S : ha_S} (h : ha_ok ρ M S) (q : Int × Int) (x : Int32) (h1 : q.1 ≤ x.toInt) (h2 : x.toInt ≤ q.2) :
    ∃ ρ', ha_ex S.1 ρ ρ' ∧ ρ' S.1 = x ∧ ha_ok ρ' M (ha_new S q) := by
  obtain ⟨hl, hE, hG, hF, hC⟩ := h
  refine ⟨fun s => if s = S.1 then x else ρ s, fun s hs => if_neg (by omega), if_pos rfl, ?_⟩
  have ex : ha_ex S.1 ρ (fun s => if s = S.1 then x else ρ s) := fun s hs => if_neg (by omega)
  refine ⟨by show (q :: S.2.1).length = S.1 + 1; rw [List.length_cons, hl], fun s hs => ?_, fun z hz => ?_, fun z hz => ?_, fun z hz => ?_⟩
  · have hs : s < S.1 + 1 := hs
    by_cases e : s = S.1
    · subst e
      refine ⟨q, ?_, ?_, ?_⟩
      · show (q :: S.2.1)[S.1 + 1 - 1 - S.1]? = some q
        rw [show S.1 + 1 - 1 - S.1 = 0 by omega]
        rfl
      · simpa using h1
      · simpa using h2
    · obtain ⟨z, z1, z2, z3⟩ := hE s (by omega)
      refine ⟨z, ?_, ?_, ?_⟩
      · show (q :: S.2.1)[S.1 + 1 - 1 - s]? = some z
        rw [show S.1 + 1 - 1 - s = (S.1 - 1 - s) + 1 by omega]
        exact z1
      · simpa [e] using z2
      · simpa [e] using z3
  · obtain ⟨a, b, c⟩ := hG z hz
    exact ⟨Nat.lt_succ_of_lt a, Nat.lt_succ_of_lt b, by rw [ex _ a, ex _ b]; exact c⟩
  · obtain ⟨a, b, c⟩ := hF z hz
    exact ⟨Nat.lt_succ_of_lt a, Nat.lt_succ_of_lt b, by rw [ex _ a, ex _ b]; exact c⟩
  · exact (hC z hz).ex ex (Nat.le_succ _)
/-- an int with an interval: a known one if it is one alone -/
def ha_mk (S : ha_S) (q : Int × Int) : ha_S × ha_V := if q.1 = q.2 then (S, .inr (.inl q.1)) else (ha_new S q, .inl S.1)
theorem ha_mk_ok {ρ : Nat → Int32} {M : hzMem} {S : ha_S} (h : ha_ok ρ M S) (q : Int × Int) (x : Int32) (h1 : q.1 ≤ x.toInt) (h2 : x.toInt ≤ q.2) :
    ∃ ρ', ha_ex S.1 ρ ρ' ∧ S.1 ≤ (ha_mk S q).1.1 ∧ ha_i ρ' (ha_mk S q).1.1 (ha_mk S q).2 x ∧ ha_ok ρ' M (ha_mk S q).1 := by
  unfold ha_mk
  split
  · rename_i e
    exact ⟨ρ, ha_ex.rf, Nat.le_refl _, by show x.toInt = q.1; omega, h⟩
  · obtain ⟨ρ', e, hx, ho⟩ := ha_new_ok h q x h1 h2
    exact ⟨ρ', e, Nat.le_succ _, ⟨Nat.lt_succ_self _, hx.symm⟩, ho⟩
/-- an int, of which it is known that it lies between -/
def ha_set (S : ha_S) (a : ha_V) (lo hi : Int) : Option ha_S := match a with
  | .inl s => if lo ≤ hi then some (S.1, S.2.1.set (S.1 - 1 - s) (lo, hi), S.2.2) else none
  | .inr (.inl c) => if lo ≤ c ∧ c ≤ hi then some S else none
  | _ => none
theorem ha_set_ok {ρ : Nat → Int32} {M : hzMem} {S : ha_S} (h : ha_ok ρ M S) {a : ha_V} {x : Int32} (ha : ha_i ρ S.1 a x) {lo hi : Int} (h1 : lo ≤ x.toInt) (h2 : x.toInt ≤ hi) : ∃ S', ha_set S a lo hi = some S' ∧ S'.1 = S.1 ∧ ha_ok ρ M S' := by
  unfold ha_i at ha
  split at ha
  · rename_i s
    refine ⟨(S.1, S.2.1.set (S.1 - 1 - s) (lo, hi), S.2.2), by unfold ha_set; exact if_pos (by omega), rfl, ?_⟩
    obtain ⟨hl, hE, hG, hF, hC⟩ := h
    refine ⟨by show (S.2.1.set _ _).length = S.1; rw [List.length_set, hl], fun t ht => ?_, hG, hF, hC⟩
    have ht : t < S.1 := ht
    have hs := ha.1
    by_cases e : t = s
    · subst e
      refine ⟨(lo, hi), ?_, by rw [← ha.2]; exact h1, by rw [← ha.2]; exact h2⟩
      show (S.2.1.set (S.1 - 1 - t) (lo, hi))[S.1 - 1 - t]? = _
      rw [List.getElem?_set_self (by rw [hl]; omega)]
    · obtain ⟨q, q1, q2, q3⟩ := hE t ht
      refine ⟨q, ?_, q2, q3⟩
      show (S.2.1.set (S.1 - 1 - s) (lo, hi))[S.1 - 1 - t]? = _
      rw [List.getElem?_set_ne (by omega)]
      exact q1
  · rename_i c
    exact ⟨S, by unfold ha_set; exact if_pos ⟨by omega, by omega⟩, rfl, h⟩
  · exact ha.elim
/-- what follows of a < b, of a ≤ b, of a = b, of a ≠ b; none: it can't be -/
def ha_lt (S : ha_S) (a b : ha_V) : Option ha_S := match ha_itv S a, ha_itv S b with
  | some p, some q => (ha_set S a p.1 (min p.2 (q.2 - 1))).bind (fun S' => ha_set S' b (max q.1 (p.1 + 1)) q.2)
  | _, _ => none
def ha_le (S : ha_S) (a b : ha_V) : Option ha_S := match ha_itv S a, ha_itv S b with
  | some p, some q => (ha_set S a p.1 (min p.2 q.2)).bind (fun S' => ha_set S' b (max q.1 p.1) q.2)
  | _, _ => none
def ha_eq (S : ha_S) (a b : ha_V) : Option ha_S := match ha_itv S a, ha_itv S b with
  | some p, some q => (ha_set S a (max p.1 q.1) (min p.2 q.2)).bind (fun S' => ha_set S' b (max p.1 q.1) (min p.2 q.2))
  | _, _ => none
def ha_ne (S : ha_S) (a b : ha_V) : Option ha_S := match ha_itv S a, ha_itv S b with
  | some p, some q => if q.1 = q.2 then ha_set S a (if p.1 = q.1 then p.1 + 1 else p.1) (if p.2 = q.1 then p.2 - 1 else p.2)
    else if p.1 = p.2 then ha_set S b (if q.1 = p.1 then q.1 + 1 else q.1) (if q.2 = p.1 then q.2 - 1 else q.2) else some S
  | _, _ => none
theorem ha_two {ρ : Nat → Int32} {M : hzMem} {S : ha_S} (h : ha_ok ρ M S) {a b : ha_V} {x y : Int32} (ha : ha_i ρ S.1 a x) (hb : ha_i ρ S.1 b y) {l1 h1 l2 h2 : Int} (a1 : l1 ≤ x.toInt) (a2 : x.toInt ≤ h1) (b1 : l2 ≤ y.toInt) (b2 : y.toInt ≤ h2) :
    ∃ S', (ha_set S a l1 h1).bind (fun S' => ha_set S' b l2 h2) = some S' ∧ S'.1 = S.1 ∧ ha_ok ρ M S' := by
  obtain ⟨S1, e1, n1, o1⟩ := ha_set_ok h ha a1 a2
  obtain ⟨S2, e2, n2, o2⟩ := ha_set_ok o1 (a := b) (x := y) (by rw [n1]; exact hb) b1 b2
  exact ⟨S2, by rw [e1]; exact e2, n2.trans n1, o2⟩
theorem ha_lt_ok {ρ : Nat → Int32} {M : hzMem} {S : ha_S} (h : ha_ok ρ M S) {a b : ha_V} {x y : Int32} (ha : ha_i ρ S.1 a x) (hb : ha_i ρ S.1 b y) (hq : x.toInt < y.toInt) : ∃ S', ha_lt S a b = some S' ∧ S'.1 = S.1 ∧ ha_ok ρ M S' := by
  obtain ⟨p, e1, p1, p2⟩ := ha_itv_ok h ha
  obtain ⟨q, e2, q1, q2⟩ := ha_itv_ok h hb
  unfold ha_lt
  rw [e1, e2]
  exact ha_two h ha hb (by omega) (by omega) (by omega) (by omega)
theorem ha_le_ok {ρ : Nat → Int32} {M : hzMem} {S : ha_S} (h : ha_ok ρ M S) {a b : ha_V} {x y : Int32} (ha : ha_i ρ S.1 a x) (hb : ha_i ρ S.1 b y) (hq : x.toInt ≤ y.toInt) : ∃ S', ha_le S a b = some S' ∧ S'.1 = S.1 ∧ ha_ok ρ M S' := by
  obtain ⟨p, e1, p1, p2⟩ := ha_itv_ok h ha
  obtain ⟨q, e2, q1, q2⟩ := ha_itv_ok h hb
  unfold ha_le
  rw [e1, e2]
  exact ha_two h ha hb (by omega) (by omega) (by omega) (by omega)
theorem ha_eq_ok {ρ : Nat → Int32} {M : hzMem} {S : ha_S} (h : ha_ok ρ M S) {a b : ha_V} {x y : Int32} (ha : ha_i ρ S.1 a x) (hb : ha_i ρ S.1 b y) (hq : x.toInt = y.toInt) : ∃ S', ha_eq S a b = some S' ∧ S'.1 = S.1 ∧ ha_ok ρ M S' := by
  obtain ⟨p, e1, p1, p2⟩ := ha_itv_ok h ha
  obtain ⟨q, e2, q1, q2⟩ := ha_itv_ok h hb
  unfold ha_eq
  rw [e1, e2]
  exact ha_two h ha hb (by omega) (by omega) (by omega) (by omega)
theorem ha_ne_ok {ρ : Nat → Int32} {M : hzMem} {S : ha_S} (h : ha_ok ρ M S) {a b : ha_V} {x y : Int32} (ha : ha_i ρ S.1 a x) (hb : ha_i ρ S.1 b y) (hq : x.toInt ≠ y.toInt) : ∃ S', ha_ne S a b = some S' ∧ S'.1 = S.1 ∧ ha_ok ρ M S' := by
  obtain ⟨p, e1, p1, p2⟩ := ha_itv_ok h ha
  obtain ⟨q, e2, q1, q2⟩ := ha_itv_ok h hb
  unfold ha_ne
  rw [e1, e2]
  dsimp only
  split
  · refine ha_set_ok h ha ?_ ?_ <;> split <;> omega
  · split
    · refine ha_set_ok h hb ?_ ?_ <;> split <;> omega
    · exact ⟨S, rfl, rfl, h⟩
/-- a comparison that came out as t -/
def ha_cmp (c : Jvm.ClassFile.Cond) (t : Bool) (S : ha_S) (a b : ha_V) : Option ha_S := match c, t with
  | .eq, true => ha_eq S a b
  | .eq, false => ha_ne S a b
  | .ne, true => ha_ne S a b
  | .ne, false => ha_eq S a b
  | .lt, true => ha_lt S a b
  | .lt, false => ha_le S b a
  | .ge, true => ha_le S b a
  | .ge, false => ha_lt S a b
  | .gt, true => ha_lt S b a
  | .gt, false => ha_le S a b
  | .le, true => ha_le S a b
  | .le, false => ha_lt S b a
theorem ha_cmp_ok {ρ : Nat → Int32} {M : hzMem} {S : ha_S} (h : ha_ok ρ M S) {a b : ha_V} {x y : Int32} (ha : ha_i ρ S.1 a x) (hb : ha_i ρ S.1 b y) {c : Jvm.ClassFile.Cond} {t : Bool} (hc : hz_cmp c x y = t) : ∃ S', ha_cmp c t S a b = some S' ∧ S'.1 = S.1 ∧ ha_ok ρ M S' := by
  have e0 : (x = y) ↔ x.toInt = y.toInt := ⟨fun h => by rw [h], Int32.toInt.inj⟩
  have e1 : (x < y) ↔ x.toInt < y.toInt := Int32.lt_iff_toInt_lt
  have e2 : (y ≤ x) ↔ y.toInt ≤ x.toInt := Int32.le_iff_toInt_le
  have e3 : (y < x) ↔ y.toInt < x.toInt := Int32.lt_iff_toInt_lt
  have e4 : (x ≤ y) ↔ x.toInt ≤ y.toInt := Int32.le_iff_toInt_le
  cases c <;> cases t <;> simp only [hz_cmp, decide_eq_true_eq, decide_eq_false_iff_not, Bool.not_eq_true', Bool.not_eq_false', e0, e1, e2, e3, e4] at hc
  · exact ha_ne_ok h ha hb hc
  · exact ha_eq_ok h ha hb hc
  · exact ha_eq_ok h ha hb hc
  · exact ha_ne_ok h ha hb hc
  · exact ha_le_ok h hb ha (by omega)
  · exact ha_lt_ok h ha hb hc
  · exact ha_lt_ok h ha hb (by omega)
  · exact ha_le_ok h hb ha hc
  · exact ha_le_ok h ha hb (by omega)
  · exact ha_lt_ok h hb ha hc
  · exact ha_lt_ok h hb ha (by omega)
  · exact ha_le_ok h ha hb hc
