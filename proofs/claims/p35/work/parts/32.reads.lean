/-! BY HAND: what the reference reads of a street's row, told exactly; the reference's street -/
section HE
variable {ext : Nat → List Value → hzMem → Option (Option (Option Value × hzMem))}
abbrev hm_f47 : List ((Int × Int) ⊕ Nat) := [.inr 48, .inr 49, .inr 50, .inr 51, .inl (0, 1), .inl (0, 100), .inl (0, 700), .inl (0, 100), .inr 52, .inl ((-2147483648), 2147483647), .inr 53, .inr 54, .inr 55, .inr 56, .inr 57, .inr 58, .inl ((-2147483648), 2147483647)]
theorem hm_W47 : hw_W[47]? = some (.inl (3, hm_f47)) := rfl
theorem hm_shps {c : Nat} {fs : List ((Int × Int) ⊕ Nat)} {vs : List Value} {y : Nat} {lo hi : Int} {q : Int32} (h : ha_shp (.inl (c, fs)) (.inr (c, vs))) (hy : fs[y]? = some (.inl (lo, hi))) (h1 : lo ≤ q.toInt) (h2 : q.toInt ≤ hi) : ha_shp (.inl (c, fs)) (.inr (c, vs.set y (.int q))) := by
  obtain ⟨_, l, g⟩ := h
  refine ⟨rfl, by rw [List.length_set]; exact l, fun z I v hz hv => ?_⟩
  by_cases e : z = y
  · subst e
    cases hz.symm.trans hy
    have hl : z < vs.length := by rw [l]; exact (List.getElem?_eq_some_iff.mp hy).1
    rw [List.getElem?_set_self hl] at hv
    cases hv
    exact ⟨q, rfl, h1, h2⟩
  · rw [List.getElem?_set_ne (fun w => e w.symm)] at hv
    exact g z I v hz hv
theorem hm_sf {c : Nat} {fs : List ((Int × Int) ⊕ Nat)} {vs : List Value} {y r : Nat} (h : ha_shp (.inl (c, fs)) (.inr (c, vs))) (hy : fs[y]? = some (.inr r)) : vs[y]? = some (.ref r) := by
  obtain ⟨_, l, g⟩ := h
  have hl : y < vs.length := by rw [l]; exact (List.getElem?_eq_some_iff.mp hy).1
  have e := List.getElem?_eq_getElem hl
  rw [e, show vs[y] = .ref r from g y _ _ hy e]
theorem hm_si {c : Nat} {fs : List ((Int × Int) ⊕ Nat)} {vs : List Value} {y : Nat} {lo hi : Int} (h : ha_shp (.inl (c, fs)) (.inr (c, vs))) (hy : fs[y]? = some (.inl (lo, hi))) : ∃ q : Int32, vs[y]? = some (.int q) ∧ lo ≤ q.toInt ∧ q.toInt ≤ hi := by
  obtain ⟨_, l, g⟩ := h
  have hl : y < vs.length := by rw [l]; exact (List.getElem?_eq_some_iff.mp hy).1
  have e := List.getElem?_eq_getElem hl
  obtain ⟨q, h1, h2, h3⟩ := g y _ _ hy e
  exact ⟨q, by rw [e, h1], h2, h3⟩
theorem hm_sib {c : Nat} {fs : List ((Int × Int) ⊕ Nat)} {vs : List Value} {y : Nat} {lo hi : Int} {q : Int32} (h : ha_shp (.inl (c, fs)) (.inr (c, vs))) (hy : fs[y]? = some (.inl (lo, hi))) (hv : vs[y]? = some (.int q)) : lo ≤ q.toInt ∧ q.toInt ≤ hi := by
  obtain ⟨x, h1, h2⟩ := hm_si h hy
  cases h1.symm.trans hv
  exact h2
abbrev hm_Ws : List Nat := [47, 48, 51, 52]
/-- the world is well; the reference's place, row's begin and row's end, and its elements, are told -/
def hm_T (M0 : hzMem) (f : Nat → Int32) (ra en p : Int32) (M : hzMem) : Prop := ha_wok hw_W hm_Ws M0 M ∧ (∃ vs, M[47]? = some (.inr (3, vs)) ∧ ha_shp (.inl (3, hm_f47)) (.inr (3, vs)) ∧ vs[5]? = some (.int p) ∧ vs[6]? = some (.int ra) ∧ vs[7]? = some (.int en)) ∧ M[58]? = some (.inl (0, 800, .inl f))
theorem hm_Ti {M0 M : hzMem} (hw : ha_wok hw_W hm_Ws M0 M) : ∃ f ra en p, hm_T M0 f ra en p M := by
  obtain ⟨e, hM, hs⟩ := hw.1 47 _ hm_W47
  obtain ⟨f, hF, _⟩ := hm_ints hw.1 (k := 58) (n := 800) (q := ((-2147483648), 2147483647)) rfl
  match e, hM, hs with
  | .inr (c, vs), hM, hs =>
    obtain ⟨rfl, h2⟩ := hs
    have hs : ha_shp (.inl (3, hm_f47)) (.inr (3, vs)) := ⟨rfl, h2⟩
    obtain ⟨p, h5, _⟩ := hm_si hs (y := 5) rfl
    obtain ⟨ra, h6, _⟩ := hm_si hs (y := 6) rfl
    obtain ⟨en, h7, _⟩ := hm_si hs (y := 7) rfl
    exact ⟨f, ra, en, p, hw, ⟨vs, hM, hs, h5, h6, h7⟩, hF⟩
  | .inl _, _, hs => exact hs.elim
theorem hm_Tb {M0 M : hzMem} {f : Nat → Int32} {ra en p : Int32} (h : hm_T M0 f ra en p M) : (0 ≤ p.toInt ∧ p.toInt ≤ 100) ∧ (0 ≤ ra.toInt ∧ ra.toInt ≤ 700) ∧ (0 ≤ en.toInt ∧ en.toInt ≤ 100) := by
  obtain ⟨_, ⟨vs, _, hs, h5, h6, h7⟩, _⟩ := h
  exact ⟨hm_sib hs rfl h5, hm_sib hs rfl h6, hm_sib hs rfl h7⟩
theorem hm_Tr {M0 M : hzMem} {f : Nat → Int32} {ra en p : Int32} (h : hm_T M0 f ra en p M) (l : List Value) : hz_rcv 3 (.ref 47 :: l) M = true := by
  obtain ⟨_, ⟨vs, hO, _⟩, _⟩ := h
  simp [hz_rcv, hO]
theorem hm_T5 {M0 M : hzMem} {f : Nat → Int32} {ra en p q : Int32} (h : hm_T M0 f ra en p M) (q0 : 0 ≤ q.toInt) (q1 : q.toInt ≤ 100) (i : Nat) (r : List Value) : ∃ M', hz_mem (.putfield i) 3 5 (.int q :: .ref 47 :: r) M = some (r, M') ∧ hm_T M0 f ra en q M' ∧ M'[52]? = M[52]? := by
  obtain ⟨hw, ⟨vs, hO, hs, h5, h6, h7⟩, hE⟩ := h
  have l : vs.length = 17 := hs.2.1
  have hf : hz_fit 3 5 (.int q) = true := rfl
  have hs' := hm_shps hs (y := 5) (lo := 0) (hi := 100) rfl q0 q1
  refine ⟨M.set 47 (.inr (3, vs.set 5 (.int q))), by simp [hz_mem, hO, hf, l], ⟨ha_wok_set hw hO (by decide) ?_, ⟨vs.set 5 (.int q), List.getElem?_set_self (List.getElem?_eq_some_iff.mp hO).1, hs', ?_, ?_, ?_⟩, ?_⟩, ?_⟩
  · intro sh hsh
    cases hm_W47.symm.trans hsh
    exact hs'
  · exact List.getElem?_set_self (by omega)
  · rw [List.getElem?_set_ne (by decide)]; exact h6
  · rw [List.getElem?_set_ne (by decide)]; exact h7
  · rw [List.getElem?_set_ne (by decide)]; exact hE
  · rw [List.getElem?_set_ne (by decide)]
theorem hm_T6 {M0 M : hzMem} {f : Nat → Int32} {ra en p q : Int32} (h : hm_T M0 f ra en p M) (q0 : 0 ≤ q.toInt) (q1 : q.toInt ≤ 700) (i : Nat) (r : List Value) : ∃ M', hz_mem (.putfield i) 3 6 (.int q :: .ref 47 :: r) M = some (r, M') ∧ hm_T M0 f q en p M' ∧ M'[52]? = M[52]? := by
  obtain ⟨hw, ⟨vs, hO, hs, h5, h6, h7⟩, hE⟩ := h
  have l : vs.length = 17 := hs.2.1
  have hf : hz_fit 3 6 (.int q) = true := rfl
  have hs' := hm_shps hs (y := 6) (lo := 0) (hi := 700) rfl q0 q1
  refine ⟨M.set 47 (.inr (3, vs.set 6 (.int q))), by simp [hz_mem, hO, hf, l], ⟨ha_wok_set hw hO (by decide) ?_, ⟨vs.set 6 (.int q), List.getElem?_set_self (List.getElem?_eq_some_iff.mp hO).1, hs', ?_, ?_, ?_⟩, ?_⟩, ?_⟩
  · intro sh hsh
    cases hm_W47.symm.trans hsh
    exact hs'
  · rw [List.getElem?_set_ne (by decide)]; exact h5
  · exact List.getElem?_set_self (by omega)
  · rw [List.getElem?_set_ne (by decide)]; exact h7
  · rw [List.getElem?_set_ne (by decide)]; exact hE
  · rw [List.getElem?_set_ne (by decide)]
theorem hm_T7 {M0 M : hzMem} {f : Nat → Int32} {ra en p q : Int32} (h : hm_T M0 f ra en p M) (q0 : 0 ≤ q.toInt) (q1 : q.toInt ≤ 100) (i : Nat) (r : List Value) : ∃ M', hz_mem (.putfield i) 3 7 (.int q :: .ref 47 :: r) M = some (r, M') ∧ hm_T M0 f ra q p M' ∧ M'[52]? = M[52]? := by
  obtain ⟨hw, ⟨vs, hO, hs, h5, h6, h7⟩, hE⟩ := h
  have l : vs.length = 17 := hs.2.1
  have hf : hz_fit 3 7 (.int q) = true := rfl
  have hs' := hm_shps hs (y := 7) (lo := 0) (hi := 100) rfl q0 q1
  refine ⟨M.set 47 (.inr (3, vs.set 7 (.int q))), by simp [hz_mem, hO, hf, l], ⟨ha_wok_set hw hO (by decide) ?_, ⟨vs.set 7 (.int q), List.getElem?_set_self (List.getElem?_eq_some_iff.mp hO).1, hs', ?_, ?_, ?_⟩, ?_⟩, ?_⟩
  · intro sh hsh
    cases hm_W47.symm.trans hsh
    exact hs'
  · rw [List.getElem?_set_ne (by decide)]; exact h5
  · rw [List.getElem?_set_ne (by decide)]; exact h6
  · exact List.getElem?_set_self (by omega)
  · rw [List.getElem?_set_ne (by decide)]; exact hE
  · rw [List.getElem?_set_ne (by decide)]
theorem hm_T52 {M0 M : hzMem} {f g : Nat → Int32} {ra en p v : Int32} (h : hm_T M0 f ra en p M) (hN : M[52]? = some (.inl (0, 3, .inl g))) (hb : ∀ j : Nat, j < 3 → 0 ≤ (g j).toInt ∧ (g j).toInt ≤ 99) (v0 : 0 ≤ v.toInt) (v1 : v.toInt ≤ 99) (j : Nat) : hm_T M0 f ra en p (M.set 52 (.inl (0, 3, .inl (upd g j v)))) ∧ (M.set 52 (.inl (0, 3, .inl (upd g j v))))[52]? = some (.inl (0, 3, .inl (upd g j v))) ∧ ∀ i : Nat, i < 3 → 0 ≤ (upd g j v i).toInt ∧ (upd g j v i).toInt ≤ 99 := by
  obtain ⟨hw, ⟨vs, hO, h2⟩, hE⟩ := h
  have hg : ∀ i : Nat, i < 3 → 0 ≤ (upd g j v i).toInt ∧ (upd g j v i).toInt ≤ 99 := by
    intro i hi
    unfold upd
    split
    · exact ⟨v0, v1⟩
    · exact hb i hi
  refine ⟨⟨ha_wok_set hw hN (by decide) ?_, ⟨vs, by rw [List.getElem?_set_ne (by decide)]; exact hO, h2⟩, by rw [List.getElem?_set_ne (by decide)]; exact hE⟩, List.getElem?_set_self (List.getElem?_eq_some_iff.mp hN).1, hg⟩
  intro sh hsh
  cases (show hw_W[52]? = some (.inr (.inl (3, (0, 99), []))) from rfl).symm.trans hsh
  exact ⟨rfl, rfl, hg⟩
theorem hm_wtr {Wr1 Wr2 : List Nat} {M0 M1 M2 : hzMem} (h1 : ha_wok hw_W Wr1 M0 M1) (h2 : ha_wok hw_W Wr2 M1 M2) (hs : ∀ j ∈ Wr2, j ∈ Wr1) : ha_wok hw_W Wr1 M0 M2 :=
  ⟨h2.1, h2.2.1.trans h1.2.1, fun j hj => (h2.2.2 j (fun q => hj (hs j q))).trans (h1.2.2 j hj)⟩
theorem hm_Tw {M0 M M' : hzMem} {f : Nat → Int32} {ra en p : Int32} {Wr : List Nat} (h : hm_T M0 f ra en p M) (h2 : ha_wok hw_W Wr M M') (hs : ∀ j ∈ Wr, j ∈ hm_Ws) (h47 : 47 ∉ Wr) (h58 : 58 ∉ Wr) : hm_T M0 f ra en p M' := by
  obtain ⟨hw, ⟨vs, hO, h3⟩, hE⟩ := h
  exact ⟨hm_wtr hw h2 hs, ⟨vs, (h2.2.2 47 h47).trans hO, h3⟩, (h2.2.2 58 h58).trans hE⟩
/-- the byte at the place -/
def hm_h (f : Nat → Int32) (ra en p : Int32) : Int32 := if en.toInt ≤ p.toInt then Int32.ofInt (-1) else f (ra + p).toNatClampNeg &&& Int32.ofInt 255
def hm_bi (b : Bool) : Int32 := if b then Int32.ofInt 1 else Int32.ofInt 0
def hm_rN (f : Nat → Int32) (ra en : Int32) : Nat → Int32 → Bool × Int32
  | 0, p => (true, p)
  | m + 1, p => if 48 ≤ (hm_h f ra en p).toInt ∧ (hm_h f ra en p).toInt ≤ 57 then hm_rN f ra en m (p + Int32.ofInt 1) else (false, p)
def hm_rL (f : Nat → Int32) (ra en : Int32) : List Nat → Int32 → Bool × Int32
  | [], p => (true, p)
  | m :: l, p => if (hm_rN f ra en m p).1 = true then hm_rL f ra en l (hm_rN f ra en m p).2 else (false, (hm_rN f ra en m p).2)
def hm_fin (f : Nat → Int32) (ra en : Int32) (r : Bool × Int32) : Bool × Int32 := if r.1 = true ∧ (hm_h f ra en r.2).toInt = 59 then (true, r.2 + Int32.ofInt 1) else (false, r.2)
def hm_ls (c : Int32) : List Nat := if c.toInt = 112 ∨ c.toInt = 119 then [2, 1] else if c.toInt = 104 then [1, 1, 1] else if c.toInt = 105 then [1, 1] else if c.toInt = 108 ∨ c.toInt = 116 then [2] else []
def hm_rS (f : Nat → Int32) (ra en p : Int32) : Bool × Int32 := if hm_ls (hm_h f ra en p) = [] then (false, p) else hm_fin f ra en (hm_rL f ra en (hm_ls (hm_h f ra en p)) (p + Int32.ofInt 1))
theorem hm_p1 {p : Int32} (p0 : 0 ≤ p.toInt) (p1 : p.toInt ≤ 99) : (p + Int32.ofInt 1).toInt = p.toInt + 1 := by
  rw [Int32.toInt_add, show (Int32.ofInt 1).toInt = 1 from rfl]
  exact ha_bm (by unfold ha_lo; omega) (by unfold ha_hi; omega)
theorem hm_hlt {f : Nat → Int32} {ra en p : Int32} (h : (hm_h f ra en p).toInt ≠ -1) : p.toInt < en.toInt := by
  unfold hm_h at h
  split at h
  · exact absurd rfl h
  · omega
theorem hm_rNb {f : Nat → Int32} {ra en : Int32} (e1 : en.toInt ≤ 100) : ∀ (m : Nat) (p : Int32), 0 ≤ p.toInt → p.toInt ≤ 100 → p.toInt ≤ (hm_rN f ra en m p).2.toInt ∧ (hm_rN f ra en m p).2.toInt ≤ 100 := by
  intro m
  induction m with
  | zero => intro p h0 h1; exact ⟨Int.le_refl _, h1⟩
  | succ m ih =>
    intro p h0 h1
    unfold hm_rN
    split
    · rename_i h
      have := hm_hlt (f := f) (ra := ra) (en := en) (p := p) (by omega)
      have e := hm_p1 h0 (by omega)
      have := ih (p + Int32.ofInt 1) (by omega) (by omega)
      omega
    · exact ⟨Int.le_refl _, h1⟩
theorem hm_rLb {f : Nat → Int32} {ra en : Int32} (e1 : en.toInt ≤ 100) : ∀ (l : List Nat) (p : Int32), 0 ≤ p.toInt → p.toInt ≤ 100 → p.toInt ≤ (hm_rL f ra en l p).2.toInt ∧ (hm_rL f ra en l p).2.toInt ≤ 100 := by
  intro l
  induction l with
  | nil => intro p h0 h1; exact ⟨Int.le_refl _, h1⟩
  | cons m l ih =>
    intro p h0 h1
    have h2 := hm_rNb (f := f) (ra := ra) e1 m p h0 h1
    unfold hm_rL
    split
    · have := ih (hm_rN f ra en m p).2 (by omega) (by omega)
      omega
    · exact h2
theorem hm_rSb {f : Nat → Int32} {ra en p : Int32} (e1 : en.toInt ≤ 100) (p0 : 0 ≤ p.toInt) (p1 : p.toInt ≤ 99) (h : (hm_rS f ra en p).1 = true) : p.toInt < (hm_rS f ra en p).2.toInt ∧ (hm_rS f ra en p).2.toInt ≤ 100 := by
  have e := hm_p1 p0 p1
  unfold hm_rS at h ⊢
  split at h
  · cases h
  · rename_i h0
    rw [if_neg h0]
    have h3 := hm_rLb (f := f) (ra := ra) e1 (hm_ls (hm_h f ra en p)) (p + Int32.ofInt 1) (by omega) (by omega)
    generalize hm_rL f ra en (hm_ls (hm_h f ra en p)) (p + Int32.ofInt 1) = r at h h3 ⊢
    unfold hm_fin at h ⊢
    split at h
    · rename_i h4
      rw [if_pos h4]
      have h5 := hm_hlt (f := f) (ra := ra) (en := en) (p := r.2) (by omega)
      have h6 := hm_p1 (p := r.2) (by omega) (by omega)
      show _ < (r.2 + Int32.ofInt 1).toInt ∧ (r.2 + Int32.ofInt 1).toInt ≤ 100
      omega
    · cases h
theorem hm_bie (b : Bool) : hz_cmp .eq (hm_bi b) 0 = !b := by cases b <;> rfl
theorem hm_bin (b : Bool) : hz_cmp .ne (hm_bi b) 0 = b := by cases b <;> rfl
theorem hm_nic {j : Int32} {n : Nat} (h0 : 0 ≤ j.toInt) (h1 : j.toInt < n) : j.toNatClampNeg < n := by
  show j.toInt.toNat < n
  omega
set_option maxRecDepth 10000 in
theorem hm_ex70 (hn : hm_no ext) (x lo hi : Int32) (M : hzMem) : ∃ n, ha_C ext n 70 [.int x, .int lo, .int hi] M 3 0 = some (some (.int (hm_bi (decide (lo.toInt ≤ x.toInt ∧ x.toInt ≤ hi.toInt)))), M) := by
  have key : ha_RT ext 70 0 [some (.int x), some (.int lo), some (.int hi)] [] M 0 (fun rv M' => M' = M ∧ rv = some (.int (hm_bi (decide (lo.toInt ≤ x.toInt ∧ x.toInt ≤ hi.toInt))))) := by
    have no : ¬ (lo.toInt ≤ x.toInt ∧ x.toInt ≤ hi.toInt) → ha_RT ext 70 14 [some (.int x), some (.int lo), some (.int hi)] [] M 0 (fun rv M' => M' = M ∧ rv = some (.int (hm_bi (decide (lo.toInt ≤ x.toInt ∧ x.toInt ≤ hi.toInt))))) := by
      intro h
      refine ha_RT_sN [15] (pc' := 15) (L' := [some (.int x), some (.int lo), some (.int hi)]) (st' := [.int (Int32.ofInt 0)]) rfl rfl ?_
      refine ha_RT_ret (rv := some (.int (Int32.ofInt 0))) rfl rfl rfl rfl ⟨rfl, ?_⟩
      rw [decide_eq_false h]
      rfl
    refine ha_RT_sN [1, 2] (pc' := 2) (L' := [some (.int x), some (.int lo), some (.int hi)]) (st' := [.int lo, .int x]) rfl rfl ?_
    refine ha_RT_ic rfl (fun h1 => no ?_) (fun h1 => ?_)
    · simp only [hz_cmp, decide_eq_true_eq, Int32.lt_iff_toInt_lt] at h1
      omega
    show ha_RT ext 70 5 _ _ _ _ _
    refine ha_RT_sN [6, 7] (pc' := 7) (L' := [some (.int x), some (.int lo), some (.int hi)]) (st' := [.int hi, .int x]) rfl rfl ?_
    refine ha_RT_ic rfl (fun h2 => no ?_) (fun h2 => ?_)
    · simp only [hz_cmp, decide_eq_true_eq, Int32.lt_iff_toInt_lt] at h2
      omega
    show ha_RT ext 70 10 _ _ _ _ _
    refine ha_RT_sN [11, 15] (pc' := 15) (L' := [some (.int x), some (.int lo), some (.int hi)]) (st' := [.int (Int32.ofInt 1)]) rfl rfl ?_
    simp only [hz_cmp, decide_eq_false_iff_not, Int32.lt_iff_toInt_lt] at h1 h2
    refine ha_RT_ret (rv := some (.int (Int32.ofInt 1))) rfl rfl rfl rfl ⟨rfl, ?_⟩
    rw [decide_eq_true (show lo.toInt ≤ x.toInt ∧ x.toInt ≤ hi.toInt from ⟨by omega, by omega⟩)]
    rfl
  obtain ⟨n, rv, M', h1, rfl, rfl⟩ := key
  exact ⟨n, hm_toC hn (q := hzq_70) rfl (by decide) h1⟩
set_option maxRecDepth 10000 in
theorem hm_c100 (hn : hm_no ext) {M0 M : hzMem} {f : Nat → Int32} {ra en p : Int32} (hT : hm_T M0 f ra en p M) : ∃ n, ha_C ext n 100 [.ref 47] M 1 0 = some (some (.int (hm_h f ra en p)), M) := by
  obtain ⟨⟨p0, p1⟩, ⟨r0, r1⟩, e0, e1⟩ := hm_Tb hT
  obtain ⟨hw, ⟨vs, hO, hs, h5, h6, h7⟩, hE⟩ := hT
  have h15 := hm_sf hs (y := 15) (r := 58) rfl
  have q1 : (ra + p).toInt = ra.toInt + p.toInt := by
    rw [Int32.toInt_add]
    exact ha_bm (by unfold ha_lo; omega) (by unfold ha_hi; omega)
  have key : ha_RT ext 100 0 [some (.ref 47)] [] M 0 (fun rv M' => rv = some (.int (hm_h f ra en p)) ∧ M' = M) := by
    refine ha_RT_sN [1] (pc' := 1) (L' := [some (.ref 47)]) (st' := [.ref 47]) rfl rfl ?_
    refine ha_RT_mem rfl rfl (hm_rd hO h5 _ _) ?_
    show ha_RT ext 100 4 _ _ _ _ _
    refine ha_RT_sN [5] (pc' := 5) (L' := [some (.ref 47)]) (st' := [.ref 47, .int p]) rfl rfl ?_
    refine ha_RT_mem rfl rfl (hm_rd hO h7 _ _) ?_
    show ha_RT ext 100 8 _ _ _ _ _
    refine ha_RT_ic rfl (fun h1 => ?_) (fun h1 => ?_)
    · show ha_RT ext 100 32 _ _ _ _ _
      refine ha_RT_sN [33] (pc' := 33) (L' := [some (.ref 47)]) (st' := [.int (Int32.ofInt (-1))]) rfl rfl ?_
      simp only [hz_cmp, decide_eq_true_eq, Int32.le_iff_toInt_le] at h1
      refine ha_RT_ret (rv := some (.int (Int32.ofInt (-1)))) rfl rfl rfl rfl ⟨?_, rfl⟩
      unfold hm_h
      rw [if_pos h1]
    show ha_RT ext 100 11 _ _ _ _ _
    simp only [hz_cmp, decide_eq_false_iff_not, Int32.le_iff_toInt_le] at h1
    refine ha_RT_sN [12] (pc' := 12) (L' := [some (.ref 47)]) (st' := [.ref 47]) rfl rfl ?_
    refine ha_RT_mem rfl rfl (hm_rd hO h15 _ _) ?_
    show ha_RT ext 100 15 _ _ _ _ _
    refine ha_RT_sN [16] (pc' := 16) (L' := [some (.ref 47)]) (st' := [.ref 47, .ref 58]) rfl rfl ?_
    refine ha_RT_mem rfl rfl (hm_rd hO h6 _ _) ?_
    show ha_RT ext 100 19 _ _ _ _ _
    refine ha_RT_sN [20] (pc' := 20) (L' := [some (.ref 47)]) (st' := [.ref 47, .int ra, .ref 58]) rfl rfl ?_
    refine ha_RT_mem rfl rfl (hm_rd hO h5 _ _) ?_
    show ha_RT ext 100 23 _ _ _ _ _
    refine ha_RT_sN [24] (pc' := 24) (L' := [some (.ref 47)]) (st' := [.int (ra + p), .ref 58]) rfl rfl ?_
    refine ha_RT_mem rfl rfl (hm_ial hE (by omega) (by show _ < ((800 : Nat) : Int); omega) _ _ _) ?_
    show ha_RT ext 100 25 _ _ _ _ _
    refine ha_RT_sN [28, 29, 33] (pc' := 33) (L' := [some (.ref 47)]) (st' := [.int (f (ra + p).toNatClampNeg &&& Int32.ofInt 255)]) rfl rfl ?_
    refine ha_RT_ret (rv := some (.int (f (ra + p).toNatClampNeg &&& Int32.ofInt 255))) rfl rfl rfl rfl ⟨?_, rfl⟩
    unfold hm_h
    rw [if_neg h1]
  obtain ⟨n, rv, M', h1, rfl, rfl⟩ := key
  exact ⟨n, hm_toC hn (q := hzq_100) rfl (by decide) h1⟩
set_option maxHeartbeats 4000000 in
set_option maxRecDepth 10000 in
theorem hm_lp101 (hn : hm_no ext) {M0 : hzMem} {f : Nat → Int32} {ra en k n : Int32} (k0 : 0 ≤ k.toInt) (k2 : k.toInt ≤ 2) (n2 : n.toInt ≤ 2) : ∀ (w m : Nat), m ≤ w → ∀ (c p : Int32) (M : hzMem) (g : Nat → Int32), n.toInt - c.toInt = (m : Int) → 0 ≤ c.toInt → hm_T M0 f ra en p M → M[52]? = some (.inl (0, 3, .inl g)) → (∀ j : Nat, j < 3 → 0 ≤ (g j).toInt ∧ (g j).toInt ≤ 99) → ((c.toInt = 0 ∧ (g k.toNatClampNeg).toInt = 0) ∨ (c.toInt = 1 ∧ (g k.toNatClampNeg).toInt ≤ 9) ∨ c.toInt = 2) → ha_RT ext 101 9 [some (.ref 47), some (.int k), some (.int n), some (.int c)] [] M 0 (fun rv M' => rv = some (.int (hm_bi (hm_rN f ra en m p).1)) ∧ hm_T M0 f ra en (hm_rN f ra en m p).2 M') := by
  intro w
  induction w with
  | zero =>
    intro m hm c p M g hnc c0 hT hN hb hi
    have m0 : m = 0 := by omega
    subst m0
    refine ha_RT_sN [10, 11] (pc' := 11) (L' := [some (.ref 47), some (.int k), some (.int n), some (.int c)]) (st' := [.int n, .int c]) rfl rfl ?_
    refine ha_RT_ic rfl (fun h1 => ?_) (fun h1 => ?_)
    · show ha_RT ext 101 69 _ _ _ _ _
      refine ha_RT_sN [70] (pc' := 70) (L' := [some (.ref 47), some (.int k), some (.int n), some (.int c)]) (st' := [.int (Int32.ofInt 1)]) rfl rfl ?_
      exact ha_RT_ret (rv := some (.int (Int32.ofInt 1))) rfl rfl rfl rfl ⟨rfl, hT⟩
    · simp only [hz_cmp, decide_eq_false_iff_not, Int32.le_iff_toInt_le] at h1
      omega
  | succ w ih =>
    intro m hm c p M g hnc c0 hT hN hb hi
    refine ha_RT_sN [10, 11] (pc' := 11) (L' := [some (.ref 47), some (.int k), some (.int n), some (.int c)]) (st' := [.int n, .int c]) rfl rfl ?_
    refine ha_RT_ic rfl (fun h1 => ?_) (fun h1 => ?_)
    · show ha_RT ext 101 69 _ _ _ _ _
      refine ha_RT_sN [70] (pc' := 70) (L' := [some (.ref 47), some (.int k), some (.int n), some (.int c)]) (st' := [.int (Int32.ofInt 1)]) rfl rfl ?_
      simp only [hz_cmp, decide_eq_true_eq, Int32.le_iff_toInt_le] at h1
      have m0 : m = 0 := by omega
      subst m0
      exact ha_RT_ret (rv := some (.int (Int32.ofInt 1))) rfl rfl rfl rfl ⟨rfl, hT⟩
    show ha_RT ext 101 14 _ _ _ _ _
    simp only [hz_cmp, decide_eq_false_iff_not, Int32.le_iff_toInt_le] at h1
    obtain ⟨m, rfl⟩ : ∃ m', m = m' + 1 := ⟨m - 1, by omega⟩
    obtain ⟨n1, hc1⟩ := hm_c100 hn hT
    refine ha_RT_sN [15] (pc' := 15) (L' := [some (.ref 47), some (.int k), some (.int n), some (.int c)]) (st' := [.ref 47]) rfl rfl ?_
    refine ha_RT_call (virt := true) (a := 0) (x := 100) (y := 1) rfl rfl (by decide) (q := _) rfl ⟨hm_Tr hT [], Nat.le_of_ble_eq_true rfl, Nat.le_of_ble_eq_true rfl, Nat.le_refl 0, Nat.le_of_ble_eq_true rfl⟩ hc1 ?_
    show ha_RT ext 101 18 _ [.int (hm_h f ra en p)] _ _ _
    refine ha_RT_sN [20, 22] (pc' := 22) (L' := [some (.ref 47), some (.int k), some (.int n), some (.int c)]) (st' := [.int (Int32.ofInt 57), .int (Int32.ofInt 48), .int (hm_h f ra en p)]) rfl rfl ?_
    obtain ⟨n2, hc2⟩ := hm_ex70 hn (hm_h f ra en p) (Int32.ofInt 48) (Int32.ofInt 57) M
    refine ha_RT_call (virt := false) (a := 0) (x := 70) (y := 3) rfl rfl (by decide) (q := _) rfl ⟨rfl, Nat.le_of_ble_eq_true rfl, Nat.le_of_ble_eq_true rfl, Nat.le_refl 0, Nat.le_of_ble_eq_true rfl⟩ hc2 ?_
    show ha_RT ext 101 25 _ [.int (hm_bi (decide (48 ≤ (hm_h f ra en p).toInt ∧ (hm_h f ra en p).toInt ≤ 57)))] _ _ _
    refine ha_RT_if rfl (fun h2 => ?_) (fun h2 => ?_)
    case' refine_2 =>
      show ha_RT ext 101 28 _ _ _ _ _
      refine ha_RT_sN [29] (pc' := 29) (L' := [some (.ref 47), some (.int k), some (.int n), some (.int c)]) (st' := [.int (Int32.ofInt 0)]) rfl rfl ?_
      rw [hm_bin, decide_eq_false_iff_not] at h2
      refine ha_RT_ret (rv := some (.int (Int32.ofInt 0))) rfl rfl rfl rfl ?_
      unfold hm_rN
      rw [if_neg h2]
      exact ⟨rfl, hT⟩
    show ha_RT ext 101 30 _ _ _ _ _
    rw [hm_bin, decide_eq_true_eq] at h2
    have hlt := hm_hlt (f := f) (ra := ra) (en := en) (p := p) (by omega)
    obtain ⟨⟨p0, p1⟩, ⟨r0, r1⟩, e0, e1⟩ := hm_Tb hT
    obtain ⟨vs, hO, hs, h5, h6, h7⟩ := hT.2.1
    have h8 := hm_sf hs (y := 8) (r := 52) rfl
    have bk := hb k.toNatClampNeg (hm_nic k0 (by omega))
    have k3 : k.toInt < ((3 : Nat) : Int) := by show k.toInt < 3; omega
    refine ha_RT_sN [31] (pc' := 31) (L' := [some (.ref 47), some (.int k), some (.int n), some (.int c)]) (st' := [.ref 47]) rfl rfl ?_
    refine ha_RT_mem rfl rfl (hm_rd hO h8 _ _) ?_
    show ha_RT ext 101 34 _ _ _ _ _
    refine ha_RT_sN [35, 37, 38] (pc' := 38) (L' := [some (.ref 47), some (.int k), some (.int n), some (.int c)]) (st' := [.ref 47, .int (Int32.ofInt 10), .int k, .ref 52]) rfl rfl ?_
    refine ha_RT_mem rfl rfl (hm_rd hO h8 _ _) ?_
    show ha_RT ext 101 41 _ _ _ _ _
    refine ha_RT_sN [42] (pc' := 42) (L' := [some (.ref 47), some (.int k), some (.int n), some (.int c)]) (st' := [.int k, .ref 52, .int (Int32.ofInt 10), .int k, .ref 52]) rfl rfl ?_
    refine ha_RT_mem rfl rfl (hm_ial hN k0 k3 _ _ _) ?_
    show ha_RT ext 101 43 _ _ _ _ _
    refine ha_RT_sN [44, 45] (pc' := 45) (L' := [some (.ref 47), some (.int k), some (.int n), some (.int c)]) (st' := [.ref 47, .int (Int32.ofInt 10 * g k.toNatClampNeg), .int k, .ref 52]) rfl rfl ?_
    refine ha_RT_call (virt := true) (a := 0) (x := 100) (y := 1) rfl rfl (by decide) (q := _) rfl ⟨hm_Tr hT [], Nat.le_of_ble_eq_true rfl, Nat.le_of_ble_eq_true rfl, Nat.le_refl 0, Nat.le_of_ble_eq_true rfl⟩ hc1 ?_
    show ha_RT ext 101 48 _ [.int (hm_h f ra en p), .int (Int32.ofInt 10 * g k.toNatClampNeg), .int k, .ref 52] _ _ _
    refine ha_RT_sN [49, 51, 52] (pc' := 52) (L' := [some (.ref 47), some (.int k), some (.int n), some (.int c)]) (st' := [.int (Int32.ofInt 10 * g k.toNatClampNeg + hm_h f ra en p - Int32.ofInt 48), .int k, .ref 52]) rfl rfl ?_
    have x1 : (Int32.ofInt 10 * g k.toNatClampNeg).toInt = 10 * (g k.toNatClampNeg).toInt := by
      rw [Int32.toInt_mul, show (Int32.ofInt 10).toInt = 10 from rfl]
      exact ha_bm (by unfold ha_lo; omega) (by unfold ha_hi; omega)
    have x2 : (Int32.ofInt 10 * g k.toNatClampNeg + hm_h f ra en p).toInt = 10 * (g k.toNatClampNeg).toInt + (hm_h f ra en p).toInt := by
      rw [Int32.toInt_add, x1]
      exact ha_bm (by unfold ha_lo; omega) (by unfold ha_hi; omega)
    have x3 : (Int32.ofInt 10 * g k.toNatClampNeg + hm_h f ra en p - Int32.ofInt 48).toInt = 10 * (g k.toNatClampNeg).toInt + (hm_h f ra en p).toInt - 48 := by
      rw [Int32.toInt_sub, x2, show (Int32.ofInt 48).toInt = 48 from rfl]
      exact ha_bm (by unfold ha_lo; omega) (by unfold ha_hi; omega)
    generalize Int32.ofInt 10 * g k.toNatClampNeg + hm_h f ra en p - Int32.ofInt 48 = v at x3 ⊢
    refine ha_RT_mem rfl rfl (hm_ias hN k0 k3 v _ _ _) ?_
    show ha_RT ext 101 53 _ _ _ _ _
    obtain ⟨hT2, hN2, hb2⟩ := hm_T52 hT hN hb (v := v) (by omega) (by omega) k.toNatClampNeg
    have hv : upd g k.toNatClampNeg v k.toNatClampNeg = v := if_pos rfl
    generalize upd g k.toNatClampNeg v = g2 at hT2 hN2 hb2 hv ⊢
    generalize M.set 52 (.inl (0, 3, .inl g2)) = M2 at hT2 hN2 ⊢
    obtain ⟨vs2, hO2, hs2, h52, h62, h72⟩ := hT2.2.1
    refine ha_RT_sN [54, 55] (pc' := 55) (L' := [some (.ref 47), some (.int k), some (.int n), some (.int c)]) (st' := [.ref 47, .ref 47]) rfl rfl ?_
    refine ha_RT_mem rfl rfl (hm_rd hO2 h52 _ _) ?_
    show ha_RT ext 101 58 _ _ _ _ _
    refine ha_RT_sN [59, 60] (pc' := 60) (L' := [some (.ref 47), some (.int k), some (.int n), some (.int c)]) (st' := [.int (p + Int32.ofInt 1), .ref 47]) rfl rfl ?_
    have y1 := hm_p1 p0 (by omega)
    obtain ⟨M3, hp3, hT3, h3⟩ := hm_T5 hT2 (q := p + Int32.ofInt 1) (by omega) (by omega) 111 []
    refine ha_RT_mem rfl rfl hp3 ?_
    show ha_RT ext 101 63 _ _ _ _ _
    have y2 := hm_p1 (p := c) c0 (by omega)
    refine ha_RT_sN [66, 9] (pc' := 9) (L' := [some (.ref 47), some (.int k), some (.int n), some (.int (c + Int32.ofInt 1))]) (st' := []) rfl rfl ?_
    have hr : hm_rN f ra en (m + 1) p = hm_rN f ra en m (p + Int32.ofInt 1) := by
      show (if _ then _ else _) = _
      rw [if_pos h2]
    rw [hr]
    exact ih m (by omega) (c + Int32.ofInt 1) (p + Int32.ofInt 1) M3 g2 (by omega) (by omega) hT3 (h3.trans hN2) hb2 (by rw [hv]; omega)
set_option maxHeartbeats 4000000 in
set_option maxRecDepth 10000 in
theorem hm_c101 (hn : hm_no ext) {M0 M : hzMem} {f : Nat → Int32} {ra en p k n : Int32} {m : Nat} (hT : hm_T M0 f ra en p M) (k0 : 0 ≤ k.toInt) (k2 : k.toInt ≤ 2) (hnm : n.toInt = (m : Int)) (m2 : m ≤ 2) : ∃ n1 M', ha_C ext n1 101 [.ref 47, .int k, .int n] M 4 0 = some (some (.int (hm_bi (hm_rN f ra en m p).1)), M') ∧ hm_T M0 f ra en (hm_rN f ra en m p).2 M' := by
  obtain ⟨vs, hO, hs, h5, h6, h7⟩ := hT.2.1
  have h8 := hm_sf hs (y := 8) (r := 52) rfl
  obtain ⟨g, hN, hb⟩ := hm_ints hT.1.1 (k := 52) (n := 3) (q := (0, 99)) rfl
  have key : ha_RT ext 101 0 [some (.ref 47), some (.int k), some (.int n), none] [] M 0 (fun rv M' => rv = some (.int (hm_bi (hm_rN f ra en m p).1)) ∧ hm_T M0 f ra en (hm_rN f ra en m p).2 M') := by
    refine ha_RT_sN [1] (pc' := 1) (L' := [some (.ref 47), some (.int k), some (.int n), none]) (st' := [.ref 47]) rfl rfl ?_
    refine ha_RT_mem rfl rfl (hm_rd hO h8 _ _) ?_
    show ha_RT ext 101 4 _ _ _ _ _
    refine ha_RT_sN [5, 6] (pc' := 6) (L' := [some (.ref 47), some (.int k), some (.int n), none]) (st' := [.int (Int32.ofInt 0), .int k, .ref 52]) rfl rfl ?_
    refine ha_RT_mem rfl rfl (hm_ias hN k0 (by show k.toInt < 3; omega) (Int32.ofInt 0) _ _ _) ?_
    show ha_RT ext 101 7 _ _ _ _ _
    obtain ⟨hT2, hN2, hb2⟩ := hm_T52 hT hN hb (v := Int32.ofInt 0) (by decide) (by decide) k.toNatClampNeg
    have hv : upd g k.toNatClampNeg (Int32.ofInt 0) k.toNatClampNeg = Int32.ofInt 0 := if_pos rfl
    refine ha_RT_sN [8, 9] (pc' := 9) (L' := [some (.ref 47), some (.int k), some (.int n), some (.int (Int32.ofInt 0))]) (st' := []) rfl rfl ?_
    exact hm_lp101 hn k0 k2 (by omega) m m (Nat.le_refl m) (Int32.ofInt 0) p _ _ (by show n.toInt - 0 = _; omega) (by decide) hT2 hN2 hb2 (Or.inl ⟨rfl, by rw [hv]; rfl⟩)
  obtain ⟨n1, rv, M', h1, rfl, hT'⟩ := key
  exact ⟨n1, M', hm_toC hn (q := hzq_101) rfl (by decide) h1, hT'⟩
set_option maxHeartbeats 4000000 in
set_option maxRecDepth 10000 in
theorem hm_e102 (hn : hm_no ext) {M0 : hzMem} {f : Nat → Int32} {ra en c : Int32} {M : hzMem} {r : Bool × Int32} (hT : hm_T M0 f ra en r.2 M) : ha_RT ext 102 208 [some (.ref 47), some (.int c), some (.int (hm_bi r.1))] [] M 0 (fun rv M' => rv = some (.int (hm_bi (hm_fin f ra en r).1)) ∧ hm_T M0 f ra en (hm_fin f ra en r).2 M') := by
  have no : (r.1 = false ∨ (hm_h f ra en r.2).toInt ≠ 59) → ha_RT ext 102 221 [some (.ref 47), some (.int c), some (.int (hm_bi r.1))] [] M 0 (fun rv M' => rv = some (.int (hm_bi (hm_fin f ra en r).1)) ∧ hm_T M0 f ra en (hm_fin f ra en r).2 M') := by
    intro h
    refine ha_RT_sN [222] (pc' := 222) (L' := [some (.ref 47), some (.int c), some (.int (hm_bi r.1))]) (st' := [.int (Int32.ofInt 0)]) rfl rfl ?_
    have e : hm_fin f ra en r = (false, r.2) := if_neg (by
      rintro ⟨h1, h2⟩
      rcases h with h | h
      · rw [h] at h1; cases h1
      · exact h h2)
    rw [e]
    exact ha_RT_ret (rv := some (.int (Int32.ofInt 0))) rfl rfl rfl rfl ⟨rfl, hT⟩
  refine ha_RT_sN [209] (pc' := 209) (L' := [some (.ref 47), some (.int c), some (.int (hm_bi r.1))]) (st' := [.int (hm_bi r.1)]) rfl rfl ?_
  refine ha_RT_if rfl (fun h1 => no (Or.inl (by rw [hm_bie] at h1; simpa using h1))) (fun h1 => ?_)
  show ha_RT ext 102 212 _ _ _ _ _
  have hb1 : r.1 = true := by rw [hm_bie] at h1; simpa using h1
  refine ha_RT_sN [213] (pc' := 213) (L' := [some (.ref 47), some (.int c), some (.int (hm_bi r.1))]) (st' := [.ref 47]) rfl rfl ?_
  obtain ⟨n1, hc1⟩ := hm_c100 hn hT
  refine ha_RT_call (virt := true) (a := 0) (x := 100) (y := 1) rfl rfl (by decide) (q := _) rfl ⟨hm_Tr hT [], Nat.le_of_ble_eq_true rfl, Nat.le_of_ble_eq_true rfl, Nat.le_refl 0, Nat.le_of_ble_eq_true rfl⟩ hc1 ?_
  show ha_RT ext 102 216 _ [.int (hm_h f ra en r.2)] _ _ _
  refine ha_RT_sN [218] (pc' := 218) (L' := [some (.ref 47), some (.int c), some (.int (hm_bi r.1))]) (st' := [.int (Int32.ofInt 59), .int (hm_h f ra en r.2)]) rfl rfl ?_
  refine ha_RT_ic rfl (fun h2 => ?_) (fun h2 => no (Or.inr (fun e => ?_)))
  case' refine_2 =>
    simp only [hz_cmp, decide_eq_false_iff_not] at h2
    exact h2 (Int32.toInt_inj.mp e)
  show ha_RT ext 102 223 _ _ _ _ _
  simp only [hz_cmp, decide_eq_true_eq] at h2
  have e59 : (hm_h f ra en r.2).toInt = 59 := by rw [h2]; rfl
  have hlt := hm_hlt (f := f) (ra := ra) (en := en) (p := r.2) (by omega)
  obtain ⟨⟨p0, p1⟩, ⟨r0, r1⟩, e0, e1⟩ := hm_Tb hT
  obtain ⟨vs, hO, hs, h5, h6, h7⟩ := hT.2.1
  refine ha_RT_sN [224, 225] (pc' := 225) (L' := [some (.ref 47), some (.int c), some (.int (hm_bi r.1))]) (st' := [.ref 47, .ref 47]) rfl rfl ?_
  refine ha_RT_mem rfl rfl (hm_rd hO h5 _ _) ?_
  show ha_RT ext 102 228 _ _ _ _ _
  refine ha_RT_sN [229, 230] (pc' := 230) (L' := [some (.ref 47), some (.int c), some (.int (hm_bi r.1))]) (st' := [.int (r.2 + Int32.ofInt 1), .ref 47]) rfl rfl ?_
  have y1 := hm_p1 (p := r.2) p0 (by omega)
  obtain ⟨M3, hp3, hT3, h3⟩ := hm_T5 hT (q := r.2 + Int32.ofInt 1) (by omega) (by omega) 111 []
  refine ha_RT_mem rfl rfl hp3 ?_
  show ha_RT ext 102 233 _ _ _ _ _
  refine ha_RT_sN [234] (pc' := 234) (L' := [some (.ref 47), some (.int c), some (.int (hm_bi r.1))]) (st' := [.int (Int32.ofInt 1)]) rfl rfl ?_
  have e : hm_fin f ra en r = (true, r.2 + Int32.ofInt 1) := if_pos ⟨hb1, e59⟩
  rw [e]
  exact ha_RT_ret (rv := some (.int (Int32.ofInt 1))) rfl rfl rfl rfl ⟨rfl, hT3⟩
theorem hm_rLt {f : Nat → Int32} {ra en : Int32} {m : Nat} {p : Int32} {r : Bool × Int32} {l : List Nat} (hr : r = hm_rN f ra en m p) (h : r.1 = true) : hm_rL f ra en (m :: l) p = hm_rL f ra en l r.2 := by
  subst hr
  exact if_pos h
theorem hm_rLf {f : Nat → Int32} {ra en : Int32} {m : Nat} {p : Int32} {r : Bool × Int32} {l : List Nat} (hr : r = hm_rN f ra en m p) (h : r.1 = false) : hm_rL f ra en (m :: l) p = (false, r.2) := by
  subst hr
  exact if_neg (by rw [h]; exact Bool.false_ne_true)
set_option maxHeartbeats 4000000 in
set_option maxRecDepth 10000 in
theorem hm_b96 (hn : hm_no ext) {M0 : hzMem} {f : Nat → Int32} {ra en c : Int32} {q : Int32} {M : hzMem} {Post : Option Value → hzMem → Prop} (hT : hm_T M0 f ra en q M) (kk : ∀ (M' : hzMem) (r : Bool × Int32), hm_rL f ra en [2, 1] q = r → hm_T M0 f ra en r.2 M' → ha_RT ext 102 208 [some (.ref 47), some (.int c), some (.int (hm_bi r.1))] [] M' 0 Post) : ha_RT ext 102 96 [some (.ref 47), some (.int c), none] [] M 0 Post := by
  refine ha_RT_sN [97, 98, 99] (pc' := 99) (L' := [some (.ref 47), some (.int c), none]) (st' := [.int (Int32.ofInt 2), .int (Int32.ofInt 0), .ref 47]) rfl rfl ?_
  obtain ⟨n0, N0, hc0, hT0⟩ := hm_c101 hn hT (k := Int32.ofInt 0) (n := Int32.ofInt 2) (m := 2) (by decide) (by decide) rfl (by decide)
  obtain ⟨r0, hr0⟩ : ∃ r, r = hm_rN f ra en 2 q := ⟨_, rfl⟩
  rw [← hr0] at hc0 hT0
  refine ha_RT_call (virt := true) (a := 0) (x := 101) (y := 3) rfl rfl (by decide) (q := _) rfl ⟨hm_Tr hT [.int (Int32.ofInt 0), .int (Int32.ofInt 2)], Nat.le_of_ble_eq_true rfl, Nat.le_of_ble_eq_true rfl, Nat.le_refl 0, Nat.le_of_ble_eq_true rfl⟩ hc0 ?_
  show ha_RT ext 102 102 _ [.int (hm_bi r0.1)] _ _ _
  refine ha_RT_if rfl (fun h0 => ?_) (fun h0 => ?_)
  case' refine_1 =>
    show ha_RT ext 102 118 _ _ _ _ _
    rw [hm_bie, Bool.not_eq_true'] at h0
    refine ha_RT_sN [119, 120, 208] (pc' := 208) (L' := [some (.ref 47), some (.int c), some (.int (hm_bi false))]) (st' := []) rfl rfl ?_
    exact kk N0 (false, r0.2) (by rw [hm_rLf hr0 h0]) hT0
  show ha_RT ext 102 105 _ _ _ _ _
  rw [hm_bie, Bool.not_eq_false'] at h0
  refine ha_RT_sN [106, 107, 108] (pc' := 108) (L' := [some (.ref 47), some (.int c), none]) (st' := [.int (Int32.ofInt 1), .int (Int32.ofInt 1), .ref 47]) rfl rfl ?_
  obtain ⟨n1, N1, hc1, hT1⟩ := hm_c101 hn hT0 (k := Int32.ofInt 1) (n := Int32.ofInt 1) (m := 1) (by decide) (by decide) rfl (by decide)
  obtain ⟨r1, hr1⟩ : ∃ r, r = hm_rN f ra en 1 r0.2 := ⟨_, rfl⟩
  rw [← hr1] at hc1 hT1
  refine ha_RT_call (virt := true) (a := 0) (x := 101) (y := 3) rfl rfl (by decide) (q := _) rfl ⟨hm_Tr hT0 [.int (Int32.ofInt 1), .int (Int32.ofInt 1)], Nat.le_of_ble_eq_true rfl, Nat.le_of_ble_eq_true rfl, Nat.le_refl 0, Nat.le_of_ble_eq_true rfl⟩ hc1 ?_
  show ha_RT ext 102 111 _ [.int (hm_bi r1.1)] _ _ _
  refine ha_RT_if rfl (fun h1 => ?_) (fun h1 => ?_)
  case' refine_1 =>
    show ha_RT ext 102 118 _ _ _ _ _
    rw [hm_bie, Bool.not_eq_true'] at h1
    refine ha_RT_sN [119, 120, 208] (pc' := 208) (L' := [some (.ref 47), some (.int c), some (.int (hm_bi false))]) (st' := []) rfl rfl ?_
    exact kk N1 (false, r1.2) (by rw [hm_rLt hr0 h0, hm_rLf hr1 h1]) hT1
  show ha_RT ext 102 114 _ _ _ _ _
  rw [hm_bie, Bool.not_eq_false'] at h1
  refine ha_RT_sN [115, 119, 120, 208] (pc' := 208) (L' := [some (.ref 47), some (.int c), some (.int (hm_bi true))]) (st' := []) rfl rfl ?_
  exact kk N1 (true, r1.2) (by rw [hm_rLt hr0 h0, hm_rLt hr1 h1]; rfl) hT1
set_option maxHeartbeats 4000000 in
set_option maxRecDepth 10000 in
theorem hm_b123 (hn : hm_no ext) {M0 : hzMem} {f : Nat → Int32} {ra en c : Int32} {q : Int32} {M : hzMem} {Post : Option Value → hzMem → Prop} (hT : hm_T M0 f ra en q M) (kk : ∀ (M' : hzMem) (r : Bool × Int32), hm_rL f ra en [1, 1, 1] q = r → hm_T M0 f ra en r.2 M' → ha_RT ext 102 208 [some (.ref 47), some (.int c), some (.int (hm_bi r.1))] [] M' 0 Post) : ha_RT ext 102 123 [some (.ref 47), some (.int c), none] [] M 0 Post := by
  refine ha_RT_sN [124, 125, 126] (pc' := 126) (L' := [some (.ref 47), some (.int c), none]) (st' := [.int (Int32.ofInt 1), .int (Int32.ofInt 0), .ref 47]) rfl rfl ?_
  obtain ⟨n0, N0, hc0, hT0⟩ := hm_c101 hn hT (k := Int32.ofInt 0) (n := Int32.ofInt 1) (m := 1) (by decide) (by decide) rfl (by decide)
  obtain ⟨r0, hr0⟩ : ∃ r, r = hm_rN f ra en 1 q := ⟨_, rfl⟩
  rw [← hr0] at hc0 hT0
  refine ha_RT_call (virt := true) (a := 0) (x := 101) (y := 3) rfl rfl (by decide) (q := _) rfl ⟨hm_Tr hT [.int (Int32.ofInt 0), .int (Int32.ofInt 1)], Nat.le_of_ble_eq_true rfl, Nat.le_of_ble_eq_true rfl, Nat.le_refl 0, Nat.le_of_ble_eq_true rfl⟩ hc0 ?_
  show ha_RT ext 102 129 _ [.int (hm_bi r0.1)] _ _ _
  refine ha_RT_if rfl (fun h0 => ?_) (fun h0 => ?_)
  case' refine_1 =>
    show ha_RT ext 102 154 _ _ _ _ _
    rw [hm_bie, Bool.not_eq_true'] at h0
    refine ha_RT_sN [155, 156, 208] (pc' := 208) (L' := [some (.ref 47), some (.int c), some (.int (hm_bi false))]) (st' := []) rfl rfl ?_
    exact kk N0 (false, r0.2) (by rw [hm_rLf hr0 h0]) hT0
  show ha_RT ext 102 132 _ _ _ _ _
  rw [hm_bie, Bool.not_eq_false'] at h0
  refine ha_RT_sN [133, 134, 135] (pc' := 135) (L' := [some (.ref 47), some (.int c), none]) (st' := [.int (Int32.ofInt 1), .int (Int32.ofInt 1), .ref 47]) rfl rfl ?_
  obtain ⟨n1, N1, hc1, hT1⟩ := hm_c101 hn hT0 (k := Int32.ofInt 1) (n := Int32.ofInt 1) (m := 1) (by decide) (by decide) rfl (by decide)
  obtain ⟨r1, hr1⟩ : ∃ r, r = hm_rN f ra en 1 r0.2 := ⟨_, rfl⟩
  rw [← hr1] at hc1 hT1
  refine ha_RT_call (virt := true) (a := 0) (x := 101) (y := 3) rfl rfl (by decide) (q := _) rfl ⟨hm_Tr hT0 [.int (Int32.ofInt 1), .int (Int32.ofInt 1)], Nat.le_of_ble_eq_true rfl, Nat.le_of_ble_eq_true rfl, Nat.le_refl 0, Nat.le_of_ble_eq_true rfl⟩ hc1 ?_
  show ha_RT ext 102 138 _ [.int (hm_bi r1.1)] _ _ _
  refine ha_RT_if rfl (fun h1 => ?_) (fun h1 => ?_)
  case' refine_1 =>
    show ha_RT ext 102 154 _ _ _ _ _
    rw [hm_bie, Bool.not_eq_true'] at h1
    refine ha_RT_sN [155, 156, 208] (pc' := 208) (L' := [some (.ref 47), some (.int c), some (.int (hm_bi false))]) (st' := []) rfl rfl ?_
    exact kk N1 (false, r1.2) (by rw [hm_rLt hr0 h0, hm_rLf hr1 h1]) hT1
  show ha_RT ext 102 141 _ _ _ _ _
  rw [hm_bie, Bool.not_eq_false'] at h1
  refine ha_RT_sN [142, 143, 144] (pc' := 144) (L' := [some (.ref 47), some (.int c), none]) (st' := [.int (Int32.ofInt 1), .int (Int32.ofInt 2), .ref 47]) rfl rfl ?_
  obtain ⟨n2, N2, hc2, hT2⟩ := hm_c101 hn hT1 (k := Int32.ofInt 2) (n := Int32.ofInt 1) (m := 1) (by decide) (by decide) rfl (by decide)
  obtain ⟨r2, hr2⟩ : ∃ r, r = hm_rN f ra en 1 r1.2 := ⟨_, rfl⟩
  rw [← hr2] at hc2 hT2
  refine ha_RT_call (virt := true) (a := 0) (x := 101) (y := 3) rfl rfl (by decide) (q := _) rfl ⟨hm_Tr hT1 [.int (Int32.ofInt 2), .int (Int32.ofInt 1)], Nat.le_of_ble_eq_true rfl, Nat.le_of_ble_eq_true rfl, Nat.le_refl 0, Nat.le_of_ble_eq_true rfl⟩ hc2 ?_
  show ha_RT ext 102 147 _ [.int (hm_bi r2.1)] _ _ _
  refine ha_RT_if rfl (fun h2 => ?_) (fun h2 => ?_)
  case' refine_1 =>
    show ha_RT ext 102 154 _ _ _ _ _
    rw [hm_bie, Bool.not_eq_true'] at h2
    refine ha_RT_sN [155, 156, 208] (pc' := 208) (L' := [some (.ref 47), some (.int c), some (.int (hm_bi false))]) (st' := []) rfl rfl ?_
    exact kk N2 (false, r2.2) (by rw [hm_rLt hr0 h0, hm_rLt hr1 h1, hm_rLf hr2 h2]) hT2
  show ha_RT ext 102 150 _ _ _ _ _
  rw [hm_bie, Bool.not_eq_false'] at h2
  refine ha_RT_sN [151, 155, 156, 208] (pc' := 208) (L' := [some (.ref 47), some (.int c), some (.int (hm_bi true))]) (st' := []) rfl rfl ?_
  exact kk N2 (true, r2.2) (by rw [hm_rLt hr0 h0, hm_rLt hr1 h1, hm_rLt hr2 h2]; rfl) hT2
set_option maxHeartbeats 4000000 in
set_option maxRecDepth 10000 in
theorem hm_b159 (hn : hm_no ext) {M0 : hzMem} {f : Nat → Int32} {ra en c : Int32} {q : Int32} {M : hzMem} {Post : Option Value → hzMem → Prop} (hT : hm_T M0 f ra en q M) (kk : ∀ (M' : hzMem) (r : Bool × Int32), hm_rL f ra en [2] q = r → hm_T M0 f ra en r.2 M' → ha_RT ext 102 208 [some (.ref 47), some (.int c), some (.int (hm_bi r.1))] [] M' 0 Post) : ha_RT ext 102 159 [some (.ref 47), some (.int c), none] [] M 0 Post := by
  refine ha_RT_sN [160, 161, 162] (pc' := 162) (L' := [some (.ref 47), some (.int c), none]) (st' := [.int (Int32.ofInt 2), .int (Int32.ofInt 0), .ref 47]) rfl rfl ?_
  obtain ⟨n0, N0, hc0, hT0⟩ := hm_c101 hn hT (k := Int32.ofInt 0) (n := Int32.ofInt 2) (m := 2) (by decide) (by decide) rfl (by decide)
  obtain ⟨r0, hr0⟩ : ∃ r, r = hm_rN f ra en 2 q := ⟨_, rfl⟩
  rw [← hr0] at hc0 hT0
  refine ha_RT_call (virt := true) (a := 0) (x := 101) (y := 3) rfl rfl (by decide) (q := _) rfl ⟨hm_Tr hT [.int (Int32.ofInt 0), .int (Int32.ofInt 2)], Nat.le_of_ble_eq_true rfl, Nat.le_of_ble_eq_true rfl, Nat.le_refl 0, Nat.le_of_ble_eq_true rfl⟩ hc0 ?_
  show ha_RT ext 102 165 _ [.int (hm_bi r0.1)] _ _ _
  refine ha_RT_sN [166, 208] (pc' := 208) (L' := [some (.ref 47), some (.int c), some (.int (hm_bi r0.1))]) (st' := []) rfl rfl ?_
  refine kk N0 r0 ?_ hT0
  cases h : r0.1 with
  | true => rw [hm_rLt hr0 h]; exact Prod.ext h.symm rfl
  | false => rw [hm_rLf hr0 h]; exact Prod.ext h.symm rfl
set_option maxHeartbeats 4000000 in
set_option maxRecDepth 10000 in
theorem hm_b169 (hn : hm_no ext) {M0 : hzMem} {f : Nat → Int32} {ra en c : Int32} {q : Int32} {M : hzMem} {Post : Option Value → hzMem → Prop} (hT : hm_T M0 f ra en q M) (kk : ∀ (M' : hzMem) (r : Bool × Int32), hm_rL f ra en [1, 1] q = r → hm_T M0 f ra en r.2 M' → ha_RT ext 102 208 [some (.ref 47), some (.int c), some (.int (hm_bi r.1))] [] M' 0 Post) : ha_RT ext 102 169 [some (.ref 47), some (.int c), none] [] M 0 Post := by
  refine ha_RT_sN [170, 171, 172] (pc' := 172) (L' := [some (.ref 47), some (.int c), none]) (st' := [.int (Int32.ofInt 1), .int (Int32.ofInt 0), .ref 47]) rfl rfl ?_
  obtain ⟨n0, N0, hc0, hT0⟩ := hm_c101 hn hT (k := Int32.ofInt 0) (n := Int32.ofInt 1) (m := 1) (by decide) (by decide) rfl (by decide)
  obtain ⟨r0, hr0⟩ : ∃ r, r = hm_rN f ra en 1 q := ⟨_, rfl⟩
  rw [← hr0] at hc0 hT0
  refine ha_RT_call (virt := true) (a := 0) (x := 101) (y := 3) rfl rfl (by decide) (q := _) rfl ⟨hm_Tr hT [.int (Int32.ofInt 0), .int (Int32.ofInt 1)], Nat.le_of_ble_eq_true rfl, Nat.le_of_ble_eq_true rfl, Nat.le_refl 0, Nat.le_of_ble_eq_true rfl⟩ hc0 ?_
  show ha_RT ext 102 175 _ [.int (hm_bi r0.1)] _ _ _
  refine ha_RT_if rfl (fun h0 => ?_) (fun h0 => ?_)
  case' refine_1 =>
    show ha_RT ext 102 191 _ _ _ _ _
    rw [hm_bie, Bool.not_eq_true'] at h0
    refine ha_RT_sN [192, 193, 208] (pc' := 208) (L' := [some (.ref 47), some (.int c), some (.int (hm_bi false))]) (st' := []) rfl rfl ?_
    exact kk N0 (false, r0.2) (by rw [hm_rLf hr0 h0]) hT0
  show ha_RT ext 102 178 _ _ _ _ _
  rw [hm_bie, Bool.not_eq_false'] at h0
  refine ha_RT_sN [179, 180, 181] (pc' := 181) (L' := [some (.ref 47), some (.int c), none]) (st' := [.int (Int32.ofInt 1), .int (Int32.ofInt 1), .ref 47]) rfl rfl ?_
  obtain ⟨n1, N1, hc1, hT1⟩ := hm_c101 hn hT0 (k := Int32.ofInt 1) (n := Int32.ofInt 1) (m := 1) (by decide) (by decide) rfl (by decide)
  obtain ⟨r1, hr1⟩ : ∃ r, r = hm_rN f ra en 1 r0.2 := ⟨_, rfl⟩
  rw [← hr1] at hc1 hT1
  refine ha_RT_call (virt := true) (a := 0) (x := 101) (y := 3) rfl rfl (by decide) (q := _) rfl ⟨hm_Tr hT0 [.int (Int32.ofInt 1), .int (Int32.ofInt 1)], Nat.le_of_ble_eq_true rfl, Nat.le_of_ble_eq_true rfl, Nat.le_refl 0, Nat.le_of_ble_eq_true rfl⟩ hc1 ?_
  show ha_RT ext 102 184 _ [.int (hm_bi r1.1)] _ _ _
  refine ha_RT_if rfl (fun h1 => ?_) (fun h1 => ?_)
  case' refine_1 =>
    show ha_RT ext 102 191 _ _ _ _ _
    rw [hm_bie, Bool.not_eq_true'] at h1
    refine ha_RT_sN [192, 193, 208] (pc' := 208) (L' := [some (.ref 47), some (.int c), some (.int (hm_bi false))]) (st' := []) rfl rfl ?_
    exact kk N1 (false, r1.2) (by rw [hm_rLt hr0 h0, hm_rLf hr1 h1]) hT1
  show ha_RT ext 102 187 _ _ _ _ _
  rw [hm_bie, Bool.not_eq_false'] at h1
  refine ha_RT_sN [188, 192, 193, 208] (pc' := 208) (L' := [some (.ref 47), some (.int c), some (.int (hm_bi true))]) (st' := []) rfl rfl ?_
  exact kk N1 (true, r1.2) (by rw [hm_rLt hr0 h0, hm_rLt hr1 h1]; rfl) hT1
def hm_pc (c : Int32) : Nat := if c.toInt = 112 ∨ c.toInt = 119 then 96 else if c.toInt = 104 then 123 else if c.toInt = 105 then 169 else if c.toInt = 108 ∨ c.toInt = 116 then 159 else 196
set_option maxRecDepth 10000 in
theorem hm_tsw (c : Int32) (x : Nat) : hz_br (.tableswitch 180 104 119 #[107, 153, 180, 180, 143, 180, 180, 180, 80, 180, 180, 180, 143, 180, 180, 80]) 16 x [.int c] = some (hm_pc c, []) := by
  by_cases h : c.toInt < 104 ∨ 119 < c.toInt
  · have e : hm_pc c = 196 := by
      unfold hm_pc
      rw [if_neg (by omega), if_neg (by omega), if_neg (by omega), if_neg (by omega)]
    rw [e]
    show (if c.toInt < 104 ∨ 119 < c.toInt then (hz_tgt 16 180).map (fun t => (t, ([] : List Value))) else _) = _
    rw [if_pos h]
    rfl
  · have : c.toInt = 104 ∨ c.toInt = 105 ∨ c.toInt = 106 ∨ c.toInt = 107 ∨ c.toInt = 108 ∨ c.toInt = 109 ∨ c.toInt = 110 ∨ c.toInt = 111 ∨ c.toInt = 112 ∨ c.toInt = 113 ∨ c.toInt = 114 ∨ c.toInt = 115 ∨ c.toInt = 116 ∨ c.toInt = 117 ∨ c.toInt = 118 ∨ c.toInt = 119 := by omega
    have g : ∀ z : Int, c.toInt = z → c = Int32.ofInt z := fun z hz => by rw [← hz, Int32.ofInt_toInt]
    rcases this with h | h | h | h | h | h | h | h | h | h | h | h | h | h | h | h <;> (rw [g _ h]; rfl)
set_option maxHeartbeats 4000000 in
set_option maxRecDepth 10000 in
theorem hm_c102 (hn : hm_no ext) {M0 M : hzMem} {f : Nat → Int32} {ra en p : Int32} (hT : hm_T M0 f ra en p M) (p99 : p.toInt ≤ 99) : ∃ n M', ha_C ext n 102 [.ref 47] M 3 0 = some (some (.int (hm_bi (hm_rS f ra en p).1)), M') ∧ hm_T M0 f ra en (hm_rS f ra en p).2 M' := by
  have p0 := (hm_Tb hT).1.1
  have key : ha_RT ext 102 0 [some (.ref 47), none, none] [] M 0 (fun rv M' => rv = some (.int (hm_bi (hm_rS f ra en p).1)) ∧ hm_T M0 f ra en (hm_rS f ra en p).2 M') := by
    refine ha_RT_sN [1] (pc' := 1) (L' := [some (.ref 47), none, none]) (st' := [.ref 47]) rfl rfl ?_
    obtain ⟨n1, hc1⟩ := hm_c100 hn hT
    refine ha_RT_call (virt := true) (a := 0) (x := 100) (y := 1) rfl rfl (by decide) (q := _) rfl ⟨hm_Tr hT [], Nat.le_of_ble_eq_true rfl, Nat.le_of_ble_eq_true rfl, Nat.le_refl 0, Nat.le_of_ble_eq_true rfl⟩ hc1 ?_
    show ha_RT ext 102 4 _ [.int (hm_h f ra en p)] _ _ _
    have hR : hm_rS f ra en p = if hm_ls (hm_h f ra en p) = [] then (false, p) else hm_fin f ra en (hm_rL f ra en (hm_ls (hm_h f ra en p)) (p + Int32.ofInt 1)) := rfl
    generalize hm_rS f ra en p = R at hR ⊢
    generalize hm_h f ra en p = c at hR ⊢
    obtain ⟨vs, hO, hs, h5, h6, h7⟩ := hT.2.1
    refine ha_RT_sN [5, 6, 7] (pc' := 7) (L' := [some (.ref 47), some (.int c), none]) (st' := [.ref 47, .ref 47]) rfl rfl ?_
    refine ha_RT_mem rfl rfl (hm_rd hO h5 _ _) ?_
    show ha_RT ext 102 10 _ _ _ _ _
    refine ha_RT_sN [11, 12] (pc' := 12) (L' := [some (.ref 47), some (.int c), none]) (st' := [.int (p + Int32.ofInt 1), .ref 47]) rfl rfl ?_
    have y1 := hm_p1 (p := p) p0 p99
    obtain ⟨M1, hp1, hT1, _⟩ := hm_T5 hT (q := p + Int32.ofInt 1) (by omega) (by omega) 111 []
    refine ha_RT_mem rfl rfl hp1 ?_
    show ha_RT ext 102 15 _ _ _ _ _
    refine ha_RT_sN [16] (pc' := 16) (L' := [some (.ref 47), some (.int c), none]) (st' := [.int c]) rfl rfl ?_
    refine ha_RT_br rfl rfl (hm_tsw c _) ?_
    by_cases g1 : c.toInt = 112 ∨ c.toInt = 119
    · rw [show hm_pc c = 96 from if_pos g1]
      rw [show hm_ls c = [2, 1] from if_pos g1, if_neg (by decide)] at hR
      refine hm_b96 hn hT1 (fun M' r hr hT' => ?_)
      rw [hR, hr]
      exact hm_e102 hn hT'
    by_cases g2 : c.toInt = 104
    · rw [show hm_pc c = 123 by unfold hm_pc; rw [if_neg g1, if_pos g2]]
      rw [show hm_ls c = [1, 1, 1] by unfold hm_ls; rw [if_neg g1, if_pos g2], if_neg (by decide)] at hR
      refine hm_b123 hn hT1 (fun M' r hr hT' => ?_)
      rw [hR, hr]
      exact hm_e102 hn hT'
    by_cases g3 : c.toInt = 105
    · rw [show hm_pc c = 169 by unfold hm_pc; rw [if_neg g1, if_neg g2, if_pos g3]]
      rw [show hm_ls c = [1, 1] by unfold hm_ls; rw [if_neg g1, if_neg g2, if_pos g3], if_neg (by decide)] at hR
      refine hm_b169 hn hT1 (fun M' r hr hT' => ?_)
      rw [hR, hr]
      exact hm_e102 hn hT'
    by_cases g4 : c.toInt = 108 ∨ c.toInt = 116
    · rw [show hm_pc c = 159 by unfold hm_pc; rw [if_neg g1, if_neg g2, if_neg g3, if_pos g4]]
      rw [show hm_ls c = [2] by unfold hm_ls; rw [if_neg g1, if_neg g2, if_neg g3, if_pos g4], if_neg (by decide)] at hR
      refine hm_b159 hn hT1 (fun M' r hr hT' => ?_)
      rw [hR, hr]
      exact hm_e102 hn hT'
    rw [show hm_pc c = 196 by unfold hm_pc; rw [if_neg g1, if_neg g2, if_neg g3, if_neg g4]]
    rw [show hm_ls c = [] by unfold hm_ls; rw [if_neg g1, if_neg g2, if_neg g3, if_neg g4], if_pos rfl] at hR
    obtain ⟨vs2, hO2, hs2, h52, _⟩ := hT1.2.1
    refine ha_RT_sN [197, 198] (pc' := 198) (L' := [some (.ref 47), some (.int c), none]) (st' := [.ref 47, .ref 47]) rfl rfl ?_
    refine ha_RT_mem rfl rfl (hm_rd hO2 h52 _ _) ?_
    show ha_RT ext 102 201 _ _ _ _ _
    refine ha_RT_sN [202, 203] (pc' := 203) (L' := [some (.ref 47), some (.int c), none]) (st' := [.int (p + Int32.ofInt 1 - Int32.ofInt 1), .ref 47]) rfl rfl ?_
    rw [show p + Int32.ofInt 1 - Int32.ofInt 1 = p from Int32.add_sub_cancel p _]
    obtain ⟨M2, hp2, hT2, _⟩ := hm_T5 hT1 (q := p) p0 (by omega) 111 []
    refine ha_RT_mem rfl rfl hp2 ?_
    show ha_RT ext 102 206 _ _ _ _ _
    refine ha_RT_sN [207] (pc' := 207) (L' := [some (.ref 47), some (.int c), none]) (st' := [.int (Int32.ofInt 0)]) rfl rfl ?_
    rw [hR]
    exact ha_RT_ret (rv := some (.int (Int32.ofInt 0))) rfl rfl rfl rfl ⟨rfl, hT2⟩
  obtain ⟨n1, rv, M', h1, rfl, hT'⟩ := key
  exact ⟨n1, M', hm_toC hn (q := hzq_102) rfl (by decide) h1, hT'⟩
end HE
