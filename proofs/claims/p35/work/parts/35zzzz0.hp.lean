/-! PARTIAL CORRECTNESS: what a run answers and leaves, if it ends; the ints of all cells as one function -/
abbrev hp_S : Type := Nat → Nat → Int32
abbrev hp_X : Type := {p : (Nat → Int64) × (Nat → Option Nat) // ∀ j : Nat, j < 8 → p.2 j = some (29 + 2 * j)}
def hp_w (S : hp_S) (A j : Nat) (v : Int32) : hp_S := fun i => if i = A then upd (S A) j v else S i
/-- a write that is done where its place is one of N -/
def hp_wg (N : Nat) (S : hp_S) (A : Nat) (j v : Int32) : hp_S := if hz_in j N = true then hp_w S A j.toNatClampNeg v else S
def hp_cp (S : hp_S) (A B n : Nat) : hp_S := fun i => if i = B then va_cpy (S A) (S B) 0 0 n else S i
def hp_cell (X : hp_X) (i : Nat) (h : Nat → Int32) : (Nat × vp_A) ⊕ (Nat × List Value) := match i with
  | 0 => .inr (2, [.ref 1, .ref 10, .ref 19, .int (h 3), .ref 28, .ref 45, .ref 46])
  | 1 => .inr (1, [.ref 2, .int (h 1), .int (h 2), .int (h 3), .int (h 4), .ref 3, .ref 4, .ref 5, .int (h 8), .ref 6, .ref 7, .ref 8, .ref 9])
  | 2 => .inl (0, 24, .inl h)
  | 3 => .inl (0, 6, .inl h)
  | 4 => .inl (0, 6, .inl h)
  | 5 => .inl (0, 6, .inl h)
  | 6 => .inl (0, 8, .inl h)
  | 7 => .inl (0, 8, .inl h)
  | 8 => .inl (0, 8, .inl h)
  | 9 => .inl (0, 8, .inl h)
  | 10 => .inr (1, [.ref 11, .int (h 1), .int (h 2), .int (h 3), .int (h 4), .ref 12, .ref 13, .ref 14, .int (h 8), .ref 15, .ref 16, .ref 17, .ref 18])
  | 11 => .inl (0, 24, .inl h)
  | 12 => .inl (0, 6, .inl h)
  | 13 => .inl (0, 6, .inl h)
  | 14 => .inl (0, 6, .inl h)
  | 15 => .inl (0, 8, .inl h)
  | 16 => .inl (0, 8, .inl h)
  | 17 => .inl (0, 8, .inl h)
  | 18 => .inl (0, 8, .inl h)
  | 19 => .inr (1, [.ref 20, .int (h 1), .int (h 2), .int (h 3), .int (h 4), .ref 21, .ref 22, .ref 23, .int (h 8), .ref 24, .ref 25, .ref 26, .ref 27])
  | 20 => .inl (0, 24, .inl h)
  | 21 => .inl (0, 6, .inl h)
  | 22 => .inl (0, 6, .inl h)
  | 23 => .inl (0, 6, .inl h)
  | 24 => .inl (0, 8, .inl h)
  | 25 => .inl (0, 8, .inl h)
  | 26 => .inl (0, 8, .inl h)
  | 27 => .inl (0, 8, .inl h)
  | 28 => .inl (2, 8, .inr (.inr (.inr (.inr X.1.2))))
  | 29 => .inr (0, [.int (h 0), .int (h 1), .int (h 2), .int (h 3), .int (h 4), .ref 30])
  | 30 => .inl (0, 100, .inl h)
  | 31 => .inr (0, [.int (h 0), .int (h 1), .int (h 2), .int (h 3), .int (h 4), .ref 32])
  | 32 => .inl (0, 100, .inl h)
  | 33 => .inr (0, [.int (h 0), .int (h 1), .int (h 2), .int (h 3), .int (h 4), .ref 34])
  | 34 => .inl (0, 100, .inl h)
  | 35 => .inr (0, [.int (h 0), .int (h 1), .int (h 2), .int (h 3), .int (h 4), .ref 36])
  | 36 => .inl (0, 100, .inl h)
  | 37 => .inr (0, [.int (h 0), .int (h 1), .int (h 2), .int (h 3), .int (h 4), .ref 38])
  | 38 => .inl (0, 100, .inl h)
  | 39 => .inr (0, [.int (h 0), .int (h 1), .int (h 2), .int (h 3), .int (h 4), .ref 40])
  | 40 => .inl (0, 100, .inl h)
  | 41 => .inr (0, [.int (h 0), .int (h 1), .int (h 2), .int (h 3), .int (h 4), .ref 42])
  | 42 => .inl (0, 100, .inl h)
  | 43 => .inr (0, [.int (h 0), .int (h 1), .int (h 2), .int (h 3), .int (h 4), .ref 44])
  | 44 => .inl (0, 100, .inl h)
  | 45 => .inl (0, 4, .inl h)
  | 46 => .inl (0, 4, .inl h)
  | 47 => .inr (3, [.ref 48, .ref 49, .ref 50, .ref 51, .int (h 4), .int (h 5), .int (h 6), .int (h 7), .ref 52, .int (h 9), .ref 53, .ref 54, .ref 55, .ref 56, .ref 57, .ref 58, .int (h 16)])
  | 48 => .inl (0, 80, .inl h)
  | 49 => .inl (0, 80, .inl h)
  | 50 => .inl (0, 80, .inl h)
  | 51 => .inl (0, 80, .inl h)
  | 52 => .inl (0, 3, .inl h)
  | 53 => .inl (0, 8, .inl h)
  | 54 => .inl (0, 8, .inl h)
  | 55 => .inl (0, 8, .inl h)
  | 56 => .inl (0, 8, .inl h)
  | 57 => .inl (0, 8, .inl h)
  | 58 => .inl (0, 800, .inl h)
  | 59 => .inl (1, 1, .inr (.inl X.1.1))
  | _ => .inr (0, [])
def hp_mem (X : hp_X) (S : hp_S) : hzMem := (List.range 60).map (fun i => hp_cell X i (S i))
theorem hp_get (X : hp_X) (S : hp_S) {A : Nat} (h : A < 60) : (hp_mem X S)[A]? = some (hp_cell X A (S A)) := by
  simp [hp_mem, List.getElem?_range h]
theorem hp_set (X : hp_X) (S S' : hp_S) {A : Nat} {e : (Nat × vp_A) ⊕ (Nat × List Value)} (h : A < 60) (he : e = hp_cell X A (S' A)) (ho : ∀ i : Nat, i ≠ A → S' i = S i) : (hp_mem X S).set A e = hp_mem X S' := by
  refine List.ext_getElem? fun j => ?_
  by_cases q : j = A
  · subst q
    rw [List.getElem?_set_self (by simp [hp_mem, h]), hp_get X S' h, he]
  · rw [List.getElem?_set_ne (fun z => q z.symm)]
    by_cases hj : j < 60
    · rw [hp_get X S hj, hp_get X S' hj, ho j q]
    · rw [List.getElem?_eq_none (by simp [hp_mem]; omega), List.getElem?_eq_none (by simp [hp_mem]; omega)]
theorem hp_wo (S : hp_S) (A j : Nat) (v : Int32) : ∀ i : Nat, i ≠ A → hp_w S A j v i = S i := fun i q => if_neg q
theorem hp_wgo (N : Nat) (S : hp_S) (A : Nat) (j v : Int32) : ∀ i : Nat, i ≠ A → hp_wg N S A j v i = S i := fun i q => by
  unfold hp_wg
  split
  · exact hp_wo S A _ v i q
  · rfl
theorem hp_ws (S : hp_S) (A j : Nat) (v : Int32) : hp_w S A j v A = upd (S A) j v := if_pos rfl
theorem hp_cpo (S : hp_S) (A B n : Nat) : ∀ i : Nat, i ≠ B → hp_cp S A B n i = S i := fun i q => if_neg q
theorem hp_cps (S : hp_S) (A B n : Nat) : hp_cp S A B n B = va_cpy (S A) (S B) 0 0 n := if_pos rfl
abbrev hp_b (b : Nat) : Prop := b = 1 ∨ b = 10 ∨ b = 19
abbrev hp_c (c : Nat) : Prop := c = 48 ∨ c = 49 ∨ c = 50 ∨ c = 51
theorem hp_e8 {P : Nat → Prop} {e : Nat} (he : e < 8) (h : P 0 ∧ P 1 ∧ P 2 ∧ P 3 ∧ P 4 ∧ P 5 ∧ P 6 ∧ P 7) : P e := by
  obtain ⟨h0, h1, h2, h3, h4, h5, h6, h7⟩ := h
  match e, he with
  | 0, _ => exact h0
  | 1, _ => exact h1
  | 2, _ => exact h2
  | 3, _ => exact h3
  | 4, _ => exact h4
  | 5, _ => exact h5
  | 6, _ => exact h6
  | 7, _ => exact h7
abbrev hp_fs (b : Nat) (h : Nat → Int32) : List Value := [.ref (b + 1), .int (h 1), .int (h 2), .int (h 3), .int (h 4), .ref (b + 2), .ref (b + 3), .ref (b + 4), .int (h 8), .ref (b + 5), .ref (b + 6), .ref (b + 7), .ref (b + 8)]
theorem hp_bl {b : Nat} (hb : hp_b b) (i : Nat) (hi : i < 9) : b + i < 60 := by rcases hb with rfl | rfl | rfl <;> omega
theorem hp_b0 {b : Nat} (hb : hp_b b) (X : hp_X) (h : Nat → Int32) : hp_cell X b h = .inr (1, hp_fs b h) := by rcases hb with rfl | rfl | rfl <;> rfl
theorem hp_b1 {b : Nat} (hb : hp_b b) (X : hp_X) (h : Nat → Int32) : hp_cell X (b + 1) h = .inl (0, 24, .inl h) := by rcases hb with rfl | rfl | rfl <;> rfl
theorem hp_b2 {b : Nat} (hb : hp_b b) (X : hp_X) (h : Nat → Int32) : hp_cell X (b + 2) h = .inl (0, 6, .inl h) := by rcases hb with rfl | rfl | rfl <;> rfl
theorem hp_b3 {b : Nat} (hb : hp_b b) (X : hp_X) (h : Nat → Int32) : hp_cell X (b + 3) h = .inl (0, 6, .inl h) := by rcases hb with rfl | rfl | rfl <;> rfl
theorem hp_b4 {b : Nat} (hb : hp_b b) (X : hp_X) (h : Nat → Int32) : hp_cell X (b + 4) h = .inl (0, 6, .inl h) := by rcases hb with rfl | rfl | rfl <;> rfl
theorem hp_b5 {b : Nat} (hb : hp_b b) (X : hp_X) (h : Nat → Int32) : hp_cell X (b + 5) h = .inl (0, 8, .inl h) := by rcases hb with rfl | rfl | rfl <;> rfl
theorem hp_b6 {b : Nat} (hb : hp_b b) (X : hp_X) (h : Nat → Int32) : hp_cell X (b + 6) h = .inl (0, 8, .inl h) := by rcases hb with rfl | rfl | rfl <;> rfl
theorem hp_b7 {b : Nat} (hb : hp_b b) (X : hp_X) (h : Nat → Int32) : hp_cell X (b + 7) h = .inl (0, 8, .inl h) := by rcases hb with rfl | rfl | rfl <;> rfl
theorem hp_b8 {b : Nat} (hb : hp_b b) (X : hp_X) (h : Nat → Int32) : hp_cell X (b + 8) h = .inl (0, 8, .inl h) := by rcases hb with rfl | rfl | rfl <;> rfl
theorem hp_cl {c : Nat} (hc : hp_c c) : c < 60 := by rcases hc with rfl | rfl | rfl | rfl <;> omega
theorem hp_cc {c : Nat} (hc : hp_c c) (X : hp_X) (h : Nat → Int32) : hp_cell X c h = .inl (0, 80, .inl h) := by rcases hc with rfl | rfl | rfl | rfl <;> rfl
abbrev hp_fe (e : Nat) (h : Nat → Int32) : List Value := [.int (h 0), .int (h 1), .int (h 2), .int (h 3), .int (h 4), .ref (30 + 2 * e)]
theorem hp_s0 {e : Nat} (he : e < 8) (X : hp_X) (h : Nat → Int32) : hp_cell X (29 + 2 * e) h = .inr (0, hp_fe e h) := hp_e8 (P := fun e => hp_cell X (29 + 2 * e) h = .inr (0, hp_fe e h)) he ⟨rfl, rfl, rfl, rfl, rfl, rfl, rfl, rfl⟩
theorem hp_s1 {e : Nat} (he : e < 8) (X : hp_X) (h : Nat → Int32) : hp_cell X (30 + 2 * e) h = .inl (0, 100, .inl h) := hp_e8 (P := fun e => hp_cell X (30 + 2 * e) h = .inl (0, 100, .inl h)) he ⟨rfl, rfl, rfl, rfl, rfl, rfl, rfl, rfl⟩
theorem hp_sl0 {e : Nat} (he : e < 8) : 29 + 2 * e < 60 := by omega
theorem hp_sl1 {e : Nat} (he : e < 8) : 30 + 2 * e < 60 := by omega
abbrev hp_f0 (h : Nat → Int32) : List Value := [.ref 1, .ref 10, .ref 19, .int (h 3), .ref 28, .ref 45, .ref 46]
abbrev hp_f47 (h : Nat → Int32) : List Value := [.ref 48, .ref 49, .ref 50, .ref 51, .int (h 4), .int (h 5), .int (h 6), .int (h 7), .ref 52, .int (h 9), .ref 53, .ref 54, .ref 55, .ref 56, .ref 57, .ref 58, .int (h 16)]
theorem hp_c0 (X : hp_X) (h : Nat → Int32) : hp_cell X 0 h = .inr (2, hp_f0 h) := rfl
theorem hp_c47 (X : hp_X) (h : Nat → Int32) : hp_cell X 47 h = .inr (3, hp_f47 h) := rfl
theorem hp_w0 (X : hp_X) (h : Nat → Int32) (v : Int32) : hp_cell X 0 (upd h 3 v) = .inr (2, (hp_f0 h).set 3 (.int v)) := rfl
theorem hp_w47 (X : hp_X) (h : Nat → Int32) (y : Nat) (v : Int32) (hy : y = 4 ∨ y = 5 ∨ y = 6 ∨ y = 7 ∨ y = 9 ∨ y = 16) : hp_cell X 47 (upd h y v) = .inr (3, (hp_f47 h).set y (.int v)) := by rcases hy with rfl | rfl | rfl | rfl | rfl | rfl <;> rfl
theorem hp_wb {b : Nat} (hb : hp_b b) (X : hp_X) (h : Nat → Int32) (y : Nat) (v : Int32) (hy : y = 1 ∨ y = 2 ∨ y = 3 ∨ y = 4 ∨ y = 8) : hp_cell X b (upd h y v) = .inr (1, (hp_fs b h).set y (.int v)) := by
  rw [hp_b0 hb]
  rcases hy with rfl | rfl | rfl | rfl | rfl <;> rfl
theorem hp_we {e : Nat} (he : e < 8) (X : hp_X) (h : Nat → Int32) (y : Nat) (v : Int32) (hy : y = 0 ∨ y = 1 ∨ y = 2 ∨ y = 3 ∨ y = 4) : hp_cell X (29 + 2 * e) (upd h y v) = .inr (0, (hp_fe e h).set y (.int v)) := by
  rw [hp_s0 he]
  rcases hy with rfl | rfl | rfl | rfl | rfl <;> rfl
/-! the judgement -/
def hp_T {α : Type} (n k pc : Nat) (L : List (Option Value)) (st : List Value) (M : hzMem) (φ : α → Option Value × hzMem) (R : α) : Prop := ∀ m : Nat, m ≤ n → ∀ (b : Nat) (r : Option Value × hzMem), hz_run hx_ext m k pc L st M b = some r → r = φ R
abbrev hp_i (X : hp_X) (S : hp_S) (v : Int32) : Option Value × hzMem := (some (.int v), hp_mem X S)
abbrev hp_l (X : hp_X) (S : hp_S) (v : Int64) : Option Value × hzMem := (some (.long v), hp_mem X S)
abbrev hp_is (X : hp_X) (R : Int32 × hp_S) : Option Value × hzMem := (some (.int R.1), hp_mem X R.2)
abbrev hp_ls (X : hp_X) (R : Int64 × hp_S) : Option Value × hzMem := (some (.long R.1), hp_mem X R.2)
abbrev hp_v (X : hp_X) (S : hp_S) : Option Value × hzMem := (none, hp_mem X S)
/-- what a call answers, if it ends -/
def hp_K {α : Type} (x : Nat) (As : List Value) (M : hzMem) (φ : α → Option Value × hzMem) (R : α) : Prop := ∃ q, hzM[x]? = some q ∧ q.2.2.2.2.2.2.2.2.1 ≠ 0 ∧ ∀ n : Nat, hp_T n x 0 (hz_ent q.2.2.1 As) [] M φ R
theorem hp_mk {α : Type} {x : Nat} {As : List Value} {M : hzMem} {φ : α → Option Value × hzMem} {R : α} {q : hzN} {L : List (Option Value)} (hq : hzM[x]? = some q) (hz : q.2.2.2.2.2.2.2.2.1 ≠ 0) (hL : hz_ent q.2.2.1 As = L) (h : ∀ n : Nat, hp_T n x 0 L [] M φ R) : hp_K x As M φ R := ⟨q, hq, hz, fun n => by rw [hL]; exact h n⟩
section HP
variable {α : Type} {n k pc pc' : Nat} {L : List (Option Value)} {st : List Value} {M : hzMem} {φ : α → Option Value × hzMem} {R A B : α} {a : Int} {x y w : Nat} {X : hp_X} {S : hp_S}
theorem hp_le {n' : Nat} (h : n ≤ n') (H : hp_T n' k pc L st M φ R) : hp_T n k pc L st M φ R := fun m hm => H m (Nat.le_trans hm h)
theorem hp_0 : hp_T 0 k pc L st M φ R := by
  intro m hm b r h
  cases Nat.le_zero.mp hm
  cases h
theorem hp_1 {L' : List (Option Value)} {st' : List Value} (e : hz_s1 k pc L st = some (pc', L', st')) (kk : hp_T n k pc' L' st' M φ R) : hp_T (n + 1) k pc L st M φ R := by
  intro m hm b r h
  cases m with
  | zero => cases h
  | succ m =>
    rw [hz_run] at h
    unfold hz_s1 at e
    split at e
    · rename_i i a x y h' hf
      rw [hf] at h
      dsimp only at h
      split at e
      · rename_i hk
        obtain ⟨s, h1, h2⟩ := Option.map_eq_some_iff.mp e
        cases h2
        rw [hk] at h
        try dsimp only at h
        rw [h1] at h
        exact kk m (by omega) b r h
      · rename_i hk
        obtain ⟨s, h1, h2⟩ := Option.map_eq_some_iff.mp e
        cases h2
        rw [hk] at h
        try dsimp only at h
        rw [h1] at h
        exact kk m (by omega) b r h
      · rename_i hk
        obtain ⟨s, h1, h2⟩ := Option.map_eq_some_iff.mp e
        cases h2
        rw [hk] at h
        try dsimp only at h
        rw [h1] at h
        exact kk m (by omega) b r h
      · cases e
    · cases e
theorem hp_sN : ∀ (ps : List Nat) {pc pc' : Nat} {L : List (Option Value)} {st : List Value} {L' : List (Option Value)} {st' : List Value}, hz_sN k ps pc L st = some (L', st') → ps.getLastD pc = pc' → hp_T n k pc' L' st' M φ R → hp_T n k pc L st M φ R
  | [], pc, pc', L, st, L', st', h, hp, kk => by cases h; cases hp; exact kk
  | p :: ps, pc, pc', L, st, L', st', h, hp, kk => by
    rw [hz_sN] at h
    split at h
    · rename_i q L1 st1 h1
      cases hb : Nat.beq q p with
      | true =>
        rw [hb] at h
        have e := Nat.eq_of_beq_eq_true hb
        subst e
        refine hp_le (Nat.le_succ n) (hp_1 h1 (hp_sN ps h ?_ kk))
        rw [← hp]
        cases ps <;> rfl
      | false => rw [hb] at h; cases h
    · cases h
/-- the same, with a step told: for the way back to a loop's head -/
theorem hp_sB (p : Nat) (ps : List Nat) {L' : List (Option Value)} {st' : List Value} (h : hz_sN k (p :: ps) pc L st = some (L', st')) (hp : (p :: ps).getLastD pc = pc') (kk : hp_T n k pc' L' st' M φ R) : hp_T (n + 1) k pc L st M φ R := by
  rw [hz_sN] at h
  split at h
  · rename_i q L1 st1 h1
    cases hb : Nat.beq q p with
    | true =>
      rw [hb] at h
      have e := Nat.eq_of_beq_eq_true hb
      subst e
      refine hp_1 h1 (hp_sN ps h ?_ kk)
      rw [← hp]
      cases ps <;> rfl
    | false => rw [hb] at h; cases h
  · cases h
/-- one step, whatever it is -/
theorem hp_q {i : Instr} (hf : hz_fetch k pc = some (i, a, x, y, w)) (kk : ∀ m : Nat, m < n → ∀ (b : Nat) (r : Option Value × hzMem), hz_run hx_ext (m + 1) k pc L st M b = some r → r = φ R) : hp_T n k pc L st M φ R := by
  intro m hm b r h
  cases m with
  | zero => cases h
  | succ m => exact kk m (by omega) b r h
theorem hp_br {i : Instr} {st' : List Value} (hf : hz_fetch k pc = some (i, a, x, y, w)) (hk : hz_kind i = 2) (e : hz_br i pc x st = some (pc', st')) (kk : hp_T n k pc' L st' M φ R) : hp_T n k pc L st M φ R := by
  refine hp_q hf fun m hm b r h => ?_
  rw [hz_run, hf] at h
  dsimp only at h
  rw [hk] at h
  try dsimp only at h
  rw [e] at h
  exact kk m (by omega) b r h
theorem hp_ic {c : Jvm.ClassFile.Cond} {o : Int} {v u : Int32} (hf : hz_fetch k pc = some (.if_icmp c o, a, x, y, w)) (hp : pc + 3 = pc') (k1 : hz_cmp c v u = true → hp_T n k x L st M φ A) (k2 : hz_cmp c v u = false → hp_T n k pc' L st M φ B) : hp_T n k pc L (.int u :: .int v :: st) M φ (if hz_cmp c v u = true then A else B) := by
  subst hp
  cases hc : hz_cmp c v u with
  | true => rw [if_pos rfl]; exact hp_br (pc' := x) (st' := st) hf rfl (by simp only [hz_br, hc, if_true]) (k1 hc)
  | false => rw [if_neg Bool.false_ne_true]; exact hp_br (pc' := pc + 3) (st' := st) hf rfl (by simp only [hz_br, hc, Bool.false_eq_true, if_false]) (k2 hc)
theorem hp_if {c : Jvm.ClassFile.Cond} {o : Int} {v : Int32} (hf : hz_fetch k pc = some (.ifCond c o, a, x, y, w)) (hp : pc + 3 = pc') (k1 : hz_cmp c v 0 = true → hp_T n k x L st M φ A) (k2 : hz_cmp c v 0 = false → hp_T n k pc' L st M φ B) : hp_T n k pc L (.int v :: st) M φ (if hz_cmp c v 0 = true then A else B) := by
  subst hp
  cases hc : hz_cmp c v 0 with
  | true => rw [if_pos rfl]; exact hp_br (pc' := x) (st' := st) hf rfl (by simp only [hz_br, hc, if_true]) (k1 hc)
  | false => rw [if_neg Bool.false_ne_true]; exact hp_br (pc' := pc + 3) (st' := st) hf rfl (by simp only [hz_br, hc, Bool.false_eq_true, if_false]) (k2 hc)
theorem hp_nt {b : Bool} (h : b = false) : ¬ b = true := by rw [h]; exact Bool.false_ne_true
theorem hp_ic2 {c : Jvm.ClassFile.Cond} {o : Int} {v u : Int32} (hf : hz_fetch k pc = some (.if_icmp c o, a, x, y, w)) (hp : pc + 3 = pc') (k1 : hz_cmp c v u = true → hp_T n k x L st M φ R) (k2 : hz_cmp c v u = false → hp_T n k pc' L st M φ R) : hp_T n k pc L (.int u :: .int v :: st) M φ R := by
  have := hp_ic hf hp k1 k2
  rwa [ite_self] at this
theorem hp_if2 {c : Jvm.ClassFile.Cond} {o : Int} {v : Int32} (hf : hz_fetch k pc = some (.ifCond c o, a, x, y, w)) (hp : pc + 3 = pc') (k1 : hz_cmp c v 0 = true → hp_T n k x L st M φ R) (k2 : hz_cmp c v 0 = false → hp_T n k pc' L st M φ R) : hp_T n k pc L (.int v :: st) M φ R := by
  have := hp_if hf hp k1 k2
  rwa [ite_self] at this
theorem hp_brB {i : Instr} {st' : List Value} (hf : hz_fetch k pc = some (i, a, x, y, w)) (hk : hz_kind i = 2) (e : hz_br i pc x st = some (pc', st')) (kk : hp_T n k pc' L st' M φ R) : hp_T (n + 1) k pc L st M φ R := by
  refine hp_1 ?_ kk
  unfold hz_s1
  rw [hf]
  dsimp only
  rw [hk]
  try dsimp only
  rw [e]
  rfl
/-- a comparison that goes back to a loop's head -/
theorem hp_ic2B {c : Jvm.ClassFile.Cond} {o : Int} {v u : Int32} (hf : hz_fetch k pc = some (.if_icmp c o, a, x, y, w)) (hp : pc + 3 = pc') (k1 : hz_cmp c v u = true → hp_T n k x L st M φ R) (k2 : hz_cmp c v u = false → hp_T (n + 1) k pc' L st M φ R) : hp_T (n + 1) k pc L (.int u :: .int v :: st) M φ R := by
  subst hp
  cases hc : hz_cmp c v u with
  | true => exact hp_brB (pc' := x) (st' := st) hf rfl (by simp only [hz_br, hc, if_true]) (k1 hc)
  | false => exact hp_br (pc' := pc + 3) (st' := st) hf rfl (by simp only [hz_br, hc, Bool.false_eq_true, if_false]) (k2 hc)
/-- one case of a switch; the stack stays for the next -/
theorem hp_sw {i : Instr} {v : Int32} {c : Int} {t : Nat} (hf : hz_fetch k pc = some (i, a, x, y, w)) (hk : hz_kind i = 2) (hc : (Int32.ofInt c).toInt = c) (e : hz_br i pc x (.int (Int32.ofInt c) :: st) = some (t, st)) (k1 : v = Int32.ofInt c → hp_T n k t L st M φ A) (k2 : v.toInt ≠ c → hp_T n k pc L (.int v :: st) M φ B) : hp_T n k pc L (.int v :: st) M φ (if v = Int32.ofInt c then A else B) := by
  by_cases q : v = Int32.ofInt c
  · rw [if_pos q]
    refine hp_br hf hk ?_ (k1 q)
    rw [q]
    exact e
  · rw [if_neg q]
    refine k2 (fun z => q ?_)
    apply Int32.toInt_inj.mp
    rw [z, hc]
theorem hp_sw2 {i : Instr} {v : Int32} {c : Int} {t : Nat} (hf : hz_fetch k pc = some (i, a, x, y, w)) (hk : hz_kind i = 2) (hc : (Int32.ofInt c).toInt = c) (e : hz_br i pc x (.int (Int32.ofInt c) :: st) = some (t, st)) (k1 : v = Int32.ofInt c → hp_T n k t L st M φ R) (k2 : v.toInt ≠ c → hp_T n k pc L (.int v :: st) M φ R) : hp_T n k pc L (.int v :: st) M φ R := by
  have := hp_sw hf hk hc e k1 k2
  rwa [ite_self] at this
/-- one case of a tableswitch, of a lookupswitch -/
theorem hp_st {d lo hi : Int} {offs : Array Int} {v : Int32} {c : Int} {t : Nat} (hf : hz_fetch k pc = some (.tableswitch d lo hi offs, a, x, y, w)) (hc : (Int32.ofInt c).toInt = c) (hr : lo ≤ c ∧ c ≤ hi) (e : (offs[(c - lo).toNat]?).bind (fun o => hz_tgt pc o) = some t) (k1 : v = Int32.ofInt c → hp_T n k t L st M φ A) (k2 : v.toInt ≠ c → hp_T n k pc L (.int v :: st) M φ B) : hp_T n k pc L (.int v :: st) M φ (if v = Int32.ofInt c then A else B) := by
  refine hp_sw hf rfl hc ?_ k1 k2
  show (if (Int32.ofInt c).toInt < lo ∨ hi < (Int32.ofInt c).toInt then (hz_tgt pc d).map (fun t => (t, st)) else (offs[((Int32.ofInt c).toInt - lo).toNat]?).bind (fun o => (hz_tgt pc o).map (fun t => (t, st)))) = _
  rw [hc, if_neg (by omega)]
  cases ho : offs[(c - lo).toNat]? with
  | none => rw [ho] at e; cases e
  | some o =>
    rw [ho] at e
    have e' : hz_tgt pc o = some t := e
    show (hz_tgt pc o).map (fun t => (t, st)) = _
    rw [e']
    rfl
theorem hp_st2 {d lo hi : Int} {offs : Array Int} {v : Int32} {c : Int} {t : Nat} (hf : hz_fetch k pc = some (.tableswitch d lo hi offs, a, x, y, w)) (hc : (Int32.ofInt c).toInt = c) (hr : lo ≤ c ∧ c ≤ hi) (e : (offs[(c - lo).toNat]?).bind (fun o => hz_tgt pc o) = some t) (k1 : v = Int32.ofInt c → hp_T n k t L st M φ R) (k2 : v.toInt ≠ c → hp_T n k pc L (.int v :: st) M φ R) : hp_T n k pc L (.int v :: st) M φ R := by
  have := hp_st hf hc hr e k1 k2
  rwa [ite_self] at this
theorem hp_td {d lo hi : Int} {offs : Array Int} {v : Int32} {t : Nat} (ks : List Int) (hf : hz_fetch k pc = some (.tableswitch d lo hi offs, a, x, y, w)) (hz : lo + (offs.size : Int) = hi + 1) (e : hz_tgt pc d = some t) (hk : (List.range offs.size).all (fun j => ks.contains (lo + (j : Int)) || decide ((offs[j]?).bind (fun o => hz_tgt pc o) = some t)) = true) (hv : ∀ c ∈ ks, v.toInt ≠ c) (kk : hp_T n k t L st M φ R) : hp_T n k pc L (.int v :: st) M φ R := by
  refine hp_br (pc' := t) (st' := st) hf rfl ?_ kk
  show (if v.toInt < lo ∨ hi < v.toInt then (hz_tgt pc d).map (fun t => (t, st)) else (offs[(v.toInt - lo).toNat]?).bind (fun o => (hz_tgt pc o).map (fun t => (t, st)))) = _
  by_cases q : v.toInt < lo ∨ hi < v.toInt
  · rw [if_pos q, e]
    rfl
  · rw [if_neg q]
    have h1 := List.all_eq_true.mp hk (v.toInt - lo).toNat (List.mem_range.mpr (by omega))
    rw [Bool.or_eq_true] at h1
    rcases h1 with h1 | h1
    · rw [List.contains_iff_mem] at h1
      exact absurd (show v.toInt = lo + ((v.toInt - lo).toNat : Int) by omega) (hv _ h1)
    · have h2 := of_decide_eq_true h1
      cases ho : offs[(v.toInt - lo).toNat]? with
      | none => rw [ho] at h2; cases h2
      | some o =>
        rw [ho] at h2
        have e' : hz_tgt pc o = some t := h2
        show (hz_tgt pc o).map (fun t => (t, st)) = _
        rw [e']
        rfl
theorem hp_sl {d : Int} {ps : Array (Int × Int)} {v : Int32} {c : Int} {t : Nat} (hf : hz_fetch k pc = some (.lookupswitch d ps, a, x, y, w)) (hc : (Int32.ofInt c).toInt = c) (hs : (ps.toList.zip (ps.toList.drop 1)).all (fun (a, next) => a.1 < next.1) = true) (e : hz_tgt pc (Op.lookupswitch.offset ps.toList d c) = some t) (k1 : v = Int32.ofInt c → hp_T n k t L st M φ A) (k2 : v.toInt ≠ c → hp_T n k pc L (.int v :: st) M φ B) : hp_T n k pc L (.int v :: st) M φ (if v = Int32.ofInt c then A else B) := by
  refine hp_sw hf rfl hc ?_ k1 k2
  show (if (ps.toList.zip (ps.toList.drop 1)).all (fun (a, next) => a.1 < next.1) = true then (hz_tgt pc (Op.lookupswitch.offset ps.toList d (Int32.ofInt c).toInt)).map (fun t => (t, st)) else none) = _
  rw [if_pos hs, hc, e]
  rfl
theorem hp_sl2 {d : Int} {ps : Array (Int × Int)} {v : Int32} {c : Int} {t : Nat} (hf : hz_fetch k pc = some (.lookupswitch d ps, a, x, y, w)) (hc : (Int32.ofInt c).toInt = c) (hs : (ps.toList.zip (ps.toList.drop 1)).all (fun (a, next) => a.1 < next.1) = true) (e : hz_tgt pc (Op.lookupswitch.offset ps.toList d c) = some t) (k1 : v = Int32.ofInt c → hp_T n k t L st M φ R) (k2 : v.toInt ≠ c → hp_T n k pc L (.int v :: st) M φ R) : hp_T n k pc L (.int v :: st) M φ R := by
  have := hp_sl hf hc hs e k1 k2
  rwa [ite_self] at this
theorem hp_ts {d lo hi : Int} {offs : Array Int} {v : Int32} {t : Nat} (hf : hz_fetch k pc = some (.tableswitch d lo hi offs, a, x, y, w)) (h : v.toInt < lo ∨ hi < v.toInt) (e : hz_tgt pc d = some t) (kk : hp_T n k t L st M φ R) : hp_T n k pc L (.int v :: st) M φ R := by
  refine hp_br (pc' := t) (st' := st) hf rfl ?_ kk
  show (if v.toInt < lo ∨ hi < v.toInt then (hz_tgt pc d).map (fun t => (t, st)) else _) = _
  rw [if_pos h, e]
  rfl
theorem hp_lk {d : Int} {ps : Array (Int × Int)} {v : Int32} {t : Nat} (hf : hz_fetch k pc = some (.lookupswitch d ps, a, x, y, w)) (hs : (ps.toList.zip (ps.toList.drop 1)).all (fun (a, next) => a.1 < next.1) = true) (h : Op.lookupswitch.offset ps.toList d v.toInt = d) (e : hz_tgt pc d = some t) (kk : hp_T n k t L st M φ R) : hp_T n k pc L (.int v :: st) M φ R := by
  refine hp_br (pc' := t) (st' := st) hf rfl ?_ kk
  show (if (ps.toList.zip (ps.toList.drop 1)).all (fun (a, next) => a.1 < next.1) = true then (hz_tgt pc (Op.lookupswitch.offset ps.toList d v.toInt)).map (fun t => (t, st)) else none) = _
  rw [if_pos hs, h, e]
  rfl
theorem hp_mm {i : Instr} (hf : hz_fetch k pc = some (i, a, x, y, w)) (hk : hz_kind i = 3) (hp : pc + hz_len i = pc') (kk : ∀ (st' : List Value) (M' : hzMem), hz_mem i x y st M = some (st', M') → hp_T n k pc' L st' M' φ R) : hp_T n k pc L st M φ R := by
  subst hp
  refine hp_q hf fun m hm b r h => ?_
  rw [hz_run, hf] at h
  dsimp only at h
  rw [hk] at h
  try dsimp only at h
  cases e : hz_mem i x y st M with
  | none => rw [e] at h; cases h
  | some q =>
    obtain ⟨st', M'⟩ := q
    rw [e] at h
    exact kk st' M' e m (by omega) b r h
theorem hp_gf {i : Nat} {A : Nat} {fs : List Value} {v : Value} (hf : hz_fetch k pc = some (.getfield i, a, x, y, w)) (hA : A < 60) (hc : hp_cell X A (S A) = .inr (x, fs)) (hy : fs[y]? = some v) (hp : pc + 3 = pc') (kk : hp_T n k pc' L (v :: st) (hp_mem X S) φ R) : hp_T n k pc L (.ref A :: st) (hp_mem X S) φ R := by
  refine hp_mm hf rfl hp fun st' M' e => ?_
  simp only [hz_mem, hp_get X S hA, hc, hy, if_true, Option.map_some, Option.some.injEq, Prod.mk.injEq] at e
  obtain ⟨rfl, rfl⟩ := e
  exact kk
theorem hp_pf {i : Nat} {A : Nat} {fs : List Value} {v : Int32} (hf : hz_fetch k pc = some (.putfield i, a, x, y, w)) (hA : A < 60) (hc : hp_cell X A (S A) = .inr (x, fs)) (hd : hp_cell X A (upd (S A) y v) = .inr (x, fs.set y (.int v))) (hp : pc + 3 = pc') (kk : hp_T n k pc' L st (hp_mem X (hp_w S A y v)) φ R) : hp_T n k pc L (.int v :: .ref A :: st) (hp_mem X S) φ R := by
  refine hp_mm hf rfl hp fun st' M' e => ?_
  simp only [hz_mem, hp_get X S hA, hc] at e
  split at e
  · cases e
    rw [hp_set X S (hp_w S A y v) hA (by rw [hp_ws, hd]) (hp_wo S A y v)]
    exact kk
  · cases e
theorem hp_al {A N : Nat} {j : Int32} (hf : hz_fetch k pc = some (.iaload, a, x, y, w)) (hA : A < 60) (hc : hp_cell X A (S A) = .inl (0, N, .inl (S A))) (hp : pc + 1 = pc') (kk : hp_T n k pc' L (.int (S A j.toNatClampNeg) :: st) (hp_mem X S) φ R) : hp_T n k pc L (.int j :: .ref A :: st) (hp_mem X S) φ R := by
  refine hp_mm hf rfl hp fun st' M' e => ?_
  simp only [hz_mem, hp_get X S hA, hc] at e
  split at e
  · cases e; exact kk
  · cases e
/-- the same, with what the read tells of its place -/
theorem hp_ag {A N : Nat} {j : Int32} (hf : hz_fetch k pc = some (.iaload, a, x, y, w)) (hA : A < 60) (hc : hp_cell X A (S A) = .inl (0, N, .inl (S A))) (hp : pc + 1 = pc') (kk : hz_in j N = true → hp_T n k pc' L (.int (S A j.toNatClampNeg) :: st) (hp_mem X S) φ R) : hp_T n k pc L (.int j :: .ref A :: st) (hp_mem X S) φ R := by
  refine hp_mm hf rfl hp fun st' M' e => ?_
  simp only [hz_mem, hp_get X S hA, hc] at e
  split at e
  · rename_i h
    cases e; exact kk h.2
  · cases e
theorem hp_as {A N : Nat} {j v : Int32} (hf : hz_fetch k pc = some (.iastore, a, x, y, w)) (hA : A < 60) (hc : ∀ h : Nat → Int32, hp_cell X A h = .inl (0, N, .inl h)) (hp : pc + 1 = pc') (kk : hp_T n k pc' L st (hp_mem X (hp_w S A j.toNatClampNeg v)) φ R) : hp_T n k pc L (.int v :: .int j :: .ref A :: st) (hp_mem X S) φ R := by
  refine hp_mm hf rfl hp fun st' M' e => ?_
  simp only [hz_mem, hp_get X S hA, hc] at e
  split at e
  · cases e
    rw [hp_set X S (hp_w S A j.toNatClampNeg v) hA (by rw [hp_ws, hc]) (hp_wo S A _ v)]
    exact kk
  · cases e
theorem hp_asg {A N : Nat} {j v : Int32} (hf : hz_fetch k pc = some (.iastore, a, x, y, w)) (hA : A < 60) (hc : ∀ h : Nat → Int32, hp_cell X A h = .inl (0, N, .inl h)) (hp : pc + 1 = pc') (kk : hp_T n k pc' L st (hp_mem X (hp_wg N S A j v)) φ R) : hp_T n k pc L (.int v :: .int j :: .ref A :: st) (hp_mem X S) φ R := by
  refine hp_mm hf rfl hp fun st' M' e => ?_
  simp only [hz_mem, hp_get X S hA, hc] at e
  split at e
  · rename_i h
    cases e
    rw [hp_set X S (hp_w S A j.toNatClampNeg v) hA (by rw [hp_ws, hc]) (hp_wo S A _ v)]
    unfold hp_wg at kk
    rw [if_pos h.2] at kk
    exact kk
  · cases e
theorem hp_aa {j : Int32} (hf : hz_fetch k pc = some (.aaload, a, x, y, w)) (hp : pc + 1 = pc') (kk : j.toNatClampNeg < 8 → hp_T n k pc' L (.ref (29 + 2 * j.toNatClampNeg) :: st) (hp_mem X S) φ R) : hp_T n k pc L (.int j :: .ref 28 :: st) (hp_mem X S) φ R := by
  refine hp_mm hf rfl hp fun st' M' e => ?_
  have hc : hp_cell X 28 (S 28) = .inl (2, 8, .inr (.inr (.inr (.inr X.1.2)))) := rfl
  simp only [hz_mem, hp_get X S (show 28 < 60 by decide), hc] at e
  split at e
  · rename_i h
    have h8 : j.toNatClampNeg < 8 := by
      have := h.2
      simp only [hz_in, Bool.and_eq_true, decide_eq_true_eq] at this
      show j.toInt.toNat < 8
      omega
    rw [X.2 _ h8] at e
    cases e
    exact kk h8
  · cases e
theorem hp_kr {i : Instr} (hf : hz_fetch k pc = some (i, a, x, y, w)) (hk : hz_kind i = 4) (kk : ∀ (ret : Option FieldType) (o : Option Value), hz_ret i ret st = some o → (o, M) = φ R) : hp_T n k pc L st M φ R := by
  refine hp_q hf fun m hm b r h => ?_
  rw [hz_run, hf] at h
  dsimp only at h
  rw [hk] at h
  try dsimp only at h
  have h' : (match hzM[k]? with
    | some (_, _, _, ret, _) => (hz_ret i ret st).map (fun v => (v, M))
    | none => none) = some r := h
  split at h'
  · obtain ⟨o, h1, h2⟩ := Option.map_eq_some_iff.mp h'
    rw [← h2]
    exact kk _ o h1
  · cases h'
theorem hp_ri {v : Int32} (hf : hz_fetch k pc = some (.ireturn, a, x, y, w)) (e : (some (.int v), M) = φ R) : hp_T n k pc L [.int v] M φ R := by
  refine hp_kr hf rfl fun ret o h => ?_
  rw [← e]
  cases ret with
  | none => cases h
  | some t => cases t <;> first | (cases h; rfl) | cases h | (simp only [hz_ret] at h; split at h; (cases h; rfl); cases h)
theorem hp_rl {v : Int64} (hf : hz_fetch k pc = some (.lreturn, a, x, y, w)) (e : (some (.long v), M) = φ R) : hp_T n k pc L [.long v] M φ R := by
  refine hp_kr hf rfl fun ret o h => ?_
  rw [← e]
  cases ret with
  | none => cases h
  | some t => cases t <;> first | (cases h; rfl) | cases h
theorem hp_rv (hf : hz_fetch k pc = some (.return_, a, x, y, w)) (e : (none, M) = φ R) : hp_T n k pc L [] M φ R := by
  refine hp_kr hf rfl fun ret o h => ?_
  rw [← e]
  cases ret with
  | none => cases h; rfl
  | some t => cases h
theorem hp_Ri {v : Int32} (hf : hz_fetch k pc = some (.ireturn, a, x, y, w)) : hp_T n k pc L [.int v] (hp_mem X S) (hp_i X S) v := hp_ri hf rfl
theorem hp_Ris {v : Int32} (hf : hz_fetch k pc = some (.ireturn, a, x, y, w)) : hp_T n k pc L [.int v] (hp_mem X S) (hp_is X) (v, S) := hp_ri hf rfl
theorem hp_Rl {v : Int64} (hf : hz_fetch k pc = some (.lreturn, a, x, y, w)) : hp_T n k pc L [.long v] (hp_mem X S) (hp_l X S) v := hp_rl hf rfl
theorem hp_Rls {v : Int64} (hf : hz_fetch k pc = some (.lreturn, a, x, y, w)) : hp_T n k pc L [.long v] (hp_mem X S) (hp_ls X) (v, S) := hp_rl hf rfl
theorem hp_Rv (hf : hz_fetch k pc = some (.return_, a, x, y, w)) : hp_T n k pc L [] (hp_mem X S) (hp_v X) S := hp_rv hf rfl
theorem hp_iv {β : Type} {ψ : β → Option Value × hzMem} {Q : β} {i : Instr} {virt : Bool} {rv : Option Value} {M1 : hzMem} (hf : hz_fetch k pc = some (i, a, x, y, w)) (hk : hz_kind i = bif virt then 5 else 6) (ha : a ≠ -3) (hc : hp_K x (st.take y).reverse M ψ Q) (he : ψ Q = (rv, M1)) (hp : pc + 3 = pc') (kk : hp_T n k pc' L (rv.toList ++ st.drop y) M1 φ R) : hp_T n k pc L st M φ R := by
  subst hp
  obtain ⟨q, hq, hz, hc⟩ := hc
  refine hp_q hf fun m hm b r h => ?_
  have h' : hz_inv (fun k pc L st M b => hz_run hx_ext m k pc L st M b) hx_ext virt k pc a x y L st M b = some r := by
    rw [hz_run, hf] at h
    dsimp only at h
    rw [hk] at h
    cases virt <;> exact h
  unfold hz_inv at h'
  rw [if_neg ha, hq] at h'
  obtain ⟨q0, q1, q2, q3, q4, q5, q6, q7, q8⟩ := q
  dsimp only at h' hz
  rw [hx_no x _ M _ hq hz] at h'
  try dsimp only at h'
  cases e : hz_run hx_ext m x 0 (hz_ent q2 (st.take y).reverse) [] M q7 with
  | none =>
    rw [e] at h'
    simp at h'
  | some r1 =>
    have e1 := hc m m (Nat.le_refl m) q7 r1 e
    rw [e, e1, he] at h'
    try dsimp only at h'
    by_cases hg : (if virt = true then hz_rcv q4 (st.take y).reverse M else decide (q4 = 99)) = true ∧ y ≤ st.length ∧ ((st.drop y).map fun v => v.category).sum ≤ 8 ∧ q7 ≤ b ∧ (hz_lay (st.take y)).length ≤ q2
    · rw [if_pos hg] at h'
      exact kk m (by omega) _ r h'
    · rw [if_neg hg] at h'
      cases h'
theorem hp_ac {A B N N' : Nat} {i : Instr} {c : Int32} {virt : Bool} (hf : hz_fetch k pc = some (i, a, x, y, w)) (hk : hz_kind i = bif virt then 5 else 6) (ha : a = -3) (hA : A < 60) (hB : B < 60) (hcA : hp_cell X A (S A) = .inl (0, N, .inl (S A))) (hcB : ∀ h : Nat → Int32, hp_cell X B h = .inl (0, N', .inl h)) (hp : pc + 3 = pc') (kk : hp_T n k pc' L st (hp_mem X (hp_cp S A B c.toNatClampNeg)) φ R) : hp_T n k pc L (.int c :: .int (Int32.ofInt 0) :: .ref B :: .int (Int32.ofInt 0) :: .ref A :: st) (hp_mem X S) φ R := by
  subst hp
  refine hp_q hf fun m hm b r h => ?_
  have h' : hz_inv (fun k pc L st M b => hz_run hx_ext m k pc L st M b) hx_ext virt k pc a x y L (.int c :: .int (Int32.ofInt 0) :: .ref B :: .int (Int32.ofInt 0) :: .ref A :: st) (hp_mem X S) b = some r := by
    rw [hz_run, hf] at h
    dsimp only at h
    rw [hk] at h
    cases virt <;> exact h
  unfold hz_inv at h'
  rw [if_pos ha] at h'
  simp only [hz_acp, hp_get X S hA, hp_get X S hB, hcA, hcB] at h'
  split at h'
  · rename_i st' M' e
    split at e
    · cases e
      rw [hp_set X S (hp_cp S A B c.toNatClampNeg) hB (by rw [hp_cps, hcB]; rfl) (hp_cpo S A B _)] at h'
      exact kk m (by omega) _ r h'
    · cases e
  · cases h'
theorem hp_stk {i : Instr} (hf : hz_fetch k pc = some (i, a, x, y, w)) (hk : hz_kind i = 0) (hp : pc + hz_len i = pc') (kk : ∀ st' : List Value, hz_stk i a st = some st' → hp_T n k pc' L st' M φ R) : hp_T n k pc L st M φ R := by
  subst hp
  refine hp_q hf fun m hm b r h => ?_
  rw [hz_run, hf] at h
  dsimp only at h
  rw [hk] at h
  try dsimp only at h
  cases e : hz_stk i a st with
  | none => rw [e] at h; cases h
  | some st' =>
    rw [e] at h
    exact kk st' e m (by omega) b r h
theorem hp_di {u v : Int32} (hf : hz_fetch k pc = some (.idiv, a, x, y, w)) (hp : pc + 1 = pc') (kk : hp_T n k pc' L (.int (v / u) :: st) M φ R) : hp_T n k pc L (.int u :: .int v :: st) M φ R := by
  refine hp_stk hf rfl hp fun st' e => ?_
  simp only [hz_stk] at e
  split at e
  · cases e
  · cases e; exact kk
theorem hp_ri2 {u v : Int32} (hf : hz_fetch k pc = some (.irem, a, x, y, w)) (hp : pc + 1 = pc') (kk : hp_T n k pc' L (.int (v - v / u * u) :: st) M φ R) : hp_T n k pc L (.int u :: .int v :: st) M φ R := by
  refine hp_stk hf rfl hp fun st' e => ?_
  simp only [hz_stk] at e
  split at e
  · cases e
  · cases e; exact kk
theorem hp_dl {u v : Int64} (hf : hz_fetch k pc = some (.ldiv, a, x, y, w)) (hp : pc + 1 = pc') (kk : hp_T n k pc' L (.long (v / u) :: st) M φ R) : hp_T n k pc L (.long u :: .long v :: st) M φ R := by
  refine hp_stk hf rfl hp fun st' e => ?_
  simp only [hz_stk] at e
  split at e
  · cases e
  · cases e; exact kk
theorem hp_rl2 {u v : Int64} (hf : hz_fetch k pc = some (.lrem, a, x, y, w)) (hp : pc + 1 = pc') (kk : hp_T n k pc' L (.long (v - v / u * u) :: st) M φ R) : hp_T n k pc L (.long u :: .long v :: st) M φ R := by
  refine hp_stk hf rfl hp fun st' e => ?_
  simp only [hz_stk] at e
  split at e
  · cases e
  · cases e; exact kk
/-- a loop counts up to its bound -/
theorem hp_up {m : Nat} {i u : Int32} (h : hz_cmp .ge i u = false) (hm : (u.toInt - i.toInt).toNat < m + 1) : (u.toInt - (i + Int32.ofInt 1).toInt).toNat < m := by
  simp only [hz_cmp, decide_eq_false_iff_not, Int32.le_iff_toInt_le] at h
  have h1 : (i + Int32.ofInt 1).toInt = i.toInt + 1 := by
    have := Int32.toInt_lt u
    have := Int32.le_toInt i
    rw [Int32.toInt_add, show (Int32.ofInt 1).toInt = 1 from by decide]
    exact Int.bmod_eq_of_le (by omega) (by omega)
  omega
theorem hp_up2 {m : Nat} {i u : Int32} (h : hz_cmp .gt i u = false) (hm : (u.toInt + 1 - i.toInt).toNat < m + 1) (hu : u.toInt < 2147483647) : (u.toInt + 1 - (i + Int32.ofInt 1).toInt).toNat < m := by
  simp only [hz_cmp, decide_eq_false_iff_not, Int32.lt_iff_toInt_lt] at h
  have h1 : (i + Int32.ofInt 1).toInt = i.toInt + 1 := by
    have := Int32.le_toInt i
    rw [Int32.toInt_add, show (Int32.ofInt 1).toInt = 1 from by decide]
    exact Int.bmod_eq_of_le (by omega) (by omega)
  omega
theorem hp_up3 {m : Nat} {i u : Int32} {B : Int} (h : hz_cmp .ge i u = false) (hB : u.toInt ≤ B) (hm : (B - i.toInt).toNat < m + 1) : (B - (i + Int32.ofInt 1).toInt).toNat < m := by
  simp only [hz_cmp, decide_eq_false_iff_not, Int32.le_iff_toInt_le] at h
  have h1 : (i + Int32.ofInt 1).toInt = i.toInt + 1 := by
    have := Int32.toInt_lt u
    have := Int32.le_toInt i
    rw [Int32.toInt_add, show (Int32.ofInt 1).toInt = 1 from by decide]
    exact Int.bmod_eq_of_le (by omega) (by omega)
  omega
theorem hp_gcd {m : Nat} {u v : Int64} (h : hz_cmp .eq (lg_cmp u (Int64.ofInt 0)) 0 = false) (hm : u.toInt.natAbs < m + 1) : (v - v / u * u).toInt.natAbs < m := by
  simp only [hz_cmp, decide_eq_false_iff_not] at h
  have hy : u ≠ 0 := fun q => h ((hm_cmp0 u).mpr q)
  have := hm_rem v u hy
  omega
/-- a sum of small ints -/
theorem hp_add {i u : Int32} (h1 : -2147483648 ≤ i.toInt + u.toInt) (h2 : i.toInt + u.toInt < 2147483648) : (i + u).toInt = i.toInt + u.toInt := by
  rw [Int32.toInt_add]
  exact Int.bmod_eq_of_le (by omega) (by omega)
theorem hp_sub {i u : Int32} (h1 : -2147483648 ≤ i.toInt - u.toInt) (h2 : i.toInt - u.toInt < 2147483648) : (i - u).toInt = i.toInt - u.toInt := by
  rw [Int32.toInt_sub]
  exact Int.bmod_eq_of_le (by omega) (by omega)
theorem hp_wgs (N : Nat) (S : hp_S) (A : Nat) (j v : Int32) (i : Nat) (h : 0 ≤ j.toInt → j.toInt < N → j.toInt ≠ i) : hp_wg N S A j v A i = S A i := by
  unfold hp_wg
  split
  · rename_i q
    simp only [hz_in, Bool.and_eq_true, decide_eq_true_eq] at q
    rw [hp_ws]
    unfold upd
    rw [if_neg]
    have := h q.1 q.2
    intro e
    apply this
    rw [e]
    show j.toInt = (j.toInt.toNat : Int)
    omega
  · rfl
/-- the places of the reference's rows: a hat's, a person's -/
theorem hp_lin (x y h w : Int32) : (x + y * h + w).toInt = Int.bmod (x.toInt + y.toInt * h.toInt + w.toInt) 4294967296 := by
  rw [Int32.toInt_add, Int32.toInt_add, Int32.toInt_mul]
  show Int.bmod (Int.bmod (x.toInt + Int.bmod (y.toInt * h.toInt) 4294967296) 4294967296 + w.toInt) 4294967296 = _
  rw [Int.add_bmod_bmod, Int.bmod_add_bmod]
theorem hp_iH (h w : Int32) (k : Int) (hw : w.toInt = k) (hk : 0 ≤ k ∧ k ≤ 3) : (Int32.ofInt 48 + Int32.ofInt 4 * h + w).toInt % 4 = k := by
  have e1 : (Int32.ofInt 48).toInt = 48 := by decide
  have e2 : (Int32.ofInt 4).toInt = 4 := by decide
  rw [hp_lin, e1, e2, hw]
  unfold Int.bmod
  dsimp only
  split <;> omega
theorem hp_q1 (Z : Int) (h0 : 30 ≤ Z) (h1 : Z < 6442450974) (h : Z % 4294967296 = 0) : Z = 4294967296 := by omega
theorem hp_q2 (p : Int) (h0 : 0 ≤ p) (h1 : p < 2147483648) : Int.bmod (30 + 3 * p + 0) 4294967296 ≠ 0 := by
  have b1 : 30 ≤ 30 + 3 * p + 0 := by omega
  have b2 : 30 + 3 * p + 0 < 6442450974 := by omega
  have b3 : 30 + 3 * p + 0 ≠ 4294967296 := by omega
  intro e
  have h3 : (Int.bmod (30 + 3 * p + 0) 4294967296) % (4294967296 : Nat) = (30 + 3 * p + 0) % (4294967296 : Nat) := Int.bmod_emod
  rw [e] at h3
  exact b3 (hp_q1 (30 + 3 * p + 0) b1 b2 h3.symm)
theorem hp_iP (p w : Int32) (hw : w.toInt = 0) (hp : 0 ≤ p.toInt) : (Int32.ofInt 30 + Int32.ofInt 3 * p + w).toInt ≠ 0 := by
  have e1 : (Int32.ofInt 30).toInt = 30 := by decide
  have e2 : (Int32.ofInt 3).toInt = 3 := by decide
  have h1 := Int32.toInt_lt p
  rw [hp_lin, e1, e2, hw]
  exact hp_q2 p.toInt hp h1
theorem hp_nn {i u : Int32} (h : hz_cmp .ge i u = false) (h0 : 0 ≤ i.toInt) : 0 ≤ (i + Int32.ofInt 1).toInt := by
  simp only [hz_cmp, decide_eq_false_iff_not, Int32.le_iff_toInt_le] at h
  have := Int32.toInt_lt u
  have e1 : (Int32.ofInt 1).toInt = 1 := by decide
  rw [Int32.toInt_add, e1, Int.bmod_eq_of_le (by omega) (by omega)]
  omega
theorem hp_inb {j : Int32} {N : Nat} (h : hz_in j N = true) : 0 ≤ j.toInt ∧ j.toInt < N := by
  simpa only [hz_in, Bool.and_eq_true, decide_eq_true_eq] using h
end HP
