/-! THE STREET of both sides: the relation, reads, small methods -/
abbrev hr_9 : Int32 := Int32.ofInt 9
def hr_b (P : Prop) [Decidable P] : Int32 := if P then Int32.ofInt 1 else Int32.ofInt 0
theorem hr_e0 (P : Prop) [Decidable P] : (hz_cmp .eq (hr_b P) 0 = true) = ¬ P := by
  by_cases h : P <;> simp [hr_b, h, hz_cmp] <;> decide
theorem hr_n0 (P : Prop) [Decidable P] : (hz_cmp .ne (hr_b P) 0 = true) = P := by
  by_cases h : P <;> simp [hr_b, h, hz_cmp] <;> decide
theorem hr_bt {P : Prop} [Decidable P] (h : P) : hr_b P = Int32.ofInt 1 := if_pos h
theorem hr_bf {P : Prop} [Decidable P] (h : ¬ P) : hr_b P = Int32.ofInt 0 := if_neg h
theorem hr_bc {P Q : Prop} [Decidable P] [Decidable Q] (h : P ↔ Q) : hr_b P = hr_b Q := by
  by_cases q : Q
  · rw [hr_bt q, hr_bt (h.mpr q)]
  · rw [hr_bf q, hr_bf (fun z => q (h.mp z))]
theorem hr_lt (v w : Int32) : (hz_cmp .lt v w = true) = (v.toInt < w.toInt) := by simp [hz_cmp, Int32.lt_iff_toInt_lt]
theorem hr_ge (v w : Int32) : (hz_cmp .ge v w = true) = (w.toInt ≤ v.toInt) := by simp [hz_cmp, Int32.le_iff_toInt_le]
theorem hr_gt (v w : Int32) : (hz_cmp .gt v w = true) = (w.toInt < v.toInt) := by simp [hz_cmp, Int32.lt_iff_toInt_lt]
theorem hr_le (v w : Int32) : (hz_cmp .le v w = true) = (v.toInt ≤ w.toInt) := by simp [hz_cmp, Int32.le_iff_toInt_le]
theorem hr_eq (v w : Int32) : (hz_cmp .eq v w = true) = (v = w) := by simp [hz_cmp]
theorem hr_ne (v w : Int32) : (hz_cmp .ne v w = true) = (v ≠ w) := by simp [hz_cmp]
theorem hr_0 : (0 : Int32).toInt = 0 := by decide
theorem hr_o0 : (Int32.ofInt 0).toInt = 0 := by decide
theorem hr_o1 : (Int32.ofInt 1).toInt = 1 := by decide
theorem hr_ti {v w : Int32} : v.toInt = w.toInt ↔ v = w := Int32.toInt_inj
theorem hr_nat {i : Int32} {k : Nat} (h : i.toInt = k) : i.toNatClampNeg = k := by
  show i.toInt.toNat = k
  omega
theorem hr_small (k : Nat) (hk : k < 2147483648) : (Int32.ofInt k).toInt = k := by
  rw [Int32.toInt_ofInt]
  show Int.bmod (k : Int) 4294967296 = k
  exact Int.bmod_eq_of_le (by omega) (by omega)
theorem hr_H (S : hp_S) {i w : Int32} {k : Nat} {z : Int} (hi : i.toInt = k) (hk : k < 8) (hw : w.toInt = z) (hz : 0 ≤ z ∧ z ≤ 3) : (hq_75 S i w).toInt = 48 + 4 * k + z := by
  have e1 : (Int32.ofInt 48).toInt = 48 := by decide
  have e2 : (Int32.ofInt 4).toInt = 4 := by decide
  show (Int32.ofInt 48 + Int32.ofInt 4 * i + w).toInt = _
  rw [hp_lin, e1, e2, hw, hi]
  exact Int.bmod_eq_of_le (by omega) (by omega)
theorem hr_P (S : hp_S) {i w : Int32} {k : Nat} {z : Int} (hi : i.toInt = k) (hk : k < 7) (hw : w.toInt = z) (hz : 0 ≤ z ∧ z ≤ 2) : (hq_74 S i w).toInt = 30 + 3 * k + z := by
  have e1 : (Int32.ofInt 30).toInt = 30 := by decide
  have e2 : (Int32.ofInt 3).toInt = 3 := by decide
  show (Int32.ofInt 30 + Int32.ofInt 3 * i + w).toInt = _
  rw [hp_lin, e1, e2, hw, hi]
  exact Int.bmod_eq_of_le (by omega) (by omega)
theorem hr_H0 (S : hp_S) {i : Int32} {k : Nat} (hi : i.toInt = k) (hk : k < 8) : (hq_75 S i (Int32.ofInt 0)).toNatClampNeg = 48 + 4 * k := hr_nat (by rw [hr_H S hi hk (show _ = (0 : Int) by decide) (by omega)]; omega)
theorem hr_H1 (S : hp_S) {i : Int32} {k : Nat} (hi : i.toInt = k) (hk : k < 8) : (hq_75 S i (Int32.ofInt 1)).toNatClampNeg = 49 + 4 * k := hr_nat (by rw [hr_H S hi hk (show _ = (1 : Int) by decide) (by omega)]; omega)
theorem hr_H2 (S : hp_S) {i : Int32} {k : Nat} (hi : i.toInt = k) (hk : k < 8) : (hq_75 S i (Int32.ofInt 2)).toNatClampNeg = 50 + 4 * k := hr_nat (by rw [hr_H S hi hk (show _ = (2 : Int) by decide) (by omega)]; omega)
theorem hr_H3 (S : hp_S) {i : Int32} {k : Nat} (hi : i.toInt = k) (hk : k < 8) : (hq_75 S i (Int32.ofInt 3)).toNatClampNeg = 51 + 4 * k := hr_nat (by rw [hr_H S hi hk (show _ = (3 : Int) by decide) (by omega)]; omega)
theorem hr_P0 (S : hp_S) {i : Int32} {k : Nat} (hi : i.toInt = k) (hk : k < 7) : (hq_74 S i (Int32.ofInt 0)).toNatClampNeg = 30 + 3 * k := hr_nat (by rw [hr_P S hi hk (show _ = (0 : Int) by decide) (by omega)]; omega)
theorem hr_P1 (S : hp_S) {i : Int32} {k : Nat} (hi : i.toInt = k) (hk : k < 7) : (hq_74 S i (Int32.ofInt 1)).toNatClampNeg = 31 + 3 * k := hr_nat (by rw [hr_P S hi hk (show _ = (1 : Int) by decide) (by omega)]; omega)
theorem hr_P2 (S : hp_S) {i : Int32} {k : Nat} (hi : i.toInt = k) (hk : k < 7) : (hq_74 S i (Int32.ofInt 2)).toNatClampNeg = 32 + 3 * k := hr_nat (by rw [hr_P S hi hk (show _ = (2 : Int) by decide) (by omega)]; omega)
/-- a write of the reference, at a told place -/
theorem hr_wg (T : hp_S) (c : Nat) {j v : Int32} {n : Nat} (hj : j.toInt = n) (hn : n < 80) : hp_wg 80 T c j v = hp_w T c n v := by
  unfold hp_wg
  rw [if_pos (by simp [hz_in, hj]; omega), hr_nat hj]
theorem hr_wgs (T : hp_S) (c : Nat) {j v : Int32} {n : Nat} (hj : j.toInt = n) (hn : n < 80) : hp_wg 80 T c j v c = upd (T c) n v := by rw [hr_wg T c hj hn, hp_ws]
/-- somebody holds on -/
def hr_held (x : Int32) (p : Nat) : Prop := (x >>> (Int32.ofInt p &&& 31)) &&& Int32.ofInt 1 = Int32.ofInt 1


theorem hr_of {i : Int32} {k : Nat} (h : i.toInt = k) : i = Int32.ofInt k := by
  apply Int32.toInt_inj.mp
  rw [hr_small k (by have := Int32.toInt_lt i; omega), h]
/-- the class's street b is the reference's row f: all but the pace of one who holds on, and the place of a worn hat -/
def hr_E (S : hp_S) (b : Nat) (f : Nat → Int32) : Prop :=
  (S b 4 = f 0 ∧ S b 8 = f 1 ∧ S b 2 = f 2 ∧ S b 3 = f 3 ∧ S b 1 = f 4) ∧
  (∀ h : Nat, h < 24 → S (b + 1) h = f (6 + h)) ∧
  (∀ p : Nat, p < 6 → (p : Int) < (f 0).toInt → S (b + 2) p = f (30 + 3 * p) ∧ (hr_held (f 5) p → S (b + 3) p = Int32.ofInt 0) ∧ (¬ hr_held (f 5) p → S (b + 3) p = f (31 + 3 * p)) ∧ S (b + 4) p = f (32 + 3 * p)) ∧
  (∀ h : Nat, h < 8 → (h : Int) < (f 1).toInt → S (b + 5) h = f (48 + 4 * h) ∧ S (b + 6) h = f (49 + 4 * h) ∧ S (b + 7) h = f (50 + 4 * h) ∧ (f (50 + 4 * h) = hr_9 → S (b + 8) h = f (51 + 4 * h)))
/-- a row in bounds -/
def hr_ok (f : Nat → Int32) : Prop :=
  ((0 ≤ (f 0).toInt ∧ (f 0).toInt ≤ 6) ∧ (0 ≤ (f 1).toInt ∧ (f 1).toInt ≤ 8) ∧ (0 ≤ (f 2).toInt ∧ (f 2).toInt ≤ 23) ∧ True) ∧
  (∀ h : Nat, h < 24 → 0 ≤ (f (6 + h)).toInt ∧ (f (6 + h)).toInt ≤ 9) ∧
  (∀ p : Nat, p < 6 → (p : Int) < (f 0).toInt → (0 ≤ (f (30 + 3 * p)).toInt ∧ (f (30 + 3 * p)).toInt ≤ 20) ∧ (1 ≤ (f (31 + 3 * p)).toInt ∧ (f (31 + 3 * p)).toInt ≤ 5) ∧ (0 ≤ (f (32 + 3 * p)).toInt ∧ (f (32 + 3 * p)).toInt ≤ 9)) ∧
  (∀ h : Nat, h < 8 → (h : Int) < (f 1).toInt → (0 ≤ (f (48 + 4 * h)).toInt ∧ (f (48 + 4 * h)).toInt ≤ 7) ∧ (0 ≤ (f (49 + 4 * h)).toInt ∧ (f (49 + 4 * h)).toInt ≤ 9) ∧ (f (50 + 4 * h) = hr_9 ∨ (0 ≤ (f (50 + 4 * h)).toInt ∧ (f (50 + 4 * h)).toInt < (f 0).toInt)) ∧ (f (50 + 4 * h) = hr_9 → 0 ≤ (f (51 + 4 * h)).toInt ∧ (f (51 + 4 * h)).toInt ≤ 21))
/-- as many people and hats, the same hold on -/
def hr_same (f g : Nat → Int32) : Prop := g 0 = f 0 ∧ g 1 = f 1 ∧ g 5 = f 5
theorem hr_sr (f : Nat → Int32) : hr_same f f := ⟨rfl, rfl, rfl⟩
theorem hr_a3 {A B : Prop} {f g h : Nat → Int32} (x : A ∧ B ∧ hr_same g h) (y : hr_same f g) : A ∧ B ∧ hr_same f h := ⟨x.1, x.2.1, x.2.2.1.trans y.1, x.2.2.2.1.trans y.2.1, x.2.2.2.2.trans y.2.2⟩
theorem hr_70 (S : hp_S) (i l h : Int32) : hq_70 S i l h = hr_b (l.toInt ≤ i.toInt ∧ i.toInt ≤ h.toInt) := by
  unfold hq_70
  simp only [hr_lt, hr_gt]
  repeat' split
  · exact (hr_bf (by omega)).symm
  · exact (hr_bf (by omega)).symm
  · exact (hr_bt (by omega)).symm
theorem hr_44 (S : hp_S) (i l h : Int32) : hq_44 S i l h = hr_b (l.toInt ≤ i.toInt ∧ i.toInt ≤ h.toInt) := by
  unfold hq_44
  simp only [hr_lt, hr_gt]
  repeat' split
  · exact (hr_bf (by omega)).symm
  · exact (hr_bf (by omega)).symm
  · exact (hr_bt (by omega)).symm
theorem hr_181 (S : hp_S) (b : Nat) (i : Int32) : hq_181 S b i = hr_b (0 ≤ i.toInt ∧ i.toInt < (S b 4).toInt) := by
  unfold hq_181
  simp only [hr_lt, hr_ge, hr_0]
  repeat' split
  · exact (hr_bf (by omega)).symm
  · exact (hr_bf (by omega)).symm
  · exact (hr_bt (by omega)).symm
theorem hr_182 (S : hp_S) (b : Nat) (i : Int32) : hq_182 S b i = hr_b (0 ≤ i.toInt ∧ i.toInt < (S b 8).toInt) := by
  unfold hq_182
  simp only [hr_lt, hr_ge, hr_0]
  repeat' split
  · exact (hr_bf (by omega)).symm
  · exact (hr_bf (by omega)).symm
  · exact (hr_bt (by omega)).symm
theorem hr_m1 {x : Int32} (h : 0 ≤ x.toInt) : (x - Int32.ofInt 1).toInt = x.toInt - 1 := by
  have := Int32.toInt_lt x
  rw [hp_sub (by rw [hr_o1]; omega) (by rw [hr_o1]; omega), hr_o1]
theorem hr_n0' : (Int32.ofInt 0).toNatClampNeg = 0 := by decide
theorem hr_n1' : (Int32.ofInt 1).toNatClampNeg = 1 := by decide
theorem hr_n2' : (Int32.ofInt 2).toNatClampNeg = 2 := by decide
theorem hr_n3' : (Int32.ofInt 3).toNatClampNeg = 3 := by decide
theorem hr_n4' : (Int32.ofInt 4).toNatClampNeg = 4 := by decide
theorem hr_n5' : (Int32.ofInt 5).toNatClampNeg = 5 := by decide
theorem hr_76 (T : hp_S) (i : Int32) (h : 0 ≤ (T 48 0).toInt) : hq_76 T i = hr_b (0 ≤ i.toInt ∧ i.toInt < (T 48 0).toInt) := by
  unfold hq_76
  rw [hr_70, hr_n0', hr_m1 h, hr_o0]
  exact hr_bc (by omega)
theorem hr_77 (T : hp_S) (i : Int32) (h : 0 ≤ (T 48 1).toInt) : hq_77 T i = hr_b (0 ≤ i.toInt ∧ i.toInt < (T 48 1).toInt) := by
  unfold hq_77
  rw [hr_70, hr_n1', hr_m1 h, hr_o0]
  exact hr_bc (by omega)
section HR
variable {S T : hp_S} {b c : Nat} {i : Int32} {k : Nat}
theorem hr_85 (hi : i.toInt = k) (hk : k < 8) : hq_85 T c i = hr_b (T c (50 + 4 * k) ≠ hr_9) := by
  unfold hq_85
  rw [hr_H2 T hi hk]
  simp only [hr_eq]
  split
  · exact (hr_bf (by simpa using by assumption)).symm
  · exact (hr_bt (by assumption)).symm
theorem hr_86 (hi : i.toInt = k) (hk : k < 8) : hq_86 T c i = hr_b (T c (50 + 4 * k) = hr_9 ∧ T c (51 + 4 * k) ≠ Int32.ofInt 21) := by
  unfold hq_86
  rw [hr_H3 T hi hk, hr_85 hi hk]
  simp only [hr_n0]
  simp only [hr_eq]
  repeat' split
  · exact (hr_bf (fun q => absurd q.1 (by assumption))).symm
  · exact (hr_bf (fun q => q.2 (by assumption))).symm
  · exact (hr_bt ⟨by rename_i h _; exact Classical.not_not.mp h, by assumption⟩).symm
theorem hr_97 (hi : i.toInt = k) (hk : k < 8) : hq_97 T c i = hr_b (T c (50 + 4 * k) = hr_9 ∧ T c (51 + 4 * k) = Int32.ofInt 21) := by
  unfold hq_97
  rw [hr_H3 T hi hk, hr_85 hi hk]
  simp only [hr_n0]
  simp only [hr_ne]
  repeat' split
  · exact (hr_bf (fun q => absurd q.1 (by assumption))).symm
  · exact (hr_bf (fun q => absurd q.2 (by assumption))).symm
  · exact (hr_bt ⟨by rename_i h _; exact Classical.not_not.mp h, by rename_i h; exact Classical.not_not.mp h⟩).symm
theorem hr_184 (hi : i.toInt = k) : hq_184 S b i = hr_b (S (b + 7) k = hr_9 ∧ S (b + 8) k ≠ Int32.ofInt 21) := by
  unfold hq_184
  rw [hr_nat hi]
  simp only [hr_ne, hr_eq]
  repeat' split
  · exact (hr_bf (fun q => absurd q.1 (by assumption))).symm
  · exact (hr_bf (fun q => q.2 (by assumption))).symm
  · exact (hr_bt ⟨by rename_i h _; exact Classical.not_not.mp h, by assumption⟩).symm
theorem hr_185 (hi : i.toInt = k) : hq_185 S b i = hr_b (S (b + 7) k = hr_9 ∧ S (b + 8) k = Int32.ofInt 21) := by
  unfold hq_185
  rw [hr_nat hi]
  simp only [hr_ne]
  repeat' split
  · exact (hr_bf (fun q => absurd q.1 (by assumption))).symm
  · exact (hr_bf (fun q => absurd q.2 (by assumption))).symm
  · exact (hr_bt ⟨by rename_i h _; exact Classical.not_not.mp h, by rename_i h; exact Classical.not_not.mp h⟩).symm
theorem hr_183 (hi : i.toInt = k) : hq_183 S b i = hr_b (S (b + 7) k ≠ hr_9) := by
  unfold hq_183
  rw [hr_nat hi]
  simp only [hr_eq]
  split
  · exact (hr_bf (by simpa using by assumption)).symm
  · exact (hr_bt (by assumption)).symm
variable (hE : hr_E S b (T c)) (ho : hr_ok (T c))
/-- one hat, loose on both sides or on none -/
theorem hr_184e (hE : hr_E S b (T c)) (hi : i.toInt = k) (hk : k < 8) (hn : (k : Int) < (T c 1).toInt) : hq_184 S b i = hq_86 T c i := by
  rw [hr_184 hi, hr_86 hi hk]
  obtain ⟨_, _, _, e⟩ := hE
  obtain ⟨e1, e2, e3, e4⟩ := e k hk hn
  apply hr_bc
  rw [e3]
  constructor
  · exact fun q => ⟨q.1, by rw [← e4 q.1]; exact q.2⟩
  · exact fun q => ⟨q.1, by rw [e4 q.1]; exact q.2⟩
theorem hr_185e (hE : hr_E S b (T c)) (hi : i.toInt = k) (hk : k < 8) (hn : (k : Int) < (T c 1).toInt) : hq_185 S b i = hq_97 T c i := by
  rw [hr_185 hi, hr_97 hi hk]
  obtain ⟨_, _, _, e⟩ := hE
  obtain ⟨e1, e2, e3, e4⟩ := e k hk hn
  apply hr_bc
  rw [e3]
  constructor
  · exact fun q => ⟨q.1, by rw [← e4 q.1]; exact q.2⟩
  · exact fun q => ⟨q.1, by rw [e4 q.1]; exact q.2⟩
theorem hr_183e (hE : hr_E S b (T c)) (hi : i.toInt = k) (hk : k < 8) (hn : (k : Int) < (T c 1).toInt) : hq_183 S b i = hq_85 T c i := by
  rw [hr_183 hi, hr_85 hi hk]
  obtain ⟨_, _, _, e⟩ := hE
  rw [(e k hk hn).2.2.1]
/-- counting up -/
theorem hr_up {i : Int32} {k : Nat} (hi : i.toInt = k) (hk : k < 1000) : (i + Int32.ofInt 1).toInt = ((k + 1 : Nat) : Int) := by
  rw [hp_add (by rw [hr_o1]; omega) (by rw [hr_o1]; omega), hr_o1]
  omega
theorem hr_187l (hE : hr_E S b (T c)) (ho : hr_ok (T c)) (p : Int32) : ∀ (m : Nat) (i : Int32) (k : Nat), i.toInt = k → k ≤ 8 → hq_187_2 b p m S i = hq_88_2 c p m T i := by
  intro m
  induction m with
  | zero => intros; rfl
  | succ m ih =>
    intro i k hi hk
    obtain ⟨⟨_, e1, _⟩, _, _, e⟩ := id hE
    rw [hq_187_2, hq_88_2, hr_n1', e1]
    simp only [hr_ge, hr_ne]
    split
    · rfl
    · rename_i h
      have h8 := ho.1.2.1
      have hk' : k < 8 := by omega
      have ee := (e k hk' (by omega)).2.2.1
      rw [hr_H2 T hi hk', hr_nat hi, ee]
      split
      · exact ih _ (k + 1) (hr_up hi (by omega)) hk'
      · rfl
theorem hr_187 (hE : hr_E S b (T c)) (ho : hr_ok (T c)) (p : Int32) : hq_187 S b p = hq_88 T c p := by
  unfold hq_187 hq_88
  rw [hr_n1', hE.1.2.1]
  exact hr_187l hE ho p _ _ 0 (by decide) (by omega)
theorem hr_188 (hE : hr_E S b (T c)) (ho : hr_ok (T c)) (p : Int32) : hq_188 S b p = hr_b (hq_88 T c p = hr_9) := by
  unfold hq_188
  rw [hr_187 hE ho]
  simp only [hr_ne]
  split
  · exact (hr_bf (by assumption)).symm
  · rename_i h
    exact (hr_bt (Classical.not_not.mp h)).symm
end HR

section HR
variable {S T : hp_S} {b c : Nat} {i : Int32} {k : Nat}
/-- one hat changed -/
theorem hr_Ehat {S S' : hp_S} {b k : Nat} {f f' : Nat → Int32} (hE : hr_E S b f) (hS : ∀ i j : Nat, i ≤ 8 → (i < 5 ∨ j ≠ k) → S' (b + i) j = S (b + i) j) (hf : ∀ j : Nat, (j < 48 + 4 * k ∨ 51 + 4 * k < j) → f' j = f j) (hw : S' (b + 5) k = f' (48 + 4 * k) ∧ S' (b + 6) k = f' (49 + 4 * k) ∧ S' (b + 7) k = f' (50 + 4 * k) ∧ (f' (50 + 4 * k) = hr_9 → S' (b + 8) k = f' (51 + 4 * k))) : hr_E S' b f' := by
  obtain ⟨⟨e1, e2, e3, e4, e5⟩, ew, ep, eh⟩ := hE
  have hS0 : ∀ j : Nat, S' b j = S b j := fun j => hS 0 j (by omega) (Or.inl (by omega))
  refine ⟨⟨?_, ?_, ?_, ?_, ?_⟩, fun h hh => ?_, fun p h6 hp => ?_, fun h h8 hh => ?_⟩
  · rw [hS0, hf 0 (Or.inl (by omega))]; exact e1
  · rw [hS0, hf 1 (Or.inl (by omega))]; exact e2
  · rw [hS0, hf 2 (Or.inl (by omega))]; exact e3
  · rw [hS0, hf 3 (Or.inl (by omega))]; exact e4
  · rw [hS0, hf 4 (Or.inl (by omega))]; exact e5
  · rw [hS 1 h (by omega) (Or.inl (by omega)), hf (6 + h) (Or.inl (by omega))]; exact ew h hh
  · rw [hf 0 (Or.inl (by omega))] at hp
    rw [hS 2 p (by omega) (Or.inl (by omega)), hS 3 p (by omega) (Or.inl (by omega)), hS 4 p (by omega) (Or.inl (by omega)), hf 5 (Or.inl (by omega)), hf (30 + 3 * p) (Or.inl (by omega)), hf (31 + 3 * p) (Or.inl (by omega)), hf (32 + 3 * p) (Or.inl (by omega))]
    exact ep p h6 hp
  · rw [hf 1 (Or.inl (by omega))] at hh
    by_cases q : h = k
    · subst q; exact hw
    · rw [hS 5 h (by omega) (Or.inr q), hS 6 h (by omega) (Or.inr q), hS 7 h (by omega) (Or.inr q), hS 8 h (by omega) (Or.inr q), hf (48 + 4 * h) (by omega), hf (49 + 4 * h) (by omega), hf (50 + 4 * h) (by omega), hf (51 + 4 * h) (by omega)]
      exact eh h h8 hh
theorem hr_okhat {k : Nat} {f f' : Nat → Int32} (ho : hr_ok f) (hf : ∀ j : Nat, (j < 48 + 4 * k ∨ 51 + 4 * k < j) → f' j = f j) (hw : (0 ≤ (f' (48 + 4 * k)).toInt ∧ (f' (48 + 4 * k)).toInt ≤ 7) ∧ (0 ≤ (f' (49 + 4 * k)).toInt ∧ (f' (49 + 4 * k)).toInt ≤ 9) ∧ (f' (50 + 4 * k) = hr_9 ∨ (0 ≤ (f' (50 + 4 * k)).toInt ∧ (f' (50 + 4 * k)).toInt < (f 0).toInt)) ∧ (f' (50 + 4 * k) = hr_9 → 0 ≤ (f' (51 + 4 * k)).toInt ∧ (f' (51 + 4 * k)).toInt ≤ 21)) : hr_ok f' := by
  obtain ⟨o1, ow, op, oh⟩ := ho
  refine ⟨?_, fun h hh => ?_, fun p h6 hp => ?_, fun h h8 hh => ?_⟩
  · rw [hf 0 (Or.inl (by omega)), hf 1 (Or.inl (by omega)), hf 2 (Or.inl (by omega))]; exact o1
  · rw [hf (6 + h) (Or.inl (by omega))]; exact ow h hh
  · rw [hf 0 (Or.inl (by omega))] at hp
    rw [hf (30 + 3 * p) (Or.inl (by omega)), hf (31 + 3 * p) (Or.inl (by omega)), hf (32 + 3 * p) (Or.inl (by omega))]
    exact op p h6 hp
  · rw [hf 1 (Or.inl (by omega))] at hh
    rw [hf 0 (Or.inl (by omega))]
    by_cases q : h = k
    · subst q; exact hw
    · rw [hf (48 + 4 * h) (by omega), hf (49 + 4 * h) (by omega), hf (50 + 4 * h) (by omega), hf (51 + 4 * h) (by omega)]
      exact oh h h8 hh
/-- one person changed -/
theorem hr_Eper {S S' : hp_S} {b k : Nat} {f f' : Nat → Int32} (hE : hr_E S b f) (hk : k < 6) (hS : ∀ i j : Nat, i ≤ 8 → (i < 2 ∨ 4 < i ∨ j ≠ k) → S' (b + i) j = S (b + i) j) (hf : ∀ j : Nat, (j < 30 + 3 * k ∨ 32 + 3 * k < j) → f' j = f j) (hw : S' (b + 2) k = f' (30 + 3 * k) ∧ (hr_held (f 5) k → S' (b + 3) k = Int32.ofInt 0) ∧ (¬ hr_held (f 5) k → S' (b + 3) k = f' (31 + 3 * k)) ∧ S' (b + 4) k = f' (32 + 3 * k)) : hr_E S' b f' := by
  obtain ⟨⟨e1, e2, e3, e4, e5⟩, ew, ep, eh⟩ := hE
  have hS0 : ∀ j : Nat, S' b j = S b j := fun j => hS 0 j (by omega) (Or.inl (by omega))
  refine ⟨⟨?_, ?_, ?_, ?_, ?_⟩, fun h hh => ?_, fun p h6 hp => ?_, fun h h8 hh => ?_⟩
  · rw [hS0, hf 0 (Or.inl (by omega))]; exact e1
  · rw [hS0, hf 1 (Or.inl (by omega))]; exact e2
  · rw [hS0, hf 2 (Or.inl (by omega))]; exact e3
  · rw [hS0, hf 3 (Or.inl (by omega))]; exact e4
  · rw [hS0, hf 4 (Or.inl (by omega))]; exact e5
  · rw [hS 1 h (by omega) (Or.inl (by omega)), hf (6 + h) (Or.inl (by omega))]; exact ew h hh
  · rw [hf 0 (Or.inl (by omega))] at hp
    rw [hf 5 (Or.inl (by omega))]
    by_cases q : p = k
    · subst q; exact hw
    · rw [hS 2 p (by omega) (by omega), hS 3 p (by omega) (by omega), hS 4 p (by omega) (by omega), hf (30 + 3 * p) (by omega), hf (31 + 3 * p) (by omega), hf (32 + 3 * p) (by omega)]
      exact ep p h6 hp
  · rw [hf 1 (Or.inl (by omega))] at hh
    rw [hS 5 h (by omega) (by omega), hS 6 h (by omega) (by omega), hS 7 h (by omega) (by omega), hS 8 h (by omega) (by omega), hf (48 + 4 * h) (by omega), hf (49 + 4 * h) (by omega), hf (50 + 4 * h) (by omega), hf (51 + 4 * h) (by omega)]
    exact eh h h8 hh
theorem hr_okper {k : Nat} {f f' : Nat → Int32} (ho : hr_ok f) (hk : k < 6) (hf : ∀ j : Nat, (j < 30 + 3 * k ∨ 32 + 3 * k < j) → f' j = f j) (hw : (0 ≤ (f' (30 + 3 * k)).toInt ∧ (f' (30 + 3 * k)).toInt ≤ 20) ∧ (1 ≤ (f' (31 + 3 * k)).toInt ∧ (f' (31 + 3 * k)).toInt ≤ 5) ∧ (0 ≤ (f' (32 + 3 * k)).toInt ∧ (f' (32 + 3 * k)).toInt ≤ 9)) : hr_ok f' := by
  obtain ⟨o1, ow, op, oh⟩ := ho
  refine ⟨?_, fun h hh => ?_, fun p h6 hp => ?_, fun h h8 hh => ?_⟩
  · rw [hf 0 (Or.inl (by omega)), hf 1 (Or.inl (by omega)), hf 2 (Or.inl (by omega))]; exact o1
  · rw [hf (6 + h) (Or.inl (by omega))]; exact ow h hh
  · rw [hf 0 (Or.inl (by omega))] at hp
    by_cases q : p = k
    · subst q; exact hw
    · rw [hf (30 + 3 * p) (by omega), hf (31 + 3 * p) (by omega), hf (32 + 3 * p) (by omega)]
      exact op p h6 hp
  · rw [hf 1 (Or.inl (by omega))] at hh
    rw [hf 0 (Or.inl (by omega)), hf (48 + 4 * h) (by omega), hf (49 + 4 * h) (by omega), hf (50 + 4 * h) (by omega), hf (51 + 4 * h) (by omega)]
    exact oh h h8 hh
/-! what hats of each kind hold, fly and are worth -/
theorem hr_nz {v : Int32} {n : Nat} (h0 : 0 ≤ v.toInt) (h1 : v.toInt ≤ n) : ∃ m : Nat, m ≤ n ∧ v = Int32.ofInt m := ⟨v.toInt.toNat, by omega, hr_of (by omega)⟩
theorem hr_167 (S T : hp_S) (x g : Int32) (h0 : 0 ≤ g.toInt) (h1 : g.toInt ≤ 9) : hq_167 S x g = hq_81 T x g := by
  obtain ⟨m, hm, rfl⟩ := hr_nz (n := 9) h0 h1
  have a1 : ∀ m ≤ 9, Int32.ofInt 3 + Int32.ofInt (m : Nat) + Int32.ofInt 2 = Int32.ofInt 5 + Int32.ofInt m := by decide
  have a2 : ∀ m ≤ 9, Int32.ofInt 3 + Int32.ofInt (m : Nat) / Int32.ofInt 2 - Int32.ofInt 2 = Int32.ofInt 1 + Int32.ofInt m / Int32.ofInt 2 := by decide
  unfold hq_167 hq_81
  rw [a1 m hm, a2 m hm]
theorem hr_169 (S T : hp_S) (x g : Int32) (h0 : 0 ≤ g.toInt) (h1 : g.toInt ≤ 9) : hq_169 S x g = hq_83 T x g := by
  obtain ⟨m, hm, rfl⟩ := hr_nz (n := 9) h0 h1
  have a1 : ∀ m ≤ 9, Int32.ofInt 5 + Int32.ofInt (m : Nat) + Int32.ofInt 9 = Int32.ofInt 14 + Int32.ofInt m := by decide
  unfold hq_169 hq_83
  rw [a1 m hm]
theorem hr_168 (S T : hp_S) (x g v : Int32) (h0 : 0 ≤ v.toInt) : hq_168 S x g v = hq_82 T x g v := by
  unfold hq_168 hq_82
  by_cases q : v = 0
  · subst q
    rw [if_neg (by decide)]
    simp only [show (hz_cmp .le (0 : Int32) 0 = true) = True from by simp [hz_cmp], if_true]
    repeat' split
    all_goals decide
  · have h : 0 < v.toInt := by
      have : v.toInt ≠ 0 := fun z => q (Int32.toInt_inj.mp (z.trans hr_0.symm))
      omega
    rw [if_pos (by rw [hr_gt, hr_0]; exact h)]
    have h2 : ¬ (hz_cmp .le v 0 = true) := by rw [hr_le, hr_0]; omega
    simp only [if_neg h2]
theorem hr_82b (T : hp_S) (x g v : Int32) (h0 : 0 ≤ v.toInt) (h1 : v.toInt ≤ 9) (g0 : 0 ≤ g.toInt) (g1 : g.toInt ≤ 9) : 0 ≤ (hq_82 T x g v).toInt ∧ (hq_82 T x g v).toInt ≤ 30 := by
  obtain ⟨m, hm, rfl⟩ := hr_nz (n := 9) g0 g1
  obtain ⟨n, hn, rfl⟩ := hr_nz (n := 9) h0 h1
  have a1 : ∀ n ≤ 9, 0 ≤ (Int32.ofInt (n : Nat) + Int32.ofInt 1).toInt ∧ (Int32.ofInt (n : Nat) + Int32.ofInt 1).toInt ≤ 30 := by decide
  have a2 : ∀ n ≤ 9, 0 ≤ (Int32.ofInt 2 * Int32.ofInt (n : Nat)).toInt ∧ (Int32.ofInt 2 * Int32.ofInt (n : Nat)).toInt ≤ 30 := by decide
  have a3 : ∀ n ≤ 9, 0 ≤ (Int32.ofInt (n : Nat) / Int32.ofInt 2).toInt ∧ (Int32.ofInt (n : Nat) / Int32.ofInt 2).toInt ≤ 30 := by decide
  have a4 : ∀ n ≤ 9, ∀ m ≤ 9, 0 ≤ (Int32.ofInt (n : Nat) + Int32.ofInt 1 + Int32.ofInt (m : Nat) / Int32.ofInt 3).toInt ∧ (Int32.ofInt (n : Nat) + Int32.ofInt 1 + Int32.ofInt (m : Nat) / Int32.ofInt 3).toInt ≤ 30 := by decide +kernel
  have a5 : ∀ n ≤ 9, hz_cmp .le (Int32.ofInt (n : Nat)) 0 = true ∨ 0 ≤ (Int32.ofInt 2 * Int32.ofInt (n : Nat) - Int32.ofInt 1).toInt ∧ (Int32.ofInt 2 * Int32.ofInt (n : Nat) - Int32.ofInt 1).toInt ≤ 30 := by decide
  have a6 : ∀ n ≤ 9, 0 ≤ (Int32.ofInt (n : Nat) / Int32.ofInt 3).toInt ∧ (Int32.ofInt (n : Nat) / Int32.ofInt 3).toInt ≤ 30 := by decide
  have a0 : 0 ≤ (Int32.ofInt 0).toInt ∧ (Int32.ofInt 0).toInt ≤ 30 := by decide
  unfold hq_82
  repeat' split
  · exact a0
  · exact a1 n hn
  · exact a2 n hn
  · exact a3 n hn
  · exact a0
  · exact a4 n hn m hm
  · exact a0
  · rename_i h
    exact (a5 n hn).resolve_left h
  · exact a6 n hn
  · omega
end HR

section HR
variable {S T : hp_S} {b c : Nat} {i : Int32} {k : Nat}
theorem hr_wind (hE : hr_E S b (T c)) (ho : hr_ok (T c)) : S (b + 1) (S b 2).toNatClampNeg = T c (Int32.ofInt 6 + T c 2).toNatClampNeg ∧ 0 ≤ (T c (Int32.ofInt 6 + T c 2).toNatClampNeg).toInt ∧ (T c (Int32.ofInt 6 + T c 2).toNatClampNeg).toInt ≤ 9 := by
  have h2 := ho.1.2.2.1
  have e6 : (Int32.ofInt 6).toInt = 6 := by decide
  have hh : (T c 2).toInt = (((T c 2).toInt.toNat : Nat) : Int) := by omega
  have e : (Int32.ofInt 6 + T c 2).toNatClampNeg = 6 + (T c 2).toInt.toNat := hr_nat (by rw [hp_add (by omega) (by omega), e6]; omega)
  rw [e, hE.1.2.2.1, hr_nat hh]
  exact ⟨hE.2.1 _ (by omega), ho.2.1 _ (by omega)⟩
theorem hr_p0 (x : Int32) : x + Int32.ofInt 0 = x := by
  rw [show Int32.ofInt 0 = 0 from by decide]
  exact Int32.add_zero x
theorem hr_71 (T : hp_S) (x y : Int32) : (hq_71 T x y).toInt = min x.toInt y.toInt := by
  unfold hq_71
  split
  · rename_i h; rw [hr_ge] at h; omega
  · rename_i h; rw [hr_ge] at h; omega
theorem hr_84v (T : hp_S) (c : Nat) (x : Int32) (ho : hr_ok (T c)) : hq_84 T c x (T c 2) (Int32.ofInt 0) = (if hz_cmp .ne (((T c 4) >>> (x &&& 31)) &&& Int32.ofInt 1) (Int32.ofInt 1) = true then T c (Int32.ofInt 6 + T c 2).toNatClampNeg else Int32.ofInt 0) := by
  have h2 := ho.1.2.2.1
  have e6 : (Int32.ofInt 6).toInt = 6 := by decide
  have e9 : (Int32.ofInt 9).toInt = 9 := by decide
  have e : (Int32.ofInt 6 + T c 2).toNatClampNeg = 6 + (T c 2).toInt.toNat := hr_nat (by rw [hp_add (by omega) (by omega), e6]; omega)
  have hw := ho.2.1 (T c 2).toInt.toNat (by omega)
  unfold hq_84 hq_79
  rw [hr_n4', e, hr_p0]
  by_cases q : hz_cmp .ne (((T c 4) >>> (x &&& 31)) &&& Int32.ofInt 1) (Int32.ofInt 1) = true
  · rw [if_pos q, if_pos q, if_pos (by decide)]
    unfold hq_71
    rw [if_pos (by rw [hr_ge]; omega)]
  · rw [if_neg q, if_neg q, if_neg (by decide)]
theorem hr_84b (T : hp_S) (c : Nat) (x : Int32) (ho : hr_ok (T c)) : 0 ≤ (hq_84 T c x (T c 2) (Int32.ofInt 0)).toInt ∧ (hq_84 T c x (T c 2) (Int32.ofInt 0)).toInt ≤ 9 := by
  have h2 := ho.1.2.2.1
  have e6 : (Int32.ofInt 6).toInt = 6 := by decide
  have e : (Int32.ofInt 6 + T c 2).toNatClampNeg = 6 + (T c 2).toInt.toNat := hr_nat (by rw [hp_add (by omega) (by omega), e6]; omega)
  rw [hr_84v T c x ho, e]
  split
  · exact ho.2.1 _ (by omega)
  · decide
theorem hr_203 (hE : hr_E S b (T c)) (ho : hr_ok (T c)) (h0 : 0 ≤ i.toInt) (h1 : i.toInt ≤ 20) : hq_203 S b i = hq_84 T c i (T c 2) (Int32.ofInt 0) := by
  have e21 : (Int32.ofInt 21).toInt = 21 := by decide
  rw [hr_84v T c i ho]
  unfold hq_203
  rw [if_neg (by rw [hr_lt, hr_0]; omega), if_neg (by rw [hr_ge]; omega), hE.1.2.2.2.2, (hr_wind hE ho).1]
  split
  · rw [if_pos (by decide)]
  · rw [if_neg (by decide)]
theorem hr_204n (hE : hr_E S b (T c)) (ho : hr_ok (T c)) (hi : i.toInt = k) (hk : k < 8) (hn : (k : Int) < (T c 1).toInt) (hw : T c (50 + 4 * k) = hr_9) : hq_204 S b i = S := by
  have e := (hE.2.2.2 k hk hn).2.2.1
  have h9 : hr_9.toInt = 9 := by decide
  unfold hq_204
  rw [hr_nat hi, e, hw, hr_181, if_pos]
  rw [hr_e0, hE.1.1]
  have := ho.1.1
  omega
theorem hr_204w (hE : hr_E S b (T c)) (ho : hr_ok (T c)) (hi : i.toInt = k) (hk : k < 8) (hn : (k : Int) < (T c 1).toInt) {p : Nat} (hp : (T c (50 + 4 * k)).toInt = p) (hp6 : (p : Int) < (T c 0).toInt) : hq_204 S b i = (if hz_cmp .le (hq_84 T c (T c (30 + 3 * p)) (T c 2) (Int32.ofInt 0)) (hq_81 T (T c (48 + 4 * k)) (T c (49 + 4 * k)) + T c (32 + 3 * p)) = true then S else hp_w (hp_w S (b + 7) k hr_9) (b + 8) k (T c (30 + 3 * p))) := by
  obtain ⟨e5, e6, e7, e8⟩ := hE.2.2.2 k hk hn
  have h6 := ho.1.1
  obtain ⟨a2, a3, a4, a5⟩ := hE.2.2.1 p (by omega) hp6
  have op := ho.2.2.1 p (by omega) hp6
  have oh := ho.2.2.2 k hk hn
  have hne : b + 2 ≠ b + 7 := by omega
  unfold hq_204
  rw [hr_nat hi, e7, hr_181, if_neg (by rw [hr_e0, hE.1.1]; omega), hr_nat hp, hp_wo _ _ _ _ _ hne, a2, a5, e5, e6, hr_203 hE ho op.1.1 op.1.2, hr_167 S T _ _ oh.2.1.1 oh.2.1.2]
theorem hr_89 (hi : i.toInt = k) (hk : k < 8) {p : Nat} (hp : (T c (50 + 4 * k)).toInt = p) (hp6 : p < 6) : hq_89 T c i c = upd (upd (T c) (51 + 4 * k) (T c (30 + 3 * p))) (50 + 4 * k) hr_9 := by
  have h9 : hr_9.toInt = 9 := by decide
  have hw : T c (50 + 4 * k) ≠ hr_9 := by
    intro z
    rw [z] at hp
    omega
  have e87 : hq_87 T c i = T c (30 + 3 * p) := by
    unfold hq_87
    rw [hr_85 hi hk, if_neg (by rw [hr_e0]; exact fun q => q hw), hr_H2 T hi hk, hr_P0 T hp (by omega)]
  unfold hq_89
  rw [hr_wgs _ c (n := 50 + 4 * k) (by rw [hr_H _ hi hk (show _ = (2 : Int) by decide) (by omega)]; omega) (by omega), hr_wgs _ c (n := 51 + 4 * k) (by rw [hr_H _ hi hk (show _ = (3 : Int) by decide) (by omega)]; omega) (by omega), e87]
theorem hr_ub {f : Nat → Int32} {a : Nat} {v : Int32} {j : Nat} (h : j ≠ a) : upd f a v j = f j := if_neg h
theorem hr_us {f : Nat → Int32} {a : Nat} {v : Int32} : upd f a v a = v := if_pos rfl
theorem hr_wb (S : hp_S) (b a : Nat) (k : Nat) (v : Int32) (j l : Nat) (h : j ≠ a ∨ l ≠ k) : hp_w S (b + a) k v (b + j) l = S (b + j) l := by
  unfold hp_w
  by_cases q : b + j = b + a
  · rw [if_pos q]
    rw [hr_ub (h.resolve_left (fun z => z (by omega))), q]
  · rw [if_neg q]
theorem hr_wc (S : hp_S) (b a k : Nat) (v : Int32) : hp_w S (b + a) k v (b + a) k = v := by
  unfold hp_w
  rw [if_pos rfl, hr_us]
/-- a hat is taken -/
theorem hr_E89 (hE : hr_E S b (T c)) (hk : k < 8) (hn : (k : Int) < (T c 1).toInt) (q : Int32) : hr_E (hp_w (hp_w S (b + 7) k hr_9) (b + 8) k q) b (upd (upd (T c) (51 + 4 * k) q) (50 + 4 * k) hr_9) := by
  obtain ⟨e5, e6, e7, e8⟩ := hE.2.2.2 k hk hn
  refine hr_Ehat (k := k) hE (fun i j hi hj => ?_) (fun j hj => ?_) ⟨?_, ?_, ?_, fun _ => ?_⟩
  · rw [hr_wb _ _ _ _ _ _ _ (by omega), hr_wb _ _ _ _ _ _ _ (by omega)]
  · rw [hr_ub (by omega), hr_ub (by omega)]
  · rw [hr_wb _ _ _ _ _ _ _ (by omega), hr_wb _ _ _ _ _ _ _ (by omega), hr_ub (by omega), hr_ub (by omega)]; exact e5
  · rw [hr_wb _ _ _ _ _ _ _ (by omega), hr_wb _ _ _ _ _ _ _ (by omega), hr_ub (by omega), hr_ub (by omega)]; exact e6
  · rw [hr_wb _ _ _ _ _ _ _ (by omega), hr_wc, hr_us]
  · rw [hr_wc, hr_ub (by omega), hr_us]
theorem hr_ok89 (ho : hr_ok (T c)) (hk : k < 8) (hn : (k : Int) < (T c 1).toInt) {q : Int32} (h0 : 0 ≤ q.toInt) (h1 : q.toInt ≤ 21) : hr_ok (upd (upd (T c) (51 + 4 * k) q) (50 + 4 * k) hr_9) := by
  have o := ho.2.2.2 k hk hn
  refine hr_okhat (k := k) ho (fun j hj => ?_) ⟨?_, ?_, Or.inl ?_, fun _ => ?_⟩
  · rw [hr_ub (by omega), hr_ub (by omega)]
  · rw [hr_ub (by omega), hr_ub (by omega)]; exact o.1
  · rw [hr_ub (by omega), hr_ub (by omega)]; exact o.2.1
  · exact hr_us
  · rw [hr_ub (by omega), hr_us]; exact ⟨h0, h1⟩
/-- the hour's wind takes hats -/
theorem hr_l1 (b c : Nat) : ∀ (m : Nat) (S T : hp_S) (i : Int32) (k : Nat), hr_E S b (T c) → hr_ok (T c) → i.toInt = k → k ≤ 8 → hr_E (hq_201_2 b m S i) b (hq_93_2 c (Int32.ofInt 0) m T i c) ∧ hr_ok (hq_93_2 c (Int32.ofInt 0) m T i c) ∧ hr_same (T c) (hq_93_2 c (Int32.ofInt 0) m T i c) := by
  intro m
  induction m with
  | zero => intro S T i k hE ho _ _; exact ⟨hE, ho, hr_sr _⟩
  | succ m ih =>
    intro S T i k hE ho hi hk
    have h8 := ho.1.2.1
    rw [hq_201_2, hq_93_2, hr_n1', hr_n2', hE.1.2.1]
    by_cases h : hz_cmp .ge i (T c 1) = true
    · rw [if_pos h, if_pos h]; exact ⟨hE, ho, hr_sr _⟩
    · rw [if_neg h, if_neg h]
      rw [hr_ge] at h
      have hk' : k < 8 := by omega
      have hn : (k : Int) < (T c 1).toInt := by omega
      have hup := hr_up hi (by omega)
      rw [hr_H2 T hi hk', hr_H0 T hi hk', hr_H1 T hi hk']
      by_cases hw : T c (50 + 4 * k) = hr_9
      · rw [if_neg (by rw [hr_ne]; exact fun q => q hw), hr_204n hE ho hi hk' hn hw]
        exact ih S T _ (k + 1) hE ho hup hk'
      · rw [if_pos (by rw [hr_ne]; exact hw)]
        have o := (ho.2.2.2 k hk' hn).2.2.1.resolve_left hw
        have h6 := ho.1.1
        obtain ⟨p, hp⟩ : ∃ p : Nat, (T c (50 + 4 * k)).toInt = p := ⟨(T c (50 + 4 * k)).toInt.toNat, by omega⟩
        have hp6 : p < 6 := by omega
        have op := ho.2.2.1 p hp6 (by omega)
        rw [hr_204w hE ho hi hk' hn hp (by omega), hr_P0 T hp (by omega), hr_P2 T hp (by omega)]
        by_cases hl : hz_cmp .le (hq_84 T c (T c (30 + 3 * p)) (T c 2) (Int32.ofInt 0)) (hq_81 T (T c (48 + 4 * k)) (T c (49 + 4 * k)) + T c (32 + 3 * p)) = true
        · rw [if_pos hl, if_pos hl]
          exact ih S T _ (k + 1) hE ho hup hk'
        · rw [if_neg hl, if_neg hl]
          have e89 := hr_89 hi hk' hp hp6
          refine hr_a3 (ih _ _ _ (k + 1) ?_ ?_ hup hk') ?_
          · rw [e89]; exact hr_E89 hE hk' hn _
          · rw [e89]; exact hr_ok89 ho hk' hn op.1.1 (by omega)
          · rw [e89]; exact ⟨by rw [hr_ub (by omega), hr_ub (by omega)], by rw [hr_ub (by omega), hr_ub (by omega)], by rw [hr_ub (by omega), hr_ub (by omega)]⟩
/-- where a loose hat lands -/
theorem hr_205 (hE : hr_E S b (T c)) (ho : hr_ok (T c)) (hi : i.toInt = k) (hk : k < 8) (hn : (k : Int) < (T c 1).toInt) {x : Int32} (h0 : 0 ≤ x.toInt) (h1 : x.toInt ≤ 20) : hq_205 S b i x = hq_90 T c i x (hq_84 T c x (T c 2) (Int32.ofInt 0)) ∧ 0 ≤ (hq_205 S b i x).toInt ∧ (hq_205 S b i x).toInt ≤ 21 := by
  obtain ⟨e5, e6, e7, e8⟩ := hE.2.2.2 k hk hn
  have oh := ho.2.2.2 k hk hn
  have wb := hr_84b T c x ho
  have fb := hr_82b T (T c (48 + 4 * k)) (T c (49 + 4 * k)) _ wb.1 wb.2 oh.2.1.1 oh.2.1.2
  have e21 : (Int32.ofInt 21).toInt = 21 := by decide
  have hs := hp_add (i := x) (u := hq_82 T (T c (48 + 4 * k)) (T c (49 + 4 * k)) (hq_84 T c x (T c 2) (Int32.ofInt 0))) (by omega) (by omega)
  unfold hq_205 hq_90
  rw [hr_nat hi, e5, e6, hr_203 hE ho h0 h1, hr_168 S T _ _ _ wb.1, hr_H0 T hi hk, hr_H1 T hi hk, if_pos (by rw [hr_ne]; intro z; rw [z] at h1; omega)]
  unfold hq_220 hq_71
  by_cases q : (x + hq_82 T (T c (48 + 4 * k)) (T c (49 + 4 * k)) (hq_84 T c x (T c 2) (Int32.ofInt 0))).toInt ≤ 21
  · rw [if_neg (by rw [hr_gt]; omega), if_pos (by rw [hr_ge]; omega)]
    exact ⟨rfl, by omega, q⟩
  · rw [if_pos (by rw [hr_gt]; omega), if_neg (by rw [hr_ge]; omega)]
    exact ⟨rfl, by omega, by omega⟩
theorem hr_Ewh (hE : hr_E S b (T c)) (hk : k < 8) (hn : (k : Int) < (T c 1).toInt) (q : Int32) : hr_E (hp_w S (b + 8) k q) b (upd (T c) (51 + 4 * k) q) := by
  obtain ⟨e5, e6, e7, e8⟩ := hE.2.2.2 k hk hn
  refine hr_Ehat (k := k) hE (fun i j hi hj => ?_) (fun j hj => ?_) ⟨?_, ?_, ?_, fun _ => ?_⟩
  · rw [hr_wb _ _ _ _ _ _ _ (by omega)]
  · rw [hr_ub (by omega)]
  · rw [hr_wb _ _ _ _ _ _ _ (by omega), hr_ub (by omega)]; exact e5
  · rw [hr_wb _ _ _ _ _ _ _ (by omega), hr_ub (by omega)]; exact e6
  · rw [hr_wb _ _ _ _ _ _ _ (by omega), hr_ub (by omega)]; exact e7
  · rw [hr_wc, hr_us]
theorem hr_okwh (ho : hr_ok (T c)) (hk : k < 8) (hn : (k : Int) < (T c 1).toInt) {q : Int32} (h0 : 0 ≤ q.toInt) (h1 : q.toInt ≤ 21) : hr_ok (upd (T c) (51 + 4 * k) q) := by
  have o := ho.2.2.2 k hk hn
  refine hr_okhat (k := k) ho (fun j hj => ?_) ⟨?_, ?_, ?_, fun _ => ?_⟩
  · rw [hr_ub (by omega)]
  · rw [hr_ub (by omega)]; exact o.1
  · rw [hr_ub (by omega)]; exact o.2.1
  · rw [hr_ub (by omega)]; exact o.2.2.1
  · rw [hr_us]; exact ⟨h0, h1⟩
/-- loose hats fly -/
theorem hr_l2 (b c : Nat) : ∀ (m : Nat) (S T : hp_S) (i : Int32) (k : Nat), hr_E S b (T c) → hr_ok (T c) → i.toInt = k → k ≤ 8 → hr_E (hq_201_23 b m S i) b (hq_93_82 c (Int32.ofInt 0) m T i c) ∧ hr_ok (hq_93_82 c (Int32.ofInt 0) m T i c) ∧ hr_same (T c) (hq_93_82 c (Int32.ofInt 0) m T i c) := by
  intro m
  induction m with
  | zero => intro S T i k hE ho _ _; exact ⟨hE, ho, hr_sr _⟩
  | succ m ih =>
    intro S T i k hE ho hi hk
    have h8 := ho.1.2.1
    rw [hq_201_23, hq_93_82, hr_n1', hr_n2', hE.1.2.1]
    by_cases h : hz_cmp .ge i (T c 1) = true
    · rw [if_pos h, if_pos h]; exact ⟨hE, ho, hr_sr _⟩
    · rw [if_neg h, if_neg h]
      rw [hr_ge] at h
      have hk' : k < 8 := by omega
      have hn : (k : Int) < (T c 1).toInt := by omega
      have hup := hr_up hi (by omega)
      rw [hr_184e hE hi hk' hn, hr_86 hi hk', hr_H3 T hi hk']
      by_cases hl : T c (50 + 4 * k) = hr_9 ∧ T c (51 + 4 * k) ≠ Int32.ofInt 21
      · rw [if_neg (by rw [hr_e0]; exact fun q => q hl), if_pos (by rw [hr_n0]; exact hl)]
        have o := (ho.2.2.2 k hk' hn).2.2.2 hl.1
        have h21 : (T c (51 + 4 * k)).toInt ≠ 21 := fun z => hl.2 (Int32.toInt_inj.mp (z.trans (by decide)))
        have e := (hE.2.2.2 k hk' hn).2.2.2 hl.1
        have hr := hr_205 hE ho hi hk' hn (x := T c (51 + 4 * k)) o.1 (by omega)
        rw [hr_nat hi, e]
        have ew : hp_wg 80 T c (hq_75 T i (Int32.ofInt 3)) (hq_90 T c i (T c (51 + 4 * k)) (hq_84 T c (T c (51 + 4 * k)) (T c 2) (Int32.ofInt 0))) c = upd (T c) (51 + 4 * k) (hq_205 S b i (T c (51 + 4 * k))) := by
          rw [hr_wgs _ c (n := 51 + 4 * k) (by rw [hr_H _ hi hk' (show _ = (3 : Int) by decide) (by omega)]; omega) (by omega), hr.1]
        refine hr_a3 (ih _ _ _ (k + 1) ?_ ?_ hup hk') ?_
        · rw [ew]; exact hr_Ewh hE hk' hn _
        · rw [ew]; exact hr_okwh ho hk' hn hr.2.1 hr.2.2
        · rw [ew]; exact ⟨by rw [hr_ub (by omega)], by rw [hr_ub (by omega)], by rw [hr_ub (by omega)]⟩
      · rw [if_pos (by rw [hr_e0]; exact hl), if_neg (by rw [hr_n0]; exact hl)]
        exact ih S T _ (k + 1) hE ho hup hk'
end HR

section HR
variable {S T : hp_S} {b c : Nat} {i x : Int32} {k : Nat}
abbrev hr_lo (f : Nat → Int32) (h : Nat) : Prop := f (50 + 4 * h) = hr_9 ∧ f (51 + 4 * h) ≠ Int32.ofInt 21
def hr_D (f : Nat → Int32) (x : Int32) (h : Nat) : Int := max ((f (51 + 4 * h)).toInt - x.toInt) (x.toInt - (f (51 + 4 * h)).toInt)
theorem hr_72 (T : hp_S) {x y : Int32} (h1 : 0 ≤ x.toInt ∧ x.toInt ≤ 100) (h2 : 0 ≤ y.toInt ∧ y.toInt ≤ 100) : (hq_72 T x y).toInt = max (x.toInt - y.toInt) (y.toInt - x.toInt) := by
  unfold hq_72
  split
  · rename_i h; rw [hr_ge] at h; rw [hp_sub (by omega) (by omega)]; omega
  · rename_i h; rw [hr_ge] at h; rw [hp_sub (by omega) (by omega)]; omega
theorem hr_neg {x : Int32} (h : -2147483648 < x.toInt) : (-x).toInt = -x.toInt := by
  have := Int32.toInt_lt x
  rw [Int32.toInt_neg]
  exact Int.bmod_eq_of_le (by omega) (by omega)
theorem hr_218 (S : hp_S) {x : Int32} (h : -2147483648 < x.toInt) : (hq_218 S x).toInt = max x.toInt (-x.toInt) := by
  unfold hq_218
  split
  · rename_i q; rw [hr_ge, hr_0] at q; omega
  · rename_i q; rw [hr_ge, hr_0] at q; rw [hr_neg h]; omega
theorem hr_dd (S T : hp_S) {x y : Int32} (h1 : 0 ≤ x.toInt ∧ x.toInt ≤ 100) (h2 : 0 ≤ y.toInt ∧ y.toInt ≤ 100) : hq_218 S (x - y) = hq_72 T x y := by
  apply Int32.toInt_inj.mp
  have e : (x - y).toInt = x.toInt - y.toInt := hp_sub (by omega) (by omega)
  rw [hr_72 T h1 h2, hr_218 S (by omega), e]
  omega
/-- a loose hat lies on the street -/
theorem hr_lb {f : Nat → Int32} (ho : hr_ok f) {h : Nat} (h8 : h < 8) (hh : (h : Int) < (f 1).toInt) (hl : hr_lo f h) : 0 ≤ (f (51 + 4 * h)).toInt ∧ (f (51 + 4 * h)).toInt ≤ 20 := by
  have o := (ho.2.2.2 h h8 hh).2.2.2 hl.1
  have h21 : (f (51 + 4 * h)).toInt ≠ 21 := fun z => hl.2 (Int32.toInt_inj.mp (z.trans (by decide)))
  omega
theorem hr_l207 (hE : hr_E S b (T c)) (ho : hr_ok (T c)) (hx : 0 ≤ x.toInt ∧ x.toInt ≤ 20) : ∀ (m : Nat) (i : Int32) (k : Nat) (v w : Int32), i.toInt = k → k ≤ 8 → ((v = Int32.ofInt (-4) ∧ w = Int32.ofInt 21) ∨ ∃ g : Nat, g < 8 ∧ v.toInt = g ∧ (g : Int) < (T c 1).toInt ∧ hr_lo (T c) g ∧ w = hq_72 T (T c (51 + 4 * g)) x) → hq_207_9 b x m S v w i = hq_91_5 c x m T v i := by
  intro m
  induction m with
  | zero => intros; rfl
  | succ m ih =>
    intro i k v w hi hk hv
    have h8 := ho.1.2.1
    rw [hq_207_9, hq_91_5, hr_n1', hE.1.2.1]
    by_cases h : hz_cmp .ge i (T c 1) = true
    · rw [if_pos h, if_pos h]
    · rw [if_neg h, if_neg h]
      rw [hr_ge] at h
      have hk' : k < 8 := by omega
      have hn : (k : Int) < (T c 1).toInt := by omega
      have hup := hr_up hi (by omega)
      rw [hr_184e hE hi hk' hn, hr_86 hi hk', hr_H3 T hi hk', hr_nat hi]
      by_cases hl : hr_lo (T c) k
      · have hc : ¬ (hz_cmp .eq (hr_b (hr_lo (T c) k)) 0 = true) := by rw [hr_e0]; exact fun q => q hl
        simp only [if_neg hc]
        have o := hr_lb ho hk' hn hl
        rw [(hE.2.2.2 k hk' hn).2.2.2 hl.1, hr_dd S T (x := T c (51 + 4 * k)) (by omega) (by omega)]
        have d1 := hr_72 T (x := T c (51 + 4 * k)) (y := x) (by omega) (by omega)
        have nx : ((i = Int32.ofInt (-4) ∧ hq_72 T (T c (51 + 4 * k)) x = Int32.ofInt 21) ∨ ∃ g : Nat, g < 8 ∧ i.toInt = g ∧ (g : Int) < (T c 1).toInt ∧ hr_lo (T c) g ∧ hq_72 T (T c (51 + 4 * k)) x = hq_72 T (T c (51 + 4 * g)) x) := Or.inr ⟨k, hk', hi, hn, hl, rfl⟩
        rcases hv with ⟨rfl, rfl⟩ | ⟨g, g8, hg, hgn, hgl, rfl⟩
        · have e21 : (Int32.ofInt 21).toInt = 21 := by decide
          rw [if_neg (by rw [hr_ge]; omega), if_pos (by decide)]
          exact ih _ (k + 1) _ _ hup hk' nx
        · rw [if_neg (show ¬ (hz_cmp .lt v 0 = true) by rw [hr_lt, hr_0]; omega)]
          have hgi : v.toInt = g := hg
          rw [hr_H3 T hgi g8]
          by_cases hd : hz_cmp .ge (hq_72 T (T c (51 + 4 * k)) x) (hq_72 T (T c (51 + 4 * g)) x) = true
          · rw [if_pos hd, if_pos hd]
            exact ih _ (k + 1) _ _ hup hk' (Or.inr ⟨g, g8, hg, hgn, hgl, rfl⟩)
          · rw [if_neg hd, if_neg hd]
            exact ih _ (k + 1) _ _ hup hk' nx
      · have hc : hz_cmp .eq (hr_b (hr_lo (T c) k)) 0 = true := by rw [hr_e0]; exact hl
        simp only [if_pos hc]
        exact ih _ (k + 1) _ _ hup hk' hv
theorem hr_207 (hE : hr_E S b (T c)) (ho : hr_ok (T c)) (hx : 0 ≤ x.toInt ∧ x.toInt ≤ 20) : hq_207 S b x = hq_91 T c x := by
  unfold hq_207 hq_91
  rw [hr_n1', hE.1.2.1]
  exact hr_l207 hE ho hx _ _ 0 _ _ (by decide) (by omega) (Or.inl ⟨rfl, rfl⟩)
/-- the nearest of the loose hats below n, the least of several -/
def hr_nr (f : Nat → Int32) (x : Int32) (n : Int) (v : Int32) : Prop := (v = Int32.ofInt (-4) ∧ ∀ h : Nat, (h : Int) < n → ¬ hr_lo f h) ∨ ∃ g : Nat, v.toInt = g ∧ (g : Int) < n ∧ hr_lo f g ∧ (∀ h : Nat, (h : Int) < n → hr_lo f h → hr_D f x g ≤ hr_D f x h) ∧ ∀ h : Nat, h < g → hr_lo f h → hr_D f x g < hr_D f x h
theorem hr_l91 (ho : hr_ok (T c)) (hx : 0 ≤ x.toInt ∧ x.toInt ≤ 20) : ∀ (m : Nat) (i : Int32) (k : Nat) (v : Int32), i.toInt = k → (k : Int) ≤ (T c 1).toInt → (T c 1).toInt - k < m → hr_nr (T c) x k v → hr_nr (T c) x (T c 1).toInt (hq_91_5 c x m T v i) := by
  intro m
  induction m with
  | zero => intros; omega
  | succ m ih =>
    intro i k v hi hk hm hv
    have h8 := ho.1.2.1
    rw [hq_91_5, hr_n1']
    by_cases h : hz_cmp .ge i (T c 1) = true
    · rw [if_pos h]
      rw [hr_ge] at h
      rw [show (T c 1).toInt = k by omega]
      exact hv
    · rw [if_neg h]
      rw [hr_ge] at h
      have hk' : k < 8 := by omega
      have hn : (k : Int) < (T c 1).toInt := by omega
      have hup := hr_up hi (by omega)
      rw [hr_86 hi hk', hr_H3 T hi hk']
      by_cases hl : hr_lo (T c) k
      · rw [if_neg (by rw [hr_e0]; exact fun q => q hl)]
        have o := hr_lb ho hk' hn hl
        have d1 := hr_72 T (x := T c (51 + 4 * k)) (y := x) (by omega) (by omega)
        rcases hv with ⟨rfl, hv⟩ | ⟨g, hg, hgn, hgl, hg1, hg2⟩
        · rw [if_pos (by decide)]
          refine ih _ (k + 1) _ hup (by omega) (by omega) (Or.inr ⟨k, hi, by omega, hl, fun h hh hlo => ?_, fun h hh hlo => ?_⟩)
          · by_cases q : h = k
            · subst q; exact Int.le_refl _
            · exact absurd hlo (hv h (by omega))
          · exact absurd hlo (hv h (by omega))
        · rw [if_neg (show ¬ (hz_cmp .lt v 0 = true) by rw [hr_lt, hr_0]; omega)]
          have g8 : g < 8 := by omega
          have og := hr_lb ho g8 (by omega) hgl
          have d2 := hr_72 T (x := T c (51 + 4 * g)) (y := x) (by omega) (by omega)
          rw [hr_H3 T hg g8]
          by_cases hd : hz_cmp .ge (hq_72 T (T c (51 + 4 * k)) x) (hq_72 T (T c (51 + 4 * g)) x) = true
          · rw [if_pos hd]
            rw [hr_ge, d1, d2] at hd
            refine ih _ (k + 1) _ hup (by omega) (by omega) (Or.inr ⟨g, hg, by omega, hgl, fun h hh hlo => ?_, hg2⟩)
            by_cases q : h = k
            · subst q; exact hd
            · exact hg1 h (by omega) hlo
          · rw [if_neg hd]
            rw [hr_ge, d1, d2] at hd
            have hd' : hr_D (T c) x k < hr_D (T c) x g := by unfold hr_D; omega
            refine ih _ (k + 1) _ hup (by omega) (by omega) (Or.inr ⟨k, hi, by omega, hl, fun h hh hlo => ?_, fun h hh hlo => ?_⟩)
            · by_cases q : h = k
              · subst q; exact Int.le_refl _
              · have := hg1 h (by omega) hlo
                omega
            · have := hg1 h (by omega) hlo
              omega
      · rw [if_pos (by rw [hr_e0]; exact hl)]
        refine ih _ (k + 1) _ hup (by omega) (by omega) ?_
        rcases hv with ⟨hv0, hv⟩ | ⟨g, hg, hgn, hgl, hg1, hg2⟩
        · refine Or.inl ⟨hv0, fun h hh => ?_⟩
          by_cases q : h = k
          · subst q; exact hl
          · exact hv h (by omega)
        · refine Or.inr ⟨g, hg, by omega, hgl, fun h hh hlo => ?_, hg2⟩
          by_cases q : h = k
          · subst q; exact absurd hlo hl
          · exact hg1 h (by omega) hlo
theorem hr_91 (ho : hr_ok (T c)) (hx : 0 ≤ x.toInt ∧ x.toInt ≤ 20) : hr_nr (T c) x (T c 1).toInt (hq_91 T c x) := by
  have h8 := ho.1.2.1
  unfold hq_91
  rw [hr_n1']
  refine hr_l91 ho hx _ _ 0 _ (by decide) (by omega) ?_ (Or.inl ⟨rfl, fun h hh => absurd hh (by omega)⟩)
  rw [hr_o0]
  omega
/-- the first loose hat at one's place is caught -/
theorem hr_82n {p : Int32} (h8 : (T c 1).toInt ≤ 8) (a d : Int32) (hno : ∀ h : Nat, (h : Int) < (T c 1).toInt → hr_lo (T c) h → T c (51 + 4 * h) ≠ T c (hq_74 T p (Int32.ofInt 0)).toNatClampNeg) : ∀ (m : Nat) (i : Int32) (k : Nat), i.toInt = k → k ≤ 8 → hq_92_82 c p m T a d i = T := by
  intro m
  induction m with
  | zero => intros; rfl
  | succ m ih =>
    intro i k hi hk
    rw [hq_92_82, hr_n1']
    by_cases h : hz_cmp .ge i (T c 1) = true
    · rw [if_pos h]
    · rw [if_neg h]
      rw [hr_ge] at h
      have hk' : k < 8 := by omega
      have hn : (k : Int) < (T c 1).toInt := by omega
      have hup := hr_up hi (by omega)
      rw [hr_86 hi hk', hr_H3 T hi hk']
      by_cases hl : hr_lo (T c) k
      · rw [if_neg (by rw [hr_e0]; exact fun q => q hl), if_neg (by rw [hr_eq]; exact hno k hn hl)]
        exact ih _ (k + 1) hup hk'
      · rw [if_pos (by rw [hr_e0]; exact hl)]
        exact ih _ (k + 1) hup hk'
theorem hr_82s {p : Int32} (h8 : (T c 1).toInt ≤ 8) (a d : Int32) {g : Nat} (hg : (g : Int) < (T c 1).toInt) (hgl : hr_lo (T c) g) (hgp : T c (51 + 4 * g) = T c (hq_74 T p (Int32.ofInt 0)).toNatClampNeg) (hno : ∀ h : Nat, h < g → hr_lo (T c) h → T c (51 + 4 * h) ≠ T c (hq_74 T p (Int32.ofInt 0)).toNatClampNeg) : ∀ (m : Nat) (i : Int32) (k : Nat), i.toInt = k → k ≤ g → (T c 1).toInt - k < m → hq_92_82 c p m T a d i c = upd (T c) (50 + 4 * g) p := by
  intro m
  induction m with
  | zero => intros; omega
  | succ m ih =>
    intro i k hi hk hm
    have hk' : k < 8 := by omega
    have hn : (k : Int) < (T c 1).toInt := by omega
    have hup := hr_up hi (by omega)
    rw [hq_92_82, hr_n1', if_neg (by rw [hr_ge]; omega), hr_86 hi hk', hr_H3 T hi hk']
    by_cases q : k = g
    · subst q
      rw [if_neg (by rw [hr_e0]; exact fun q => q hgl), if_pos (by rw [hr_eq]; exact hgp)]
      rw [hr_wgs _ c (n := 50 + 4 * k) (by rw [hr_H _ hi hk' (show _ = (2 : Int) by decide) (by omega)]; omega) (by omega)]
    · by_cases hl : hr_lo (T c) k
      · rw [if_neg (by rw [hr_e0]; exact fun q => q hl), if_neg (by rw [hr_eq]; exact hno k (by omega) hl)]
        exact ih _ (k + 1) hup (by omega) (by omega)
      · rw [if_pos (by rw [hr_e0]; exact hl)]
        exact ih _ (k + 1) hup (by omega) (by omega)
end HR

