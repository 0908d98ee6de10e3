/-! the shelves stay in bounds -/
theorem hs_ok_u {σ : Nat → hs_S} (h : hs_ok σ) {d : Nat} {x : hs_S} (hx : (x.1 = 0 ∨ x.1 = 1 ∨ x.1 = 2) ∧ (x.1 = 1 → (0 ≤ x.2.1.toInt ∧ x.2.1.toInt ≤ 7) ∧ (0 ≤ x.2.2.1.toInt ∧ x.2.2.1.toInt ≤ 9)) ∧ (x.1 = 2 → (0 ≤ x.2.1.toInt ∧ x.2.1.toInt ≤ 2) ∧ (0 ≤ x.2.2.1.toInt ∧ x.2.2.1.toInt ≤ 100))) : hs_ok (hs_u σ d x) := by
  intro e he
  unfold hs_u
  by_cases q : e = d
  · rw [if_pos q]; exact hx
  · rw [if_neg q]; exact h e he
theorem hs_01 : ¬ (0 : Int32) = 1 := by decide
theorem hs_02 : ¬ (0 : Int32) = 2 := by decide
theorem hs_12 : ¬ (1 : Int32) = 2 := by decide
theorem hs_21 : ¬ (2 : Int32) = 1 := by decide
theorem sp_keep_ok {σ : Nat → hs_S} (h : hs_ok σ) {d w k f : Int32} : hs_ok (sp_keep σ d w k f).2 := by
  unfold sp_keep
  split
  · exact h
  · split
    · exact hs_ok_u h ⟨Or.inl rfl, fun q => absurd q hs_01, fun q => absurd q hs_02⟩
    · split
      · exact h
      · rename_i q
        exact hs_ok_u h ⟨Or.inr (Or.inl rfl), fun _ => ⟨by show 0 ≤ k.toInt ∧ k.toInt ≤ 7; omega, by show 0 ≤ f.toInt ∧ f.toInt ≤ 9; omega⟩, fun q => absurd q hs_12⟩
theorem sp_row_ok {σ : Nat → hs_S} (h : hs_ok σ) {d t n : Int32} : hs_ok (sp_row σ d t n).2 := by
  unfold sp_row
  split
  · exact h
  · split
    · exact h
    · exact hs_ok_u h ⟨Or.inr (Or.inr rfl), fun q => absurd q hs_21, fun _ => ⟨by show 0 ≤ t.toInt ∧ t.toInt ≤ 2; omega, by show 0 ≤ n.toInt ∧ n.toInt ≤ 100; omega⟩⟩
theorem sp_put_ok {σ : Nat → hs_S} (h : hs_ok σ) {d i v : Int32} : hs_ok (sp_put σ d i v).2 := by
  unfold sp_put
  split
  · exact h
  · rename_i q
    split
    · exact h
    · obtain ⟨h1, h2, _⟩ := sp_ref2 (Decidable.not_not.mp q)
      have h3 := (h d.toNatClampNeg (by show d.toInt.toNat < 8; omega)).2.2 h2
      exact hs_ok_u h ⟨Or.inr (Or.inr rfl), fun q => absurd q hs_21, fun _ => h3⟩
theorem sp_copy_ok {σ : Nat → hs_S} (h : hs_ok σ) {d i e j n : Int32} : hs_ok (sp_copy σ d i e j n).2 := by
  unfold sp_copy
  split
  · exact h
  · rename_i q1
    split
    · exact h
    · split
      · exact h
      · rename_i q3
        split
        · exact h
        · have h2 : (σ e.toNatClampNeg).1 = 2 := Decidable.not_not.mp (fun z => q3 (Or.inr (Or.inl z)))
          have h3 := (h e.toNatClampNeg (by show e.toInt.toNat < 8; omega)).2.2 h2
          exact hs_ok_u h ⟨Or.inr (Or.inr rfl), fun q => absurd q hs_21, fun _ => h3⟩
