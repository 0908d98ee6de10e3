/-! WHAT THE REFERENCE'S STREET CALLS, told apart; printed by wip/p41/outz.py -/
def hw_HZ : List ha_H := [
  (91, 5, [none, none, some ((-4), 7), some (0, 2147483647)], 3),
  (92, 82, [none, none, none, none, some (0, 2147483647), none], 4),
  (93, 2, [none, none, some (0, 2147483647), none], 2),
  (93, 82, [none, none, some (0, 2147483647), none], 2),
  (93, 142, [none, none, some (0, 2147483647), none], 2),
  (88, 2, [none, none, some (0, 2147483647)], 2),
  (94, 2, [none, none, some (0, 2147483647)], 2)]
def hw_Z : List ha_Y := [
  (91, [.inr (.inl 48), .inl ((-2147483648), 2147483647)], some (.inl ((-4), 7)), []),
  (89, [.inr (.inl 48), .inl (0, 7)], none, [48]),
  (92, [.inr (.inl 48), .inl (0, 5)], none, [48]),
  (93, [.inr (.inl 48), .inl ((-2147483648), 2147483647)], none, [48]),
  (94, [.inr (.inl 48), .inl ((-2147483648), 2147483647)], none, [48]),
  (73, [.inr (.inl 48), .inr (.inl 51)], none, [51]),
  (73, [.inr (.inl 51), .inr (.inl 48)], none, [48]),
  (158, [.inr (.inl 47), .inl (0, 7), .inl ((-2147483648), 2147483647)], some (.inl ((-2147483648), 2147483647)), []),
  (158, [.inr (.inl 47), .inl ((-2147483648), (-1)), .inl ((-2147483648), 2147483647)], some (.inl ((-1), (-1))), []),
  (158, [.inr (.inl 47), .inl (8, 2147483647), .inl ((-2147483648), 2147483647)], some (.inl ((-1), (-1))), []),
  (105, [.inr (.inl 47), .inl ((-2147483648), 2147483647)], some (.inl (0, 1)), [48])]
theorem hw_zl : hw_Z.length = 11 := rfl
set_option maxRecDepth 100000 in
theorem hw_zc : (List.range' 0 11).all (fun i => match hw_Z[i]? with
  | some Y => ha_chk (hw_Z.take i) hw_HZ hw_W 4000 Y
  | none => false) = true := by decide +kernel
theorem hw_zval {ext : Nat → List Value → hzMem → Option (Option (Option Value × hzMem))} (hn : hm_no ext) : ∀ Y ∈ hw_Z, ha_val ext hw_W Y := by
  have key : ∀ (n i : Nat) (Y : ha_Y), i < n → hw_Z[i]? = some Y → ha_val ext hw_W Y := by
    intro n
    induction n with
    | zero => intro i Y h; exact absurd h (Nat.not_lt_zero _)
    | succ n ih =>
      intro i Y hi hY
      have hlt : i < 11 := by rw [← hw_zl]; exact (List.getElem?_eq_some_iff.mp hY).1
      have hc := hz_rng hw_zc i (by omega) (by omega)
      rw [hY] at hc
      refine ha_chk_ok (fun Y' hY' => ?_) hn hc
      obtain ⟨j, hj⟩ := List.getElem?_of_mem hY'
      have hji : j < i := by
        have := (List.getElem?_eq_some_iff.mp hj).1
        rw [List.length_take] at this
        omega
      exact ih j Y' (by omega) (by rw [List.getElem?_take_of_lt hji] at hj; exact hj)
  intro Y hY
  obtain ⟨i, hi⟩ := List.getElem?_of_mem hY
  exact key (i + 1) i Y (Nat.lt_succ_self _) hi
