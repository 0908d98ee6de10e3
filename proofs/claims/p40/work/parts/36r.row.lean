/-! WHAT A ROW (p40: A KEEPING) ANSWERS, told by the bounds of what is given; printed by wip/p41/outr.py -/
def hw_HR : List ha_H := [
  ]
def hw_R : List ha_Y := [
  (38, [.inr (.inl 0), .inl ((-2147483648), (-1)), .inl ((-2147483648), 2147483647), .inl ((-2147483648), 2147483647), .inl ((-2147483648), 2147483647)], some (.inl ((-1), (-1))), []),
  (38, [.inr (.inl 0), .inl (8, 2147483647), .inl ((-2147483648), 2147483647), .inl ((-2147483648), 2147483647), .inl ((-2147483648), 2147483647)], some (.inl ((-1), (-1))), []),
  (38, [.inr (.inl 0), .inl (0, 7), .inl ((-2147483648), (-1)), .inl ((-2147483648), 2147483647), .inl ((-2147483648), 2147483647)], some (.inl ((-1), (-1))), []),
  (38, [.inr (.inl 0), .inl (0, 7), .inl (2, 2147483647), .inl ((-2147483648), 2147483647), .inl ((-2147483648), 2147483647)], some (.inl ((-1), (-1))), []),
  (38, [.inr (.inl 0), .inl (0, 7), .inl (0, 0), .inl ((-2147483648), 2147483647), .inl ((-2147483648), 2147483647)], some (.inl (0, 0)), [29, 30, 31, 32, 33, 34, 35, 36, 37, 38, 39, 40, 41, 42, 43, 44]),
  (38, [.inr (.inl 0), .inl (0, 7), .inl (1, 1), .inl ((-2147483648), (-1)), .inl ((-2147483648), 2147483647)], some (.inl ((-1), (-1))), []),
  (38, [.inr (.inl 0), .inl (0, 7), .inl (1, 1), .inl (8, 2147483647), .inl ((-2147483648), 2147483647)], some (.inl ((-1), (-1))), []),
  (38, [.inr (.inl 0), .inl (0, 7), .inl (1, 1), .inl (0, 7), .inl ((-2147483648), (-1))], some (.inl ((-1), (-1))), []),
  (38, [.inr (.inl 0), .inl (0, 7), .inl (1, 1), .inl (0, 7), .inl (10, 2147483647)], some (.inl ((-1), (-1))), []),
  (38, [.inr (.inl 0), .inl (0, 7), .inl (1, 1), .inl (0, 7), .inl (0, 9)], some (.inl (0, 0)), [29, 30, 31, 32, 33, 34, 35, 36, 37, 38, 39, 40, 41, 42, 43, 44]),
  (160, [.inr (.inl 47), .inl ((-2147483648), (-1)), .inl ((-2147483648), 2147483647), .inl ((-2147483648), 2147483647), .inl ((-2147483648), 2147483647)], some (.inl ((-1), (-1))), []),
  (160, [.inr (.inl 47), .inl (8, 2147483647), .inl ((-2147483648), 2147483647), .inl ((-2147483648), 2147483647), .inl ((-2147483648), 2147483647)], some (.inl ((-1), (-1))), []),
  (160, [.inr (.inl 47), .inl (0, 7), .inl ((-2147483648), (-1)), .inl ((-2147483648), 2147483647), .inl ((-2147483648), 2147483647)], some (.inl ((-1), (-1))), []),
  (160, [.inr (.inl 47), .inl (0, 7), .inl (2, 2147483647), .inl ((-2147483648), 2147483647), .inl ((-2147483648), 2147483647)], some (.inl ((-1), (-1))), []),
  (160, [.inr (.inl 47), .inl (0, 7), .inl (0, 0), .inl ((-2147483648), 2147483647), .inl ((-2147483648), 2147483647)], some (.inl (0, 0)), [53, 54, 55, 56, 57, 58]),
  (160, [.inr (.inl 47), .inl (0, 7), .inl (1, 1), .inl ((-2147483648), (-1)), .inl ((-2147483648), 2147483647)], some (.inl ((-1), (-1))), []),
  (160, [.inr (.inl 47), .inl (0, 7), .inl (1, 1), .inl (8, 2147483647), .inl ((-2147483648), 2147483647)], some (.inl ((-1), (-1))), []),
  (160, [.inr (.inl 47), .inl (0, 7), .inl (1, 1), .inl (0, 7), .inl ((-2147483648), (-1))], some (.inl ((-1), (-1))), []),
  (160, [.inr (.inl 47), .inl (0, 7), .inl (1, 1), .inl (0, 7), .inl (10, 2147483647)], some (.inl ((-1), (-1))), []),
  (160, [.inr (.inl 47), .inl (0, 7), .inl (1, 1), .inl (0, 7), .inl (0, 9)], some (.inl (0, 0)), [53, 54, 55, 56, 57, 58])]
theorem hw_rl : hw_R.length = 20 := rfl
set_option maxRecDepth 100000 in
theorem hw_rc : (List.range' 0 20).all (fun i => match hw_R[i]? with
  | some Y => ha_chk (hw_R.take i) hw_HR hw_W 4000 Y
  | none => false) = true := by decide +kernel
theorem hw_rval {ext : Nat → List Value → hzMem → Option (Option (Option Value × hzMem))} (hn : hm_no ext) : ∀ Y ∈ hw_R, ha_val ext hw_W Y := by
  have key : ∀ (n i : Nat) (Y : ha_Y), i < n → hw_R[i]? = some Y → ha_val ext hw_W Y := by
    intro n
    induction n with
    | zero => intro i Y h; exact absurd h (Nat.not_lt_zero _)
    | succ n ih =>
      intro i Y hi hY
      have hlt : i < 20 := by rw [← hw_rl]; exact (List.getElem?_eq_some_iff.mp hY).1
      have hc := hz_rng hw_rc i (by omega) (by omega)
      rw [hY] at hc
      refine ha_chk_ok (fun Y' hY' => ?_) hn hc
      obtain ⟨j, hj⟩ := List.getElem?_of_mem hY'
      have hji : j < i := by
        have := (List.getElem?_eq_some_iff.mp hj).1
        rw [List.length_take] at this
        omega
      exact ih j Y' (by omega) (by rw [List.getElem?_take_of_lt hji] at hj; exact hj)
  intro Y hY
  obtain ⟨i, hi⟩ := List.getElem?_of_mem hY
  exact key (i + 1) i Y (Nat.lt_succ_self _) hi
