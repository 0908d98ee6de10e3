theorem hw_len : hw_Y.length = 245 := by decide +kernel
theorem hw_chk (i : Nat) (h0 : 8 ≤ i) (h : i < 245) : (match hw_Y[i]? with
  | some Y => ha_chk (hw_Y.take i) hw_H hw_W 4000 Y
  | none => false) = true := by
  rcases Nat.lt_or_ge i 28 with q0 | q0
  · exact hz_rng hw_c0 i (by omega) (by omega)
  rcases Nat.lt_or_ge i 48 with q1 | q1
  · exact hz_rng hw_c1 i (by omega) (by omega)
  rcases Nat.lt_or_ge i 68 with q2 | q2
  · exact hz_rng hw_c2 i (by omega) (by omega)
  rcases Nat.lt_or_ge i 88 with q3 | q3
  · exact hz_rng hw_c3 i (by omega) (by omega)
  rcases Nat.lt_or_ge i 108 with q4 | q4
  · exact hz_rng hw_c4 i (by omega) (by omega)
  rcases Nat.lt_or_ge i 128 with q5 | q5
  · exact hz_rng hw_c5 i (by omega) (by omega)
  rcases Nat.lt_or_ge i 148 with q6 | q6
  · exact hz_rng hw_c6 i (by omega) (by omega)
  rcases Nat.lt_or_ge i 168 with q7 | q7
  · exact hz_rng hw_c7 i (by omega) (by omega)
  rcases Nat.lt_or_ge i 188 with q8 | q8
  · exact hz_rng hw_c8 i (by omega) (by omega)
  rcases Nat.lt_or_ge i 208 with q9 | q9
  · exact hz_rng hw_c9 i (by omega) (by omega)
  rcases Nat.lt_or_ge i 228 with q10 | q10
  · exact hz_rng hw_c10 i (by omega) (by omega)
  rcases Nat.lt_or_ge i 245 with q11 | q11
  · exact hz_rng hw_c11 i (by omega) (by omega)
  omega
/-- all that is told of the methods, out of what is told by hand -/
theorem hw_val {ext : Nat → List Value → hzMem → Option (Option (Option Value × hzMem))} (hn : ∀ (x : Nat) (As : List Value) (M : hzMem) (q : hzN), hzM[x]? = some q → q.2.2.2.2.2.2.2.2.1 ≠ 0 → ext x As M = none)
    (hm : ∀ Y ∈ hw_Y.take 8, ha_val ext hw_W Y) : ∀ Y ∈ hw_Y, ha_val ext hw_W Y := by
  have key : ∀ (n i : Nat) (Y : ha_Y), i < n → hw_Y[i]? = some Y → ha_val ext hw_W Y := by
    intro n
    induction n with
    | zero => intro i Y h; exact absurd h (Nat.not_lt_zero _)
    | succ n ih =>
      intro i Y hi hY
      have hlt : i < 245 := by rw [← hw_len]; exact (List.getElem?_eq_some_iff.mp hY).1
      by_cases h0 : 8 ≤ i
      · have hc := hw_chk i h0 hlt
        rw [hY] at hc
        refine ha_chk_ok (fun Y' hY' => ?_) hn hc
        obtain ⟨j, hj⟩ := List.getElem?_of_mem hY'
        have hji : j < i := by
          have := (List.getElem?_eq_some_iff.mp hj).1
          rw [List.length_take] at this
          omega
        exact ih j Y' (by omega) (by rw [List.getElem?_take_of_lt hji] at hj; exact hj)
      · refine hm Y (List.mem_of_getElem? (i := i) ?_)
        rw [List.getElem?_take_of_lt (by omega)]
        exact hY
  intro Y hY
  obtain ⟨i, hi⟩ := List.getElem?_of_mem hY
  exact key (i + 1) i Y (Nat.lt_succ_self _) hi
