theorem hw_len : hw_Y.length = 245 := by decide +kernel
theorem hw_chk (i : Nat) (h0 : 8 ≤ i) (h : i < 245) : (match hw_Y[i]? with
  | some Y => ha_chk (hw_Y.take i) (hw_Hs i) hw_W 4000 Y
  | none => false) = true := by
  rcases Nat.lt_or_ge i 20 with q0 | q0
  · exact hz_rng hw_c0 i (by omega) (by omega)
  rcases Nat.lt_or_ge i 30 with q1 | q1
  · exact hz_rng hw_c1 i (by omega) (by omega)
  rcases Nat.lt_or_ge i 42 with q2 | q2
  · exact hz_rng hw_c2 i (by omega) (by omega)
  rcases Nat.lt_or_ge i 49 with q3 | q3
  · exact hz_rng hw_c3 i (by omega) (by omega)
  rcases Nat.lt_or_ge i 59 with q4 | q4
  · exact hz_rng hw_c4 i (by omega) (by omega)
  rcases Nat.lt_or_ge i 66 with q5 | q5
  · exact hz_rng hw_c5 i (by omega) (by omega)
  rcases Nat.lt_or_ge i 72 with q6 | q6
  · exact hz_rng hw_c6 i (by omega) (by omega)
  rcases Nat.lt_or_ge i 76 with q7 | q7
  · exact hz_rng hw_c7 i (by omega) (by omega)
  rcases Nat.lt_or_ge i 82 with q8 | q8
  · exact hz_rng hw_c8 i (by omega) (by omega)
  rcases Nat.lt_or_ge i 88 with q9 | q9
  · exact hz_rng hw_c9 i (by omega) (by omega)
  rcases Nat.lt_or_ge i 92 with q10 | q10
  · exact hz_rng hw_c10 i (by omega) (by omega)
  rcases Nat.lt_or_ge i 98 with q11 | q11
  · exact hz_rng hw_c11 i (by omega) (by omega)
  rcases Nat.lt_or_ge i 104 with q12 | q12
  · exact hz_rng hw_c12 i (by omega) (by omega)
  rcases Nat.lt_or_ge i 108 with q13 | q13
  · exact hz_rng hw_c13 i (by omega) (by omega)
  rcases Nat.lt_or_ge i 114 with q14 | q14
  · exact hz_rng hw_c14 i (by omega) (by omega)
  rcases Nat.lt_or_ge i 120 with q15 | q15
  · exact hz_rng hw_c15 i (by omega) (by omega)
  rcases Nat.lt_or_ge i 124 with q16 | q16
  · exact hz_rng hw_c16 i (by omega) (by omega)
  rcases Nat.lt_or_ge i 131 with q17 | q17
  · exact hz_rng hw_c17 i (by omega) (by omega)
  rcases Nat.lt_or_ge i 132 with q18 | q18
  · exact hz_rng hw_c18 i (by omega) (by omega)
  rcases Nat.lt_or_ge i 139 with q19 | q19
  · exact hz_rng hw_c19 i (by omega) (by omega)
  rcases Nat.lt_or_ge i 146 with q20 | q20
  · exact hz_rng hw_c20 i (by omega) (by omega)
  rcases Nat.lt_or_ge i 154 with q21 | q21
  · exact hz_rng hw_c21 i (by omega) (by omega)
  rcases Nat.lt_or_ge i 159 with q22 | q22
  · exact hz_rng hw_c22 i (by omega) (by omega)
  rcases Nat.lt_or_ge i 160 with q23 | q23
  · exact hz_rng hw_c23 i (by omega) (by omega)
  rcases Nat.lt_or_ge i 161 with q24 | q24
  · exact hz_rng hw_c24 i (by omega) (by omega)
  rcases Nat.lt_or_ge i 162 with q25 | q25
  · exact hz_rng hw_c25 i (by omega) (by omega)
  rcases Nat.lt_or_ge i 163 with q26 | q26
  · exact hz_rng hw_c26 i (by omega) (by omega)
  rcases Nat.lt_or_ge i 164 with q27 | q27
  · exact hz_rng hw_c27 i (by omega) (by omega)
  rcases Nat.lt_or_ge i 165 with q28 | q28
  · exact hz_rng hw_c28 i (by omega) (by omega)
  rcases Nat.lt_or_ge i 166 with q29 | q29
  · exact hz_rng hw_c29 i (by omega) (by omega)
  rcases Nat.lt_or_ge i 171 with q30 | q30
  · exact hz_rng hw_c30 i (by omega) (by omega)
  rcases Nat.lt_or_ge i 172 with q31 | q31
  · exact hz_rng hw_c31 i (by omega) (by omega)
  rcases Nat.lt_or_ge i 173 with q32 | q32
  · exact hz_rng hw_c32 i (by omega) (by omega)
  rcases Nat.lt_or_ge i 176 with q33 | q33
  · exact hz_rng hw_c33 i (by omega) (by omega)
  rcases Nat.lt_or_ge i 179 with q34 | q34
  · exact hz_rng hw_c34 i (by omega) (by omega)
  rcases Nat.lt_or_ge i 180 with q35 | q35
  · exact hz_rng hw_c35 i (by omega) (by omega)
  rcases Nat.lt_or_ge i 182 with q36 | q36
  · exact hz_rng hw_c36 i (by omega) (by omega)
  rcases Nat.lt_or_ge i 187 with q37 | q37
  · exact hz_rng hw_c37 i (by omega) (by omega)
  rcases Nat.lt_or_ge i 188 with q38 | q38
  · exact hz_rng hw_c38 i (by omega) (by omega)
  rcases Nat.lt_or_ge i 190 with q39 | q39
  · exact hz_rng hw_c39 i (by omega) (by omega)
  rcases Nat.lt_or_ge i 191 with q40 | q40
  · exact hz_rng hw_c40 i (by omega) (by omega)
  rcases Nat.lt_or_ge i 192 with q41 | q41
  · exact hz_rng hw_c41 i (by omega) (by omega)
  rcases Nat.lt_or_ge i 193 with q42 | q42
  · exact hz_rng hw_c42 i (by omega) (by omega)
  rcases Nat.lt_or_ge i 194 with q43 | q43
  · exact hz_rng hw_c43 i (by omega) (by omega)
  rcases Nat.lt_or_ge i 195 with q44 | q44
  · exact hz_rng hw_c44 i (by omega) (by omega)
  rcases Nat.lt_or_ge i 203 with q45 | q45
  · exact hz_rng hw_c45 i (by omega) (by omega)
  rcases Nat.lt_or_ge i 210 with q46 | q46
  · exact hz_rng hw_c46 i (by omega) (by omega)
  rcases Nat.lt_or_ge i 216 with q47 | q47
  · exact hz_rng hw_c47 i (by omega) (by omega)
  rcases Nat.lt_or_ge i 223 with q48 | q48
  · exact hz_rng hw_c48 i (by omega) (by omega)
  rcases Nat.lt_or_ge i 226 with q49 | q49
  · exact hz_rng hw_c49 i (by omega) (by omega)
  rcases Nat.lt_or_ge i 230 with q50 | q50
  · exact hz_rng hw_c50 i (by omega) (by omega)
  rcases Nat.lt_or_ge i 231 with q51 | q51
  · exact hz_rng hw_c51 i (by omega) (by omega)
  rcases Nat.lt_or_ge i 232 with q52 | q52
  · exact hz_rng hw_c52 i (by omega) (by omega)
  rcases Nat.lt_or_ge i 233 with q53 | q53
  · exact hz_rng hw_c53 i (by omega) (by omega)
  rcases Nat.lt_or_ge i 234 with q54 | q54
  · exact hz_rng hw_c54 i (by omega) (by omega)
  rcases Nat.lt_or_ge i 236 with q55 | q55
  · exact hz_rng hw_c55 i (by omega) (by omega)
  rcases Nat.lt_or_ge i 242 with q56 | q56
  · exact hz_rng hw_c56 i (by omega) (by omega)
  rcases Nat.lt_or_ge i 245 with q57 | q57
  · exact hz_rng hw_c57 i (by omega) (by omega)
  omega
/-- all that is told of the methods, out of what is told by hand -/
theorem hw_val {ext : Nat → List Value → hzMem → Option (Option (Option Value × hzMem))} (hn : ∀ (x : Nat) (As : List Value) (M : hzMem) (q : hzN), hzM[x]? = some q → q.2.2.2.2.2.2.2.2.1 ≠ 0 → ext x As M = none)
    (hm : ∀ Y ∈ hw_Y.take 8, ha_val ext hw_W Y) : ∀ Y ∈ hw_Y, ha_val ext hw_W Y := by
  have key : ∀ (n i : Nat) (Y : ha_Y), i < n → hw_Y[i]? = some Y → ha_val ext hw_W Y := by
    intro n
    induction n with
    | zero => intro i Y h; exact absurd h (Nat.not_lt_zero _)
    | succ n ih =>
      intro i Y hi hY
      have hlt : i < 245 := by rw [← hw_len]; exact (List.getElem?_eq_some_iff.mp hY).1
      by_cases h0 : 8 ≤ i
      · have hc := hw_chk i h0 hlt
        rw [hY] at hc
        refine ha_chk_ok (fun Y' hY' => ?_) hn hc
        obtain ⟨j, hj⟩ := List.getElem?_of_mem hY'
        have hji : j < i := by
          have := (List.getElem?_eq_some_iff.mp hj).1
          rw [List.length_take] at this
          omega
        exact ih j Y' (by omega) (by rw [List.getElem?_take_of_lt hji] at hj; exact hj)
      · refine hm Y (List.mem_of_getElem? (i := i) ?_)
        rw [List.getElem?_take_of_lt (by omega)]
        exact hY
  intro Y hY
  obtain ⟨i, hi⟩ := List.getElem?_of_mem hY
  exact key (i + 1) i Y (Nat.lt_succ_self _) hi
