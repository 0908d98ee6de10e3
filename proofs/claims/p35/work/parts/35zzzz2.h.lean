/-! THE MIND: the class's copy at 10, the reference's at 49 -/
section HR
variable {S T : hp_S}
def hm_R (f : Nat → Int32) (S T : hp_S) : Prop := T 48 = f ∧ hr_now S T ∧ hr_E S 10 (T 49) ∧ hr_ok (T 49) ∧ hr_same f (T 49)
theorem hr_sat {f g h : Nat → Int32} (a : hr_same f g) (b : hr_same g h) : hr_same f h := ⟨b.1.trans a.1, b.2.1.trans a.2.1, b.2.2.trans a.2.2⟩
variable {f : Nat → Int32}
/-- an hour of both -/
theorem hm_hr (h : hm_R f S T) : hm_R f (hq_201 S 10) (hq_93 T 49 (Int32.ofInt 0)) := by
  obtain ⟨hf, hn, hE, ho, hs⟩ := h
  obtain ⟨e, o, s⟩ := hr_hour hE ho
  have t48 : hq_93 T 49 (Int32.ofInt 0) 48 = T 48 := hf_93 T _ 48 (by omega)
  refine ⟨t48.trans hf, hr_nowx hn (fun i h1 h9 => ?_) t48, e, o, hr_sat hs s⟩
  rw [hf_201] <;> omega
/-- hours of both -/
theorem hm_hrs (h : hm_R f S T) (n : Int32) : hm_R f (hq_200 S 10 n) (hq_94 T 49 n) := by
  obtain ⟨hf, hn, hE, ho, hs⟩ := h
  obtain ⟨e, o, s⟩ := hr_200 n hE ho
  have t48 : hq_94 T 49 n 48 = T 48 := hf_94 T _ 48 (by omega)
  refine ⟨t48.trans hf, hr_nowx hn (fun i h1 h9 => ?_) t48, e, o, hr_sat hs s⟩
  rw [hf_200] <;> omega
theorem hm_80 {f g : Nat → Int32} (ho : hr_ok f) (h : ∀ j : Nat, j < 80 → g j = f j) : hr_same f g := ⟨h 0 (by omega), h 1 (by omega), h 5 (by omega)⟩
/-- the street copied into the mind -/
theorem hm_cp (h : hr_now S T) : hm_R (T 48) (hq_180 S 10 1) (hq_73 T 48 49) := by
  obtain ⟨hE, ho, hz⟩ := id h
  have t48 : hq_73 T 48 49 48 = T 48 := hf_73 T 48 (by omega)
  have g73 : ∀ j : Nat, j < 80 → hq_73 T 48 49 49 j = T 48 j := fun j hj => hr_73 (show (48 : Nat) ≠ 49 by omega) T j hj
  have f1 : ∀ i : Nat, 1 ≤ i → i ≤ 9 → hq_180 S 10 1 i = S i := fun i h1 h9 => by rw [hf_180] <;> omega
  have e10 := hr_180 (S := S) (b := 10) (b2 := 1) (Or.inl ⟨rfl, rfl⟩) hE
  exact ⟨t48, hr_nowx h f1 t48, hr_Ecg e10 g73 ⟨rfl, rfl, rfl, rfl, rfl⟩ (fun _ _ => rfl) (fun _ _ => ⟨rfl, rfl, rfl⟩) (fun _ _ => ⟨rfl, rfl, rfl, rfl⟩), hr_okcg ho g73, hm_80 ho g73⟩
theorem hm_55 (h : hr_now S T) (n : Int32) : hm_R (T 48) (hq_55 S n) (hq_118 T n) := hm_hrs (hm_cp h) n
theorem hm_200z (S : hp_S) (b : Nat) : hq_200 S b (Int32.ofInt 0) = S := by
  unfold hq_200
  rw [hq_200_2, if_pos (by decide)]
theorem hm_550 (h : hr_now S T) : hm_R (T 48) (hq_55 S (Int32.ofInt 0)) (hq_73 T 48 49) := by
  unfold hq_55
  rw [hm_200z]
  exact hm_cp h
theorem hm_50 (S T : hp_S) (n : Int32) : hq_50 S n = hr_b (0 ≤ n.toInt ∧ n.toInt ≤ 99) ∧ hq_117 T n = hr_b (0 ≤ n.toInt ∧ n.toInt ≤ 99) := by
  have e : (Int32.ofInt 99).toInt = 99 := by decide
  unfold hq_50 hq_117
  rw [hr_44, hr_70, hr_o0, e]
  exact ⟨rfl, rfl⟩
theorem hm_45 (S T : hp_S) (n : Int32) : hq_45 S n = hr_b (0 ≤ n.toInt ∧ n.toInt ≤ 1) ∧ hq_70 T n (Int32.ofInt 0) (Int32.ofInt 1) = hr_b (0 ≤ n.toInt ∧ n.toInt ≤ 1) := by
  rw [hr_70, hr_o0, hr_o1]
  refine ⟨?_, rfl⟩
  unfold hq_45
  by_cases q0 : n = Int32.ofInt 0
  · subst q0; decide
  · by_cases q1 : n = Int32.ofInt 1
    · subst q1; decide
    · simp only [hr_eq, hr_ne]
      rw [if_neg (show ¬ n = 0 from q0), if_pos q1]
      refine (hr_bf (fun z => ?_)).symm
      rw [← hr_ti, hr_o0] at q0
      rw [← hr_ti, hr_o1] at q1
      omega
/-- a hat, a person of the street -/
theorem hm_P (h : hr_now S T) (a : Int32) : hq_181 S 1 a = hr_b (0 ≤ a.toInt ∧ a.toInt < (T 48 0).toInt) ∧ hq_76 T a = hr_b (0 ≤ a.toInt ∧ a.toInt < (T 48 0).toInt) := by
  have n0 := h.2.1.1.1
  rw [hr_181, hr_76 T a (by omega), h.1.1.1]
  exact ⟨rfl, rfl⟩
theorem hm_H (h : hr_now S T) (a : Int32) : hq_182 S 1 a = hr_b (0 ≤ a.toInt ∧ a.toInt < (T 48 1).toInt) ∧ hq_77 T a = hr_b (0 ≤ a.toInt ∧ a.toInt < (T 48 1).toInt) := by
  have n0 := h.2.1.1.2.1
  rw [hr_182, hr_77 T a (by omega), h.1.1.2.1]
  exact ⟨rfl, rfl⟩
/-- in the mind: where a person is, who wears a hat, where a hat is -/
theorem hm_mP (h : hm_R f S T) {a : Int32} (p : 0 ≤ a.toInt ∧ a.toInt < (f 0).toInt) (U : hp_S) : S (10 + 2) a.toNatClampNeg = T 49 (hq_74 U a (Int32.ofInt 0)).toNatClampNeg := by
  obtain ⟨_, hn, hE, ho, hs⟩ := h
  have n0 := ho.1.1
  have e0 := hs.1
  rw [← e0] at p
  have hk : a.toInt = (a.toInt.toNat : Nat) := by omega
  rw [hr_P0 U hk (by omega), hr_nat hk]
  exact (hE.2.2.1 _ (by omega) (by omega)).1
theorem hm_mW (h : hm_R f S T) {a : Int32} (p : 0 ≤ a.toInt ∧ a.toInt < (f 1).toInt) (U : hp_S) : S (10 + 7) a.toNatClampNeg = T 49 (hq_75 U a (Int32.ofInt 2)).toNatClampNeg := by
  obtain ⟨_, hn, hE, ho, hs⟩ := h
  have n0 := ho.1.2.1
  have e0 := hs.2.1
  rw [← e0] at p
  have hk : a.toInt = (a.toInt.toNat : Nat) := by omega
  rw [hr_H2 U hk (by omega), hr_nat hk]
  exact (hE.2.2.2 _ (by omega) (by omega)).2.2.1
theorem hm_186g {b c : Nat} (hE : hr_E S b (T c)) (ho : hr_ok (T c)) {a : Int32} {k : Nat} (hk : a.toInt = k) (k8 : k < 8) (hn : (k : Int) < (T c 1).toInt) : hq_186 S b a = hq_87 T c a := by
  obtain ⟨_, _, g3, g4⟩ := hE.2.2.2 k k8 hn
  obtain ⟨_, _, o3, _⟩ := ho.2.2.2 k k8 hn
  have e9 : (Int32.ofInt 9).toInt = 9 := by decide
  have n0 := ho.1.1
  unfold hq_186 hq_87
  rw [hr_181, hr_85 hk k8, hr_nat hk, g3, hE.1.1, hr_H3 T hk k8, hr_H2 T hk k8]
  simp only [hr_e0]
  rcases o3 with q | q
  · rw [if_pos (by rw [q, e9]; omega), if_pos (fun z => z q)]
    exact g4 q
  · rw [if_neg (fun z => z q), if_neg (fun z => z (fun w => by rw [w, e9] at q; omega))]
    have e : (T c (50 + 4 * k)).toInt = ((T c (50 + 4 * k)).toInt.toNat : Nat) := by omega
    rw [hr_P0 T e (by omega), hr_nat e]
    exact (hE.2.2.1 _ (by omega) (by omega)).1
theorem hm_m186 (h : hm_R f S T) {a : Int32} (p : 0 ≤ a.toInt ∧ a.toInt < (f 1).toInt) : hq_186 S 10 a = hq_87 T 49 a := by
  obtain ⟨_, hn, hE, ho, hs⟩ := h
  have n0 := ho.1.2.1
  have e0 := hs.2.1
  rw [← e0] at p
  exact hm_186g hE ho (show a.toInt = (a.toInt.toNat : Nat) by omega) (by omega) (by omega)
theorem hm_a11 (h : hr_now S T) (a n w : Int32) : (hq_11 S a n w).1 = (hq_119 T a n w).1 := by
  unfold hq_11 hq_119
  rw [(hm_H h a).1, (hm_H h a).2, (hm_50 S T n).1, (hm_50 S T n).2, (hm_45 S T w).1, (hm_45 S T w).2]
  have m := hm_55 h n
  generalize hq_55 S n = S1 at m ⊢
  generalize hq_118 T n = T1 at m ⊢
  simp only [hr_e0, hr_n0]
  by_cases p : 0 ≤ a.toInt ∧ a.toInt < (T 48 1).toInt
  · have hw := hm_mW m p T1
    have hh := hm_m186 m p
    repeat' split
    all_goals first | rfl | exact hw | exact hh
  · rw [if_pos p, if_pos p]
theorem hm_a12 (h : hr_now S T) (a n : Int32) : (hq_12 S a n).1 = (hq_120 T a n).1 := by
  unfold hq_12 hq_120
  rw [(hm_P h a).1, (hm_P h a).2, (hm_50 S T n).1, (hm_50 S T n).2]
  have m := hm_55 h n
  generalize hq_55 S n = S1 at m ⊢
  generalize hq_118 T n = T1 at m ⊢
  simp only [hr_e0, hr_n0]
  by_cases p : 0 ≤ a.toInt ∧ a.toInt < (T 48 0).toInt
  · have hw := hm_mP m p T1
    repeat' split
    all_goals first | rfl | exact hw
  · rw [if_pos p, if_pos p]
end HR

/-! queries on the mind: then, taken, caught, back, lost, allWear -/
section HR
variable {S T : hp_S} {f : Nat → Int32} {b c : Nat}
theorem hm_99 (hE : hr_E S b (T c)) (ho : hr_ok (T c)) {a : Int32} {k : Nat} (hk : a.toInt = k) (k8 : k < 8) (hn : (k : Int) < (T c 1).toInt) (U : hp_S) : hq_169 U (S (b + 5) a.toNatClampNeg) (S (b + 6) a.toNatClampNeg) = hq_99 T c a := by
  obtain ⟨g1, g2, _, _⟩ := hE.2.2.2 k k8 hn
  obtain ⟨_, o2, _, _⟩ := ho.2.2.2 k k8 hn
  unfold hq_99
  rw [hr_nat hk, g1, g2, hr_H0 T hk k8, hr_H1 T hk k8]
  exact hr_169 U T _ _ o2.1 o2.2
theorem hm_191l (hE : hr_E S b (T c)) (ho : hr_ok (T c)) : ∀ (m : Nat) (v i : Int32) (k : Nat), i.toInt = k → k ≤ 8 → hq_191_4 b m S v i = hq_121_4 c m T v i := by
  intro m
  induction m with
  | zero => intros; rfl
  | succ m ih =>
    intro v i k hi hk
    have h8 := ho.1.2.1
    rw [hq_191_4, hq_121_4, hr_n1', hE.1.2.1]
    by_cases h : hz_cmp .ge i (T c 1) = true
    · rw [if_pos h, if_pos h]
    · rw [if_neg h, if_neg h]
      rw [hr_ge] at h
      have hk' : k < 8 := by omega
      have hup := hr_up hi (by omega)
      rw [hr_185e hE hi hk' (by omega), hm_99 hE ho hi hk' (by omega)]
      split
      · exact ih _ _ (k + 1) hup hk'
      · exact ih _ _ (k + 1) hup hk'
theorem hm_191 (hE : hr_E S b (T c)) (ho : hr_ok (T c)) : hq_191 S b = hq_121 T c := by
  unfold hq_191 hq_121
  rw [hr_n1', hE.1.2.1]
  exact hm_191l hE ho _ _ _ 0 (by decide) (by omega)
theorem hm_a13 (h : hr_now S T) (n w : Int32) : (hq_13 S n w).1 = (hq_122 T n w).1 := by
  unfold hq_13 hq_122
  rw [(hm_50 S T n).1, (hm_50 S T n).2, hr_44, hr_70]
  have m := hm_55 h n
  generalize hq_55 S n = S1 at m ⊢
  generalize hq_118 T n = T1 at m ⊢
  obtain ⟨_, _, hE, ho, _⟩ := m
  have k1 := hr_189 hE ho
  have k2 := hr_190 hE ho
  have k3 := hm_191 hE ho
  have k4 := hr_98 ho
  have k5 := (hr_bits S1 T1 (hq_98 T1 49) (by omega) (by omega)).1
  rw [k1, k2, k3, k5]
  repeat' split
  all_goals rfl
/-- hours until a hat changes its wearer -/
theorem hm_56l {a v n : Int32} (p : 0 ≤ a.toInt ∧ a.toInt < (f 1).toInt) : ∀ (m : Nat) (S T : hp_S) (i : Int32), hm_R f S T → (hq_56_13 a n m S v i).1 = (hq_123_3 a v n m T i).1 := by
  intro m
  induction m with
  | zero => intros; rfl
  | succ m ih =>
    intro S T i h
    have h' := hm_hr h
    rw [hq_56_13, hq_123_3, hm_mW h' p (hq_93 T 49 (Int32.ofInt 0))]
    split
    · rfl
    · split
      · exact ih _ _ _ h'
      · rfl
theorem hm_56 (h : hm_R f S T) {a : Int32} (p : 0 ≤ a.toInt ∧ a.toInt < (f 1).toInt) (n : Int32) {v : Int32} (hv : S (10 + 7) a.toNatClampNeg = v) : (hq_56 S a n).1 = (hq_123 T a v n).1 := by
  unfold hq_56 hq_123
  rw [hv]
  exact hm_56l p _ _ _ _ h
theorem hm_c48 (T : hp_S) (j : Nat) : hq_73 T 48 49 48 j = T 48 j := by rw [hf_73 T 48 (by omega)]
theorem hm_c49 (T : hp_S) {j : Nat} (hj : j < 80) : hq_73 T 48 49 49 j = T 48 j := hr_73 (show (48 : Nat) ≠ 49 by omega) T j hj
theorem hm_W80 (U : hp_S) {a : Int32} (p : 0 ≤ a.toInt ∧ a.toInt < 8) : (hq_75 U a (Int32.ofInt 2)).toNatClampNeg < 80 := by
  rw [hr_H2 U (show a.toInt = (a.toInt.toNat : Nat) by omega) (by omega)]
  omega
theorem hm_a14 (h : hr_now S T) (a : Int32) : (hq_14 S a).1 = (hq_124 T a).1 := by
  unfold hq_14 hq_124
  rw [(hm_H h a).1, (hm_H h a).2]
  simp only [hr_n0]
  by_cases p : 0 ≤ a.toInt ∧ a.toInt < (T 48 1).toInt
  · have n1 := h.2.1.1.2.1
    rw [if_pos p, if_pos p, hr_183e h.1 (show a.toInt = (a.toInt.toNat : Nat) by omega) (by omega) (by omega)]
    have m := hm_550 h
    have hv := hm_mW m p (hq_73 T 48 49)
    rw [hm_c49 T (hm_W80 _ (by omega))] at hv
    rw [hm_c48]
    generalize hq_73 T 48 49 = T1 at m hv ⊢
    generalize hq_55 S (Int32.ofInt 0) = S1 at m hv ⊢
    have e := hm_56 m p (Int32.ofInt 99) hv
    generalize hq_56 S1 a (Int32.ofInt 99) = R1 at e ⊢
    generalize hq_123 T1 a _ (Int32.ofInt 99) = R2 at e ⊢
    split
    · exact e
    · rfl
  · rw [if_neg p, if_neg p]
/-- hours until somebody wears a hat -/
theorem hm_15l {a : Int32} : ∀ (m : Nat) (S T : hp_S) (i : Int32), hm_R f S T → (hq_15_20 a m S i).1 = (hq_125_13 a m T i).1 := by
  intro m
  induction m with
  | zero => intros; rfl
  | succ m ih =>
    intro S T i h
    have h' := hm_hr h
    rw [hq_15_20, hq_125_13, hr_188 h.2.2.1 h.2.2.2.1]
    simp only [hr_n0, hr_eq]
    split
    · rfl
    · split
      · exact ih _ _ _ h'
      · rfl
theorem hm_a15 (h : hr_now S T) (a : Int32) : (hq_15 S a).1 = (hq_126 T a).1 := by
  unfold hq_15 hq_126 hq_125
  rw [(hm_P h a).1, (hm_P h a).2]
  simp only [hr_e0, hr_n0]
  by_cases p : 0 ≤ a.toInt ∧ a.toInt < (T 48 0).toInt
  · rw [if_pos p, if_neg (show ¬ ¬ (0 ≤ a.toInt ∧ a.toInt < (T 48 0).toInt) from fun q => q p)]
    have m := hm_550 h
    generalize hq_73 T 48 49 = T1 at m ⊢
    generalize hq_55 S (Int32.ofInt 0) = S1 at m ⊢
    exact hm_15l _ _ _ _ m
  · rw [if_neg p, if_pos p]
theorem hm_16l {a d : Int32} (p : 0 ≤ d.toInt ∧ d.toInt < (f 1).toInt) : ∀ (m : Nat) (S T : hp_S) (i : Int32), hm_R f S T → (hq_16_31 a d m S i).1 = (hq_127_31 a d m T i).1 := by
  intro m
  induction m with
  | zero => intros; rfl
  | succ m ih =>
    intro S T i h
    have h' := hm_hr h
    rw [hq_16_31, hq_127_31, hm_mW h p T]
    split
    · rfl
    · split
      · exact ih _ _ _ h'
      · rfl
theorem hm_a16 (h : hr_now S T) (a d : Int32) : (hq_16 S a d).1 = (hq_127 T a d).1 := by
  unfold hq_16 hq_127
  rw [(hm_P h a).1, (hm_P h a).2, (hm_H h d).1, (hm_H h d).2]
  simp only [hr_e0, hr_n0]
  split
  · rfl
  · split
    · rename_i p
      have m := hm_550 h
      generalize hq_73 T 48 49 = T1 at m ⊢
      generalize hq_55 S (Int32.ofInt 0) = S1 at m ⊢
      exact hm_16l p _ _ _ _ m
    · rfl
theorem hm_17l {a : Int32} (p : 0 ≤ a.toInt ∧ a.toInt < (f 1).toInt) : ∀ (m : Nat) (S T : hp_S) (i : Int32), hm_R f S T → (hq_17_20 a m S i).1 = (hq_128_23 a m T i).1 := by
  intro m
  induction m with
  | zero => intros; rfl
  | succ m ih =>
    intro S T i h
    have h' := hm_hr h
    have n1 := h.2.2.2.1.1.2.1
    have e1 := h.2.2.2.2.2.1
    rw [hq_17_20, hq_128_23, hr_185e h.2.2.1 (show a.toInt = (a.toInt.toNat : Nat) by omega) (by rw [← e1] at p; omega) (by rw [e1]; omega)]
    split
    · rfl
    · split
      · exact ih _ _ _ h'
      · rfl
theorem hm_a17 (h : hr_now S T) (a : Int32) : (hq_17 S a).1 = (hq_128 T a).1 := by
  unfold hq_17 hq_128
  rw [(hm_H h a).1, (hm_H h a).2]
  simp only [hr_n0]
  split
  · rename_i p
    have m := hm_550 h
    generalize hq_73 T 48 49 = T1 at m ⊢
    generalize hq_55 S (Int32.ofInt 0) = S1 at m ⊢
    exact hm_17l p _ _ _ _ m
  · rfl
theorem hm_18l {n : Int32} : ∀ (m : Nat) (S T : hp_S) (v i : Int32), hm_R f S T → (hq_18_18 n m S v i).2 = (hq_129_24 n m T v i).2 := by
  intro m
  induction m with
  | zero => intros; rfl
  | succ m ih =>
    intro S T v i h
    have h' := hm_hr h
    rw [hq_18_18, hq_129_24, hr_189 h'.2.2.1 h'.2.2.2.1, hr_p0]
    split
    · rfl
    · split
      · exact ih _ _ _ _ h'
      · exact ih _ _ _ _ h'
theorem hm_a18 (h : hr_now S T) (n : Int32) : (hq_18 S n).1 = (hq_129 T n).1 := by
  unfold hq_18 hq_129
  rw [(hm_50 S T n).1, (hm_50 S T n).2]
  split
  · have m := hm_550 h
    generalize hq_73 T 48 49 = T1 at m ⊢
    generalize hq_55 S (Int32.ofInt 0) = S1 at m ⊢
    exact hm_18l _ _ _ _ _ m
  · rfl
end HR

section HR
variable {S : hp_S}
theorem hm_q11 (h : hr_all S S) (a0 a1 a2 : Int32) : (hq_11 S a0 a1 a2).1 = (hq_119 (hq_11 S a0 a1 a2).2 a0 a1 a2).1 := hm_a11 (hr_nowx h.1 (fun _ _ _ => rfl) (by rw [hf_11] <;> omega)) a0 a1 a2
theorem hm_q12 (h : hr_all S S) (a0 a1 : Int32) : (hq_12 S a0 a1).1 = (hq_120 (hq_12 S a0 a1).2 a0 a1).1 := hm_a12 (hr_nowx h.1 (fun _ _ _ => rfl) (by rw [hf_12] <;> omega)) a0 a1
theorem hm_q13 (h : hr_all S S) (a0 a1 : Int32) : (hq_13 S a0 a1).1 = (hq_122 (hq_13 S a0 a1).2 a0 a1).1 := hm_a13 (hr_nowx h.1 (fun _ _ _ => rfl) (by rw [hf_13] <;> omega)) a0 a1
theorem hm_q14 (h : hr_all S S) (a0 : Int32) : (hq_14 S a0).1 = (hq_124 (hq_14 S a0).2 a0).1 := hm_a14 (hr_nowx h.1 (fun _ _ _ => rfl) (by rw [hf_14] <;> omega)) a0
theorem hm_q15 (h : hr_all S S) (a0 : Int32) : (hq_15 S a0).1 = (hq_126 (hq_15 S a0).2 a0).1 := hm_a15 (hr_nowx h.1 (fun _ _ _ => rfl) (by rw [hf_15] <;> omega)) a0
theorem hm_q16 (h : hr_all S S) (a0 a1 : Int32) : (hq_16 S a0 a1).1 = (hq_127 (hq_16 S a0 a1).2 a0 a1).1 := hm_a16 (hr_nowx h.1 (fun _ _ _ => rfl) (by rw [hf_16] <;> omega)) a0 a1
theorem hm_q17 (h : hr_all S S) (a0 : Int32) : (hq_17 S a0).1 = (hq_128 (hq_17 S a0).2 a0).1 := hm_a17 (hr_nowx h.1 (fun _ _ _ => rfl) (by rw [hf_17] <;> omega)) a0
theorem hm_q18 (h : hr_all S S) (a0 : Int32) : (hq_18 S a0).1 = (hq_129 (hq_18 S a0).2 a0).1 := hm_a18 (hr_nowx h.1 (fun _ _ _ => rfl) (by rw [hf_18] <;> omega)) a0
end HR

/-! queries: calm, fewestPins .. -/
section HR
variable {S T : hp_S} {f : Nat → Int32} {b c : Nat}
/-- as the copy begins -/
theorem hm_st {S' T' : hp_S} (h : hr_now S T) (h1 : ∀ j : Nat, 1 ≤ j → j ≤ 9 → S' j = S j) (h2 : T' 48 = T 48) : hr_now S' T' := hr_nowx h h1 h2
/-! stand -/
theorem hm_57l {a n : Int32} : ∀ (m : Nat) (S T : hp_S) (v i : Int32), hm_R f S T → (hq_57_5 a n m S v i).2 = (hq_130_6 a (Int32.ofInt (-4)) n m T v i).2 := by
  intro m
  induction m with
  | zero => intros; rfl
  | succ m ih =>
    intro S T v i h
    have h' := hm_hr h
    rw [hq_57_5, hq_130_6, hr_188 h'.2.2.1 h'.2.2.2.1, hr_p0, if_neg (show ¬ hz_cmp .ge (Int32.ofInt (-4)) 0 = true by decide)]
    simp only [hr_n0]
    split
    · rfl
    · by_cases q : hq_88 (hq_93 T 49 (Int32.ofInt 0)) 49 a = hr_9
      · rw [if_pos q, if_neg (by rw [hr_ne]; exact fun z => z q)]
        exact ih _ _ _ _ h'
      · rw [if_neg q, if_pos (by rw [hr_ne]; exact q)]
        exact ih _ _ _ _ h'
theorem hm_57 (h : hm_R f S T) (a n : Int32) : (hq_57 S a n).1 = (hq_130 T a (Int32.ofInt (-4)) n).1 := by
  unfold hq_57 hq_130
  exact hm_57l _ _ _ _ _ h
theorem hm_u0 (g : Nat → Int32) (k : Nat) (x : Int32) : upd g k x k = x := if_pos rfl
theorem hm_u1 (g : Nat → Int32) {k j : Nat} (x : Int32) (h : j ≠ k) : upd g k x j = g j := if_neg h
/-- a person put elsewhere in both minds -/
theorem hm_put (h : hm_R f S T) {a v : Int32} (p : 0 ≤ a.toInt ∧ a.toInt < (f 0).toInt) (hv : 0 ≤ v.toInt ∧ v.toInt ≤ 20) (U : hp_S) : hm_R f (hp_w S (10 + 2) a.toNatClampNeg v) (hp_wg 80 T 49 (hq_74 U a (Int32.ofInt 0)) v) := by
  obtain ⟨hf, hn, hE, ho, hs⟩ := h
  have n0 := ho.1.1
  have e0 := hs.1
  obtain ⟨k, hk⟩ : ∃ k : Nat, a.toInt = k := ⟨a.toInt.toNat, by omega⟩
  rw [← e0] at p
  have k6 : k < 6 := by omega
  obtain ⟨g1, g2, g3, g4⟩ := hE.2.2.1 k k6 (by omega)
  obtain ⟨o1, o2, o3⟩ := ho.2.2.1 k k6 (by omega)
  have hj : (hq_74 U a (Int32.ofInt 0)).toInt = ((30 + 3 * k : Nat) : Int) := by rw [hr_P U hk (by omega) hr_o0 (by omega)]; omega
  have w49 := hr_wgs T 49 (v := v) hj (by omega)
  have t48 : hp_wg 80 T 49 (hq_74 U a (Int32.ofInt 0)) v 48 = T 48 := hp_wgo _ _ _ _ _ _ (by omega)
  generalize hp_wg 80 T 49 (hq_74 U a (Int32.ofInt 0)) v = T1 at w49 t48 ⊢
  rw [hr_nat hk]
  refine ⟨t48.trans hf, hr_nowx hn (fun i h1 h9 => hp_wo _ _ _ _ _ (by omega)) t48, ?_, ?_, ?_⟩
  · rw [w49]
    refine hr_Eper hE k6 (fun i j hi hij => ?_) (fun j hj => hm_u1 _ _ (by omega)) ⟨?_, ?_, ?_, ?_⟩
    · by_cases q : i = 2
      · subst q
        exact hr_w0' _ _ _ _ _ (by omega)
      · rw [hp_wo _ _ _ _ _ (by omega)]
    · rw [hr_w0s, hm_u0]
    · rw [hp_wo _ _ _ _ _ (by omega)]; exact g2
    · rw [hp_wo _ _ _ _ _ (by omega), hm_u1 _ _ (by omega)]; exact g3
    · rw [hp_wo _ _ _ _ _ (by omega), hm_u1 _ _ (by omega)]; exact g4
  · rw [w49]
    refine hr_okper ho k6 (fun j hj => hm_u1 _ _ (by omega)) ⟨?_, ?_, ?_⟩
    · rw [hm_u0]; exact hv
    · rw [hm_u1 _ _ (by omega)]; exact o2
    · rw [hm_u1 _ _ (by omega)]; exact o3
  · rw [w49]
    exact ⟨(hm_u1 _ _ (by omega)).trans hs.1, (hm_u1 _ _ (by omega)).trans hs.2.1, (hm_u1 _ _ (by omega)).trans hs.2.2⟩
end HR

/-! stand -/
section HR
variable {S T : hp_S} {f : Nat → Int32} {b c : Nat}
theorem hm_19l {a n w : Int32} (p : 0 ≤ a.toInt ∧ a.toInt < (f 0).toInt) : ∀ (m : Nat) (S T : hp_S) (v4 v5 i : Int32) (k : Nat), i.toInt = k → k ≤ 21 → hr_now S T → T 48 = f → (hq_19_36 a n w m S v4 v5 i).2 = (hq_131_35 a n w m T v4 v5 i).2 := by
  intro m
  induction m with
  | zero => intros; rfl
  | succ m ih =>
    intro S T v4 v5 i k hi hk h h48
    have e21 : (Int32.ofInt 21).toInt = 21 := by decide
    have m0 := hm_550 h
    rw [h48] at m0
    rw [hq_19_36, hq_131_35]
    have c1 : ∀ j : Nat, 1 ≤ j → j ≤ 9 → hq_55 S (Int32.ofInt 0) j = S j := fun j x y => by rw [hf_55] <;> omega
    have c2 : hq_73 T 48 49 48 = T 48 := hf_73 T 48 (by omega)
    generalize hq_55 S (Int32.ofInt 0) = S1 at m0 c1 ⊢
    generalize hq_73 T 48 49 = T1 at m0 c2 ⊢
    by_cases q : hz_cmp .ge i (Int32.ofInt 21) = true
    · rw [if_pos q, if_pos q]
    · rw [if_neg q, if_neg q]
      rw [hr_ge, e21] at q
      have m1 := hm_put m0 p (v := i) (by omega) T1
      have c3 : ∀ j : Nat, 1 ≤ j → j ≤ 9 → hp_w S1 (10 + 2) a.toNatClampNeg i j = S j := fun j x y => by rw [hp_wo _ _ _ _ _ (by omega)]; exact c1 j x y
      have c4 : hp_wg 80 T1 49 (hq_74 T1 a (Int32.ofInt 0)) i 48 = T 48 := by rw [hp_wgo _ _ _ _ _ _ (by omega)]; exact c2
      generalize hp_w S1 (10 + 2) a.toNatClampNeg i = S2 at m1 c3 ⊢
      generalize hp_wg 80 T1 49 (hq_74 T1 a (Int32.ofInt 0)) i = T2 at m1 c4 ⊢
      have e := hm_57 m1 a n
      have c5 : ∀ j : Nat, 1 ≤ j → j ≤ 9 → (hq_57 S2 a n).2 j = S j := fun j x y => by
        rw [hf_57]
        · exact c3 j x y
        all_goals omega
      have c6 : (hq_130 T2 a (Int32.ofInt (-4)) n).2 48 = T 48 := by
        rw [hf_130]
        · exact c4
        all_goals omega
      generalize hq_57 S2 a n = X at e c5 ⊢
      generalize hq_130 T2 a (Int32.ofInt (-4)) n = Y at e c6 ⊢
      have hn := hr_nowx h c5 c6
      rw [← e]
      have hu := hr_up hi (by omega)
      by_cases r : hz_cmp .le X.1 v5 = true
      · rw [if_pos r, if_neg (by rw [hr_gt]; rw [hr_le] at r; omega)]
        exact ih _ _ _ _ _ (k + 1) hu (by omega) hn (c6.trans h48)
      · rw [if_neg r, if_pos (by rw [hr_gt]; rw [hr_le] at r; omega)]
        exact ih _ _ _ _ _ (k + 1) hu (by omega) hn (c6.trans h48)
theorem hm_a19 (h : hr_now S T) (a n w : Int32) : (hq_19 S a n w).1 = (hq_131 T a n w).1 := by
  unfold hq_19 hq_131
  rw [(hm_P h a).1, (hm_P h a).2, (hm_50 S T n).1, (hm_50 S T n).2, (hm_45 S T w).1, (hm_45 S T w).2]
  generalize ((Int32.ofInt 21).toInt - (Int32.ofInt 0).toInt).toNat + 1 = N
  by_cases p : 0 ≤ a.toInt ∧ a.toInt < (T 48 0).toInt
  · have e := hm_19l (n := n) (w := w) p N S T (Int32.ofInt 0) (Int32.ofInt (-1)) (Int32.ofInt 0) 0 (by decide) (by omega) h rfl
    generalize hq_19_36 a n w N S (Int32.ofInt 0) (Int32.ofInt (-1)) (Int32.ofInt 0) = X at e ⊢
    generalize hq_131_35 a n w N T (Int32.ofInt 0) (Int32.ofInt (-1)) (Int32.ofInt 0) = Y at e ⊢
    rw [e]
    repeat' split
    all_goals rfl
  · simp only [hr_e0]
    rw [if_pos p, if_pos p]
/-! calm: the street's winds -/
theorem hm_t24 {x : Int32} {k : Nat} (hx : x.toInt = k) (h : k < 48) : (x - x / Int32.ofInt 24 * Int32.ofInt 24).toNatClampNeg = k % 24 := by
  have : ∀ k < 48, (Int32.ofInt (k : Nat) - Int32.ofInt k / Int32.ofInt 24 * Int32.ofInt 24).toNatClampNeg = k % 24 := by decide
  have e : x = Int32.ofInt (k : Nat) := by rw [← hx, Int32.ofInt_toInt]
  rw [e]
  exact this k h
theorem hm_6t {x : Int32} {k : Nat} (hx : x.toInt = k) (h : k < 48) : (Int32.ofInt 6 + (x - x / Int32.ofInt 24 * Int32.ofInt 24)).toNatClampNeg = 6 + k % 24 := by
  have : ∀ k < 48, (Int32.ofInt 6 + (Int32.ofInt (k : Nat) - Int32.ofInt k / Int32.ofInt 24 * Int32.ofInt 24)).toNatClampNeg = 6 + k % 24 := by decide
  have e : x = Int32.ofInt (k : Nat) := by rw [← hx, Int32.ofInt_toInt]
  rw [e]
  exact this k h
end HR

/-! shut, fewestPins -/
section HR
variable {S T : hp_S} {f : Nat → Int32} {b c : Nat}
/-- a place made a shelter in both minds -/
theorem hm_lee (h : hm_R f S T) {v : Int32} : hm_R f (hp_w S 10 1 v) (hp_wg 80 T 49 (Int32.ofInt 4) v) := by
  obtain ⟨hf, hn, hE, ho, hs⟩ := h
  have w49 := hr_wgs T 49 (v := v) (show (Int32.ofInt 4).toInt = ((4 : Nat) : Int) by decide) (by omega)
  have t48 : hp_wg 80 T 49 (Int32.ofInt 4) v 48 = T 48 := hp_wgo _ _ _ _ _ _ (by omega)
  generalize hp_wg 80 T 49 (Int32.ofInt 4) v = T1 at w49 t48 ⊢
  refine ⟨t48.trans hf, hr_nowx hn (fun i h1 h9 => hp_wo _ _ _ _ _ (by omega)) t48, ?_, ?_, ?_⟩
  · rw [w49]
    obtain ⟨⟨e1, e2, e3, e4, e5⟩, ew, ep, eh⟩ := hE
    refine ⟨⟨?_, ?_, ?_, ?_, ?_⟩, fun h hh => ?_, fun p h6 hp => ?_, fun h h8 hh => ?_⟩
    · rw [hr_w0' _ _ _ _ _ (by omega), hm_u1 _ _ (by omega)]; exact e1
    · rw [hr_w0' _ _ _ _ _ (by omega), hm_u1 _ _ (by omega)]; exact e2
    · rw [hr_w0' _ _ _ _ _ (by omega), hm_u1 _ _ (by omega)]; exact e3
    · rw [hr_w0' _ _ _ _ _ (by omega), hm_u1 _ _ (by omega)]; exact e4
    · rw [hr_w0s, hm_u0]
    · rw [hp_wo _ _ _ _ _ (by omega), hm_u1 _ _ (by omega)]; exact ew h hh
    · rw [hm_u1 _ _ (by omega)] at hp
      rw [hp_wo _ _ _ _ _ (by omega), hp_wo _ _ _ _ _ (by omega), hp_wo _ _ _ _ _ (by omega), hm_u1 _ _ (by omega), hm_u1 _ _ (by omega), hm_u1 _ _ (by omega), hm_u1 _ _ (by omega)]
      exact ep p h6 hp
    · rw [hm_u1 _ _ (by omega)] at hh
      rw [hp_wo _ _ _ _ _ (by omega), hp_wo _ _ _ _ _ (by omega), hp_wo _ _ _ _ _ (by omega), hp_wo _ _ _ _ _ (by omega), hm_u1 _ _ (by omega), hm_u1 _ _ (by omega), hm_u1 _ _ (by omega), hm_u1 _ _ (by omega)]
      exact eh h h8 hh
  · rw [w49]
    obtain ⟨o1, ow, op, oh⟩ := ho
    refine ⟨?_, fun h hh => ?_, fun p h6 hp => ?_, fun h h8 hh => ?_⟩
    · rw [hm_u1 _ _ (by omega), hm_u1 _ _ (by omega), hm_u1 _ _ (by omega)]; exact o1
    · rw [hm_u1 _ _ (by omega)]; exact ow h hh
    · rw [hm_u1 _ _ (by omega)] at hp
      rw [hm_u1 _ _ (by omega), hm_u1 _ _ (by omega), hm_u1 _ _ (by omega)]
      exact op p h6 hp
    · rw [hm_u1 _ _ (by omega)] at hh
      rw [hm_u1 _ _ (by omega), hm_u1 _ _ (by omega), hm_u1 _ _ (by omega), hm_u1 _ _ (by omega), hm_u1 _ _ (by omega)]
      exact oh h h8 hh
  · rw [w49]
    exact ⟨(hm_u1 _ _ (by omega)).trans hs.1, (hm_u1 _ _ (by omega)).trans hs.2.1, (hm_u1 _ _ (by omega)).trans hs.2.2⟩
theorem hm_ct (h : hm_R f S T) (U V : hp_S) : hq_216 U (hq_190 S 10) = hq_80 V (hq_98 T 49) := by
  obtain ⟨_, _, hE, ho, _⟩ := h
  have k4 := hr_98 ho
  rw [hr_190 hE ho]
  exact (hr_bits U V (hq_98 T 49) (by omega) (by omega)).1
theorem hm_23l {n : Int32} : ∀ (m : Nat) (S T : hp_S) (v2 v3 i : Int32), hr_now S T → T 48 = f → (hq_23_31 n m S v2 v3 i).2 = (hq_136_31 n m T v3 v2 i).2 := by
  intro m
  induction m with
  | zero => intros; rfl
  | succ m ih =>
    intro S T v2 v3 i h h48
    have m0 := hm_550 h
    rw [hq_23_31, hq_136_31, hr_n4']
    have c1 : ∀ j : Nat, 1 ≤ j → j ≤ 9 → hq_55 S (Int32.ofInt 0) j = S j := fun j x y => by rw [hf_55] <;> omega
    have c2 : hq_73 T 48 49 48 = T 48 := hf_73 T 48 (by omega)
    generalize hq_55 S (Int32.ofInt 0) = S1 at m0 c1 ⊢
    generalize hq_73 T 48 49 = T1 at m0 c2 ⊢
    by_cases q : hz_cmp .ge i (Int32.ofInt 21) = true
    · rw [if_pos q, if_pos q]
    · rw [if_neg q, if_neg q]
      rw [show S1 10 1 = T1 49 4 from m0.2.2.1.1.2.2.2.2]
      generalize (T1 49 4 ||| Int32.ofInt 1 <<< (i &&& 31)) = z
      have m1 := hm_hrs (hm_lee m0 (v := z)) n
      have c3 : ∀ j : Nat, 1 ≤ j → j ≤ 9 → hq_200 (hp_w S1 10 1 z) 10 n j = S j := fun j x y => by
        rw [hf_200, hp_wo]
        · exact c1 j x y
        all_goals omega
      have c4 : hq_94 (hp_wg 80 T1 49 (Int32.ofInt 4) z) 49 n 48 = T 48 := by
        rw [hf_94, hp_wgo]
        · exact c2
        all_goals omega
      generalize hq_200 (hp_w S1 10 1 z) 10 n = S2 at m1 c3 ⊢
      generalize hq_94 (hp_wg 80 T1 49 (Int32.ofInt 4) z) 49 n = T2 at m1 c4 ⊢
      have hn := hr_nowx h c3 c4
      rw [hm_ct m1 S2 T2]
      generalize hq_80 T2 (hq_98 T2 49) = y
      by_cases r : hz_cmp .ge y v3 = true
      · rw [if_pos r, if_neg (by rw [hr_lt]; rw [hr_ge] at r; omega)]
        exact ih _ _ _ _ _ hn (c4.trans h48)
      · rw [if_neg r, if_pos (by rw [hr_lt]; rw [hr_ge] at r; omega)]
        exact ih _ _ _ _ _ hn (c4.trans h48)
theorem hm_a23 (h : hr_now S T) (n : Int32) : (hq_23 S n).1 = (hq_136 T n).1 := by
  unfold hq_23 hq_136
  rw [(hm_50 S T n).1, (hm_50 S T n).2]
  have m := hm_55 h n
  have c1 : ∀ j : Nat, 1 ≤ j → j ≤ 9 → hq_55 S n j = S j := fun j x y => by rw [hf_55] <;> omega
  have c2 : hq_118 T n 48 = T 48 := by rw [hf_118]; omega
  generalize hq_55 S n = S1 at m c1 ⊢
  generalize hq_118 T n = T1 at m c2 ⊢
  rw [hm_ct m S1 T1]
  generalize ((Int32.ofInt 21).toInt - (Int32.ofInt 0).toInt).toNat + 1 = N
  have e := hm_23l (n := n) N S1 T1 (Int32.ofInt (-4)) (hq_80 T1 (hq_98 T1 49)) (Int32.ofInt 0) (hr_nowx h c1 c2) rfl
  generalize hq_80 T1 (hq_98 T1 49) = y at e ⊢
  generalize hq_23_31 n N S1 (Int32.ofInt (-4)) y (Int32.ofInt 0) = X at e ⊢
  generalize hq_136_31 n N T1 y (Int32.ofInt (-4)) (Int32.ofInt 0) = Y at e ⊢
  rw [e]
  repeat' split
  all_goals rfl
end HR

/-! fewestPins, calm, swaps, bestSale -/
section HR
variable {S T : hp_S} {f : Nat → Int32} {b c : Nat}
/-- a person's pins in both minds -/
theorem hm_pin (h : hm_R f S T) {a v : Int32} (p : 0 ≤ a.toInt ∧ a.toInt < (f 0).toInt) (hv : 0 ≤ v.toInt ∧ v.toInt ≤ 9) (U : hp_S) : hm_R f (hp_w S (10 + 4) a.toNatClampNeg v) (hp_wg 80 T 49 (hq_74 U a (Int32.ofInt 2)) v) := by
  obtain ⟨hf, hn, hE, ho, hs⟩ := h
  have n0 := ho.1.1
  have e0 := hs.1
  have e2 : (Int32.ofInt 2).toInt = 2 := by decide
  obtain ⟨k, hk⟩ : ∃ k : Nat, a.toInt = k := ⟨a.toInt.toNat, by omega⟩
  rw [← e0] at p
  have k6 : k < 6 := by omega
  obtain ⟨g1, g2, g3, g4⟩ := hE.2.2.1 k k6 (by omega)
  obtain ⟨o1, o2, o3⟩ := ho.2.2.1 k k6 (by omega)
  have hj : (hq_74 U a (Int32.ofInt 2)).toInt = ((32 + 3 * k : Nat) : Int) := by rw [hr_P U hk (by omega) e2 (by omega)]; omega
  have w49 := hr_wgs T 49 (v := v) hj (by omega)
  have t48 : hp_wg 80 T 49 (hq_74 U a (Int32.ofInt 2)) v 48 = T 48 := hp_wgo _ _ _ _ _ _ (by omega)
  generalize hp_wg 80 T 49 (hq_74 U a (Int32.ofInt 2)) v = T1 at w49 t48 ⊢
  rw [hr_nat hk]
  refine ⟨t48.trans hf, hr_nowx hn (fun i h1 h9 => hp_wo _ _ _ _ _ (by omega)) t48, ?_, ?_, ?_⟩
  · rw [w49]
    refine hr_Eper hE k6 (fun i j hi hij => ?_) (fun j hj => hm_u1 _ _ (by omega)) ⟨?_, ?_, ?_, ?_⟩
    · by_cases q : i = 4
      · subst q
        exact hr_w0' _ _ _ _ _ (by omega)
      · rw [hp_wo _ _ _ _ _ (by omega)]
    · rw [hp_wo _ _ _ _ _ (by omega), hm_u1 _ _ (by omega)]; exact g1
    · rw [hp_wo _ _ _ _ _ (by omega)]; exact g2
    · rw [hp_wo _ _ _ _ _ (by omega), hm_u1 _ _ (by omega)]; exact g3
    · rw [hr_w0s, hm_u0]
  · rw [w49]
    refine hr_okper ho k6 (fun j hj => hm_u1 _ _ (by omega)) ⟨?_, ?_, ?_⟩
    · rw [hm_u1 _ _ (by omega)]; exact o1
    · rw [hm_u1 _ _ (by omega)]; exact o2
    · rw [hm_u0]; exact hv
  · rw [w49]
    exact ⟨(hm_u1 _ _ (by omega)).trans hs.1, (hm_u1 _ _ (by omega)).trans hs.2.1, (hm_u1 _ _ (by omega)).trans hs.2.2⟩
/-- an answer of hours: none, or one or more -/
theorem hm_123b {a v n : Int32} (hn : n.toInt ≤ 99) : ∀ (m : Nat) (T : hp_S) (i : Int32) (k : Nat), i.toInt = k → (hq_123_3 a v n m T i).1 = Int32.ofInt (-4) ∨ 0 ≤ (hq_123_3 a v n m T i).1.toInt := by
  intro m
  induction m with
  | zero =>
    intro T i k hi
    exact Or.inr (by show (0 : Int) ≤ (0 : Int32).toInt; rw [hr_0]; omega)
  | succ m ih =>
    intro T i k hi
    rw [hq_123_3]
    split
    · exact Or.inl rfl
    · rename_i q
      rw [hr_gt] at q
      split
      · exact ih _ _ (k + 1) (hr_up hi (by omega))
      · exact Or.inr (by show 0 ≤ i.toInt; omega)
theorem hm_22l {a n v : Int32} (p : 0 ≤ a.toInt ∧ a.toInt < (f 0).toInt) (pv : 0 ≤ v.toInt ∧ v.toInt < (f 1).toInt) (hn : 1 ≤ n.toInt ∧ n.toInt ≤ 99) : ∀ (m : Nat) (S T : hp_S) (i : Int32) (k : Nat), i.toInt = k → k ≤ 10 → hr_now S T → T 48 = f → (∀ U : hp_S, f (hq_75 U v (Int32.ofInt 2)).toNatClampNeg = a) → (hq_22_49 a n m S v i).1 = (hq_135_32 a n m T v i).1 := by
  intro m
  induction m with
  | zero => intros; rfl
  | succ m ih =>
    intro S T i k hi hk h h48 hw
    have e9 : (Int32.ofInt 9).toInt = 9 := by decide
    have e10 : (Int32.ofInt 10).toInt = 10 := by decide
    have em4 : (Int32.ofInt (-4)).toInt = -4 := by decide
    have n1 : (f 1).toInt ≤ 8 := by rw [← h48]; exact h.2.1.1.2.1.2
    have m0 := hm_550 h
    rw [h48] at m0
    rw [hq_22_49, hq_135_32]
    have c1 : ∀ j : Nat, 1 ≤ j → j ≤ 9 → hq_55 S (Int32.ofInt 0) j = S j := fun j x y => by rw [hf_55] <;> omega
    have c2 : hq_73 T 48 49 48 = T 48 := hf_73 T 48 (by omega)
    have c7 : hq_73 T 48 49 49 (hq_75 T v (Int32.ofInt 2)).toNatClampNeg = a := by rw [hm_c49 T (hm_W80 T (by omega)), h48]; exact hw T
    generalize hq_55 S (Int32.ofInt 0) = S1 at m0 c1 ⊢
    generalize hq_73 T 48 49 = T1 at m0 c2 c7 ⊢
    by_cases q : hz_cmp .gt i (Int32.ofInt 9) = true
    · rw [if_pos q, if_pos (by rw [hr_ge, e10]; rw [hr_gt, e9] at q; omega)]
    · rw [if_neg q, if_neg (show ¬ hz_cmp .ge i (Int32.ofInt 10) = true by rw [hr_ge, e10]; rw [hr_gt, e9] at q; omega), if_neg (show ¬ hz_cmp .eq v (Int32.ofInt 9) = true by rw [hr_eq]; intro z; rw [z, e9] at pv; omega)]
      rw [hr_gt, e9] at q
      have m1 := hm_pin m0 p (v := i) (by omega) T1
      have hv := hm_mW m1 pv T
      have c8 : hp_wg 80 T1 49 (hq_74 T1 a (Int32.ofInt 2)) i 49 (hq_75 T v (Int32.ofInt 2)).toNatClampNeg = a := by
        have e2 : (Int32.ofInt 2).toInt = 2 := by decide
        have p6 : (f 0).toInt ≤ 6 := by rw [← h48]; exact h.2.1.1.1.2
        have hj : (hq_74 T1 a (Int32.ofInt 2)).toInt = ((32 + 3 * a.toInt.toNat : Nat) : Int) := by rw [hr_P T1 (show a.toInt = (a.toInt.toNat : Nat) by omega) (by omega) e2 (by omega)]; omega
        rw [hr_wgs T1 49 hj (by omega), hm_u1 _ _ (by rw [hr_H2 T (show v.toInt = (v.toInt.toNat : Nat) by omega) (by omega)]; omega)]
        exact c7
      rw [c8] at hv
      have c3 : ∀ j : Nat, 1 ≤ j → j ≤ 9 → hp_w S1 (10 + 4) a.toNatClampNeg i j = S j := fun j x y => by rw [hp_wo _ _ _ _ _ (by omega)]; exact c1 j x y
      have c4 : hp_wg 80 T1 49 (hq_74 T1 a (Int32.ofInt 2)) i 48 = T 48 := by rw [hp_wgo _ _ _ _ _ _ (by omega)]; exact c2
      generalize hp_w S1 (10 + 4) a.toNatClampNeg i = S2 at m1 c3 hv ⊢
      generalize hp_wg 80 T1 49 (hq_74 T1 a (Int32.ofInt 2)) i = T2 at m1 c4 ⊢
      have e := hm_56 m1 pv n hv
      have b4 : (hq_123 T2 v a n).1 = Int32.ofInt (-4) ∨ 0 ≤ (hq_123 T2 v a n).1.toInt := by
        unfold hq_123
        exact hm_123b hn.2 _ _ _ 1 (by decide)
      have c5 : ∀ j : Nat, 1 ≤ j → j ≤ 9 → (hq_56 S2 v n).2 j = S j := fun j x y => by
        rw [hf_56]
        · exact c3 j x y
        all_goals omega
      have c6 : (hq_123 T2 v a n).2 48 = T 48 := by
        rw [hf_123]
        · exact c4
        all_goals omega
      generalize hq_56 S2 v n = X at e c5 ⊢
      generalize hq_123 T2 v a n = Y at e b4 c6 ⊢
      have hnow := hr_nowx h c5 c6
      rw [e]
      rcases b4 with r | r
      · rw [if_neg (by rw [hr_ne, r]; exact fun z => z rfl), if_neg (by rw [hr_ge, r, em4, hr_0]; omega)]
      · rw [if_pos (by rw [hr_ne]; intro z; rw [z, em4] at r; omega), if_pos (by rw [hr_ge, hr_0]; exact r)]
        exact ih _ _ _ (k + 1) (hr_up hi (by omega)) (by omega) hnow (c6.trans h48) hw
theorem hm_88l {p : Int32} : ∀ (m : Nat) (i : Int32) (k : Nat), i.toInt = k → (T c 1).toInt ≤ 8 → (((T c 1).toInt - k).toNat < m) → hq_88_2 c p m T i = hr_9 ∨ ((0 ≤ (hq_88_2 c p m T i).toInt ∧ (hq_88_2 c p m T i).toInt < (T c 1).toInt) ∧ ∀ U : hp_S, T c (hq_75 U (hq_88_2 c p m T i) (Int32.ofInt 2)).toNatClampNeg = p) := by
  intro m
  induction m with
  | zero => intro i k hi h8 hm; omega
  | succ m ih =>
    intro i k hi h8 hm
    rw [hq_88_2, hr_n1']
    split
    · exact Or.inl rfl
    · rename_i q
      rw [hr_ge] at q
      split
      · exact ih _ (k + 1) (hr_up hi (by omega)) h8 (by omega)
      · rename_i r
        rw [hr_ne] at r
        exact Or.inr ⟨⟨by omega, by omega⟩, fun U => Classical.not_not.mp r⟩
theorem hm_88 (ho : hr_ok (T c)) (p : Int32) : hq_88 T c p = hr_9 ∨ ((0 ≤ (hq_88 T c p).toInt ∧ (hq_88 T c p).toInt < (T c 1).toInt) ∧ ∀ U : hp_S, T c (hq_75 U (hq_88 T c p) (Int32.ofInt 2)).toNatClampNeg = p) := by
  have h1 := ho.1.2.1
  unfold hq_88
  rw [hr_n1']
  exact hm_88l _ _ 0 (by decide) h1.2 (by rw [hr_o0]; omega)
theorem hm_a22 (h : hr_now S T) (a n : Int32) : (hq_22 S a n).1 = (hq_135 T a n).1 := by
  have e9 : (Int32.ofInt 9).toInt = 9 := by decide
  have e99 : (Int32.ofInt 99).toInt = 99 := by decide
  unfold hq_22 hq_135
  rw [(hm_P h a).1, (hm_P h a).2, hr_44, hr_70, hr_187 h.1 h.2.1, (hm_H h _).1, hr_o1, e99]
  simp only [hr_e0, hr_n0]
  by_cases p : 0 ≤ a.toInt ∧ a.toInt < (T 48 0).toInt
  · have pn : ¬ ¬ (0 ≤ a.toInt ∧ a.toInt < (T 48 0).toInt) := fun q => q p
    rw [if_neg pn, if_neg pn]
    by_cases q : 1 ≤ n.toInt ∧ n.toInt ≤ 99
    · rw [if_pos q, if_pos q]
      have h1 := h.2.1.1.2.1
      rcases hm_88 h.2.1 a with r | ⟨r, w⟩
      · rw [r, if_neg (by rw [e9]; omega)]
        show _ = (hq_135_32 a n 11 T hr_9 (Int32.ofInt 0)).1
        rw [hq_135_32, if_neg (by decide), if_pos (by decide)]
      · rw [if_pos r]
        have e := hm_22l p r q 11 S T (Int32.ofInt 0) 0 (by decide) (by omega) h rfl w
        exact e
    · rw [if_neg q, if_neg q]
  · rw [if_pos p, if_pos p]
end HR

/-! calm, swaps, bestSale -/
section HR
variable {S T : hp_S} {f : Nat → Int32} {b c : Nat}
theorem hm_6x {x : Int32} {k : Nat} (hx : x.toInt = k) (h : k < 24) : (Int32.ofInt 6 + x).toNatClampNeg = 6 + k := by
  have e6 : (Int32.ofInt 6).toInt = 6 := by decide
  exact hr_nat (by rw [hp_add (by rw [e6]; omega) (by rw [e6]; omega), e6]; omega)
theorem hm_59 (h : hr_now S T) {x : Int32} {k : Nat} (hx : x.toInt = k) (hk : k < 24) : hq_59 S x = hq_133 T x := by
  have e1 : (x + Int32.ofInt 1).toInt = ((k + 1 : Nat) : Int) := hr_up hx (by omega)
  have e2' : (Int32.ofInt 2).toInt = 2 := by decide
  have e2 : (x + Int32.ofInt 2).toInt = ((k + 2 : Nat) : Int) := by rw [hp_add (by omega) (by omega), e2']; omega
  unfold hq_59 hq_133
  rw [hm_t24 hx (by omega), hm_t24 e1 (by omega), hm_t24 e2 (by omega), hm_6x hx hk, hm_6t e1 (by omega), hm_6t e2 (by omega)]
  have w := h.1.2.1
  have a0 : S (1 + 1) (k % 24) = T 48 (6 + k % 24) := w _ (by omega)
  have a1 : S (1 + 1) ((k + 1) % 24) = T 48 (6 + (k + 1) % 24) := w _ (by omega)
  have a2 : S (1 + 1) ((k + 2) % 24) = T 48 (6 + (k + 2) % 24) := w _ (by omega)
  rw [a0, a1, a2, Nat.mod_eq_of_lt hk]
theorem hm_wd (h : hr_now S T) {x : Int32} {k : Nat} (hx : x.toInt = k) (hk : k < 24) : S (1 + 1) x.toNatClampNeg = T 48 (Int32.ofInt 6 + x).toNatClampNeg := by
  rw [hm_6x hx hk, hr_nat hx]
  exact h.1.2.1 k hk
theorem hm_60l {w : Int32} (h : hr_now S T) : ∀ (m : Nat) (v1 v2 i : Int32) (k1 k2 k : Nat), v1.toInt = k1 → k1 < 24 → v2.toInt = k2 → k2 < 24 → i.toInt = k → k ≤ 24 → hq_60_4 m S v1 i = (hq_134_18 w m T v1 v2 i).1 ∧ hq_61_4 m S v2 i = (hq_134_18 w m T v1 v2 i).2 := by
  intro m
  have e24 : (Int32.ofInt 24).toInt = 24 := by decide
  induction m with
  | zero => intros; exact ⟨rfl, rfl⟩
  | succ m ih =>
    intro v1 v2 i k1 k2 k h1 l1 h2 l2 hi hk
    rw [hq_60_4, hq_61_4, hq_134_18]
    by_cases q : hz_cmp .ge i (Int32.ofInt 24) = true
    · rw [if_pos q, if_pos q, if_pos q]
      exact ⟨rfl, rfl⟩
    · rw [if_neg q, if_neg q, if_neg q]
      rw [hr_ge, e24] at q
      have hu := hr_up hi (by omega)
      rw [hm_59 h hi (by omega), hm_59 h h1 l1, hm_wd h hi (by omega), hm_wd h h2 l2]
      by_cases r : hz_cmp .ge (hq_133 T i) (hq_133 T v1) = true
      · rw [if_pos r, if_pos r]
        by_cases s : hz_cmp .le (T 48 (Int32.ofInt 6 + i).toNatClampNeg) (T 48 (Int32.ofInt 6 + v2).toNatClampNeg) = true
        · rw [if_pos s, if_pos s]
          exact ih _ _ _ k1 k2 (k + 1) h1 l1 h2 l2 hu (by omega)
        · rw [if_neg s, if_neg s]
          exact ih _ _ _ k1 k (k + 1) h1 l1 hi (by omega) hu (by omega)
      · rw [if_neg r, if_neg r]
        by_cases s : hz_cmp .le (T 48 (Int32.ofInt 6 + i).toNatClampNeg) (T 48 (Int32.ofInt 6 + v2).toNatClampNeg) = true
        · rw [if_pos s, if_pos s]
          exact ih _ _ _ k k2 (k + 1) hi (by omega) h2 l2 hu (by omega)
        · rw [if_neg s, if_neg s]
          exact ih _ _ _ k k (k + 1) hi (by omega) hi (by omega) hu (by omega)
theorem hm_60 (h : hr_now S T) (w : Int32) : hq_60 S = (hq_134_18 w 25 T (Int32.ofInt 0) (Int32.ofInt 0) (Int32.ofInt 0)).1 ∧ hq_61 S = (hq_134_18 w 25 T (Int32.ofInt 0) (Int32.ofInt 0) (Int32.ofInt 0)).2 := by
  rw [hq_134_18, if_neg (by decide), if_pos (by rw [hr_ge]; omega), if_pos (by rw [hr_le]; omega)]
  exact hm_60l h 24 _ _ _ 0 0 1 (by decide) (by omega) (by decide) (by omega) (by decide) (by omega)
theorem hm_60b (h : hr_now S T) : ∀ (m : Nat) (v1 i : Int32) (k1 k : Nat), v1.toInt = k1 → k1 < 24 → i.toInt = k → k ≤ 24 → ∃ r : Nat, (hq_60_4 m S v1 i).toInt = r ∧ r < 24 := by
  intro m
  have e24 : (Int32.ofInt 24).toInt = 24 := by decide
  induction m with
  | zero => intros; exact ⟨0, hr_0, by omega⟩
  | succ m ih =>
    intro v1 i k1 k h1 l1 hi hk
    rw [hq_60_4]
    split
    · exact ⟨k1, h1, l1⟩
    · rename_i q
      rw [hr_ge, e24] at q
      have hu := hr_up hi (by omega)
      split
      · exact ih _ _ k1 (k + 1) h1 l1 hu (by omega)
      · exact ih _ _ k (k + 1) hi (by omega) hu (by omega)
theorem hm_q21 (hh : hr_all S S) (w : Int32) : hq_21 S w = hq_134 S w := by
  have h := hh.1
  have e2 : (Int32.ofInt 2).toInt = 2 := by decide
  obtain ⟨a, b⟩ := hm_60 h w
  unfold hq_21 hq_134
  rw [hr_70]
  simp only [hr_n0]
  have n25 : ((Int32.ofInt 24).toInt - (Int32.ofInt 0).toInt).toNat + 1 = 25 := by decide
  rw [n25, ← a, ← b]
  have c60 : ∃ r : Nat, (hq_60 S).toInt = r ∧ r < 24 := hm_60b h 24 _ _ 0 1 (by decide) (by omega) (by decide) (by omega)
  obtain ⟨r, hr, hr24⟩ := c60
  rw [hm_59 h hr hr24]
  generalize hq_60 S = x
  generalize hq_61 S = y
  by_cases q : (Int32.ofInt 0).toInt ≤ w.toInt ∧ w.toInt ≤ (Int32.ofInt 2).toInt
  · rw [if_pos q]
    have q' : w = Int32.ofInt 0 ∨ w = Int32.ofInt 1 ∨ w = Int32.ofInt 2 := by
      rw [hr_o0, e2] at q
      rw [← hr_ti, ← hr_ti, ← hr_ti, hr_o0, hr_o1, e2]
      omega
    rcases q' with rfl | rfl | rfl
    · rw [if_pos rfl, if_neg (by decide)]
    · rw [if_neg (by decide), if_pos rfl, if_pos (by decide), if_neg (by decide)]
    · rw [if_neg (by decide), if_neg (by decide), if_pos rfl, if_pos (by decide), if_pos (by decide)]
  · rw [if_neg q, if_neg, if_neg, if_neg]
    · rintro rfl; exact q ⟨by decide, by decide⟩
    · rintro rfl; exact q ⟨by decide, by decide⟩
    · rintro rfl; exact q ⟨by decide, by decide⟩
end HR

/-! swaps, bestSale -/
section HR
variable {S T : hp_S} {f : Nat → Int32} {b c : Nat}
theorem hm_26l {n : Int32} (h : hm_R f S T) : ∀ (m : Nat) (v i : Int32) (k : Nat), i.toInt = k → k ≤ 8 → hq_26_18 n m S v i = hq_139_18 n m T v i := by
  obtain ⟨hf, hn, hE, ho, hs⟩ := h
  have o1 := ho.1.2.1
  have s1 := hs.2.1
  rw [← hf] at s1
  have s2 : (T 49 1).toInt = (T 48 1).toInt := by rw [s1]
  intro m
  induction m with
  | zero => intros; rfl
  | succ m ih =>
    intro v i k hi hk
    rw [hq_26_18, hq_139_18, hr_n1', hn.1.1.2.1]
    by_cases q : hz_cmp .ge i (T 48 1) = true
    · rw [if_pos q, if_pos q]
    · rw [if_neg q, if_neg q]
      rw [hr_ge] at q
      have hk' : k < 8 := by omega
      have hu := hr_up hi (by omega)
      have w1 := (hn.1.2.2.2 k hk' (by omega)).2.2.1
      have w2 := (hE.2.2.2 k hk' (by omega)).2.2.1
      rw [hr_183e hn.1 hi hk' (by omega), hr_183e hE hi hk' (by omega), hr_H2 T hi hk', hr_nat hi, w1, w2, hr_p0]
      have g := fun v => ih v _ (k + 1) hu hk'
      split
      · exact g _
      · split
        · exact g _
        · split
          · exact g _
          · exact g _
theorem hm_a26 (h : hr_now S T) (n : Int32) : (hq_26 S n).1 = (hq_139 T n).1 := by
  unfold hq_26 hq_139
  rw [(hm_50 S T n).1, (hm_50 S T n).2, hr_n1']
  have m := hm_55 h n
  generalize hq_55 S n = S1 at m ⊢
  generalize hq_118 T n = T1 at m ⊢
  rw [m.2.1.1.1.2.1]
  have e := hm_26l (n := n) m (((T1 48 1).toInt - (Int32.ofInt 0).toInt).toNat + 1) (Int32.ofInt 0) (Int32.ofInt 0) 0 (by decide) (by omega)
  rw [e]
  split
  · rfl
  · rfl
theorem hm_83b (T : hp_S) (x g : Int32) (h0 : 0 ≤ g.toInt) (h1 : g.toInt ≤ 9) : 0 ≤ (hq_83 T x g).toInt := by
  obtain ⟨m, hm, rfl⟩ := hr_nz (n := 9) h0 h1
  have a1 : ∀ m ≤ 9, 0 ≤ (Int32.ofInt 5 + Int32.ofInt (m : Nat)).toInt := by decide
  have a2 : ∀ m ≤ 9, 0 ≤ (Int32.ofInt 14 + Int32.ofInt (m : Nat)).toInt := by decide
  unfold hq_83
  repeat' split
  all_goals first | decide | exact a1 m hm | exact a2 m hm | exact h0
theorem hm_99b (ho : hr_ok (T c)) {i : Int32} {k : Nat} (hi : i.toInt = k) (k8 : k < 8) (hn : (k : Int) < (T c 1).toInt) : 0 ≤ (hq_99 T c i).toInt := by
  obtain ⟨_, o2, _, _⟩ := ho.2.2.2 k k8 hn
  unfold hq_99
  rw [hr_H1 T hi k8]
  exact hm_83b T _ _ o2.1 o2.2
theorem hm_24l {n : Int32} (hE : hr_E S 10 (T 49)) (ho : hr_ok (T 49)) : ∀ (m : Nat) (v2 v3 i : Int32) (k : Nat), i.toInt = k → k ≤ 8 → ((v2 = Int32.ofInt (-4) ∧ v3 = Int32.ofInt (-1)) ∨ (0 ≤ v2.toInt ∧ v3 = hq_99 T 49 v2)) → hq_24_22 n m S v2 v3 i = hq_137_19 n m T v2 i := by
  have o1 := ho.1.2.1
  have em4 : (Int32.ofInt (-4)).toInt = -4 := by decide
  have em1 : (Int32.ofInt (-1)).toInt = -1 := by decide
  intro m
  induction m with
  | zero => intros; rfl
  | succ m ih =>
    intro v2 v3 i k hi hk hv
    rw [hq_24_22, hq_137_19, hr_n1', hE.1.2.1]
    by_cases q : hz_cmp .ge i (T 49 1) = true
    · rw [if_pos q, if_pos q]
    · rw [if_neg q, if_neg q]
      rw [hr_ge] at q
      have hk' : k < 8 := by omega
      have hu := hr_up hi (by omega)
      rw [hr_185e hE hi hk' (by omega), hm_99 hE ho hi hk' (by omega)]
      have b0 := hm_99b ho hi hk' (by omega)
      by_cases r : hz_cmp .ne (hq_97 T 49 i) 0 = true
      · rw [if_pos r, if_pos r]
        exact ih _ _ _ (k + 1) hu hk' hv
      · rw [if_neg r, if_neg r]
        rcases hv with ⟨rfl, rfl⟩ | ⟨p2, rfl⟩
        · rw [if_neg (by rw [hr_le, em1]; omega), if_pos (by rw [hr_lt, em4, hr_0]; omega)]
          exact ih _ _ _ (k + 1) hu hk' (Or.inr ⟨by omega, rfl⟩)
        · rw [if_neg (show ¬ hz_cmp .lt v2 0 = true by rw [hr_lt, hr_0]; omega)]
          by_cases s : hz_cmp .le (hq_99 T 49 i) (hq_99 T 49 v2) = true
          · rw [if_pos s, if_pos s]
            exact ih _ _ _ (k + 1) hu hk' (Or.inr ⟨p2, rfl⟩)
          · rw [if_neg s, if_neg s]
            exact ih _ _ _ (k + 1) hu hk' (Or.inr ⟨by omega, rfl⟩)
theorem hm_a24 (h : hr_now S T) (n : Int32) : (hq_24 S n).1 = (hq_137 T n).1 := by
  unfold hq_24 hq_137
  rw [(hm_50 S T n).1, (hm_50 S T n).2, hr_n1']
  have m := hm_55 h n
  generalize hq_55 S n = S1 at m ⊢
  generalize hq_118 T n = T1 at m ⊢
  obtain ⟨_, _, hE, ho, _⟩ := m
  rw [hE.1.2.1]
  have e := hm_24l (n := n) hE ho (((T1 49 1).toInt - (Int32.ofInt 0).toInt).toNat + 1) (Int32.ofInt (-4)) (Int32.ofInt (-1)) (Int32.ofInt 0) 0 (by decide) (by omega) (Or.inl ⟨rfl, rfl⟩)
  rw [e]
  split
  · rfl
  · rfl
end HR

section HR
variable {S : hp_S}
theorem hm_q19 (h : hr_all S S) (a0 a1 a2 : Int32) : (hq_19 S a0 a1 a2).1 = (hq_131 (hq_19 S a0 a1 a2).2 a0 a1 a2).1 := hm_a19 (hr_nowx h.1 (fun _ _ _ => rfl) (by rw [hf_19] <;> omega)) a0 a1 a2
theorem hm_q22 (h : hr_all S S) (a0 a1 : Int32) : (hq_22 S a0 a1).1 = (hq_135 (hq_22 S a0 a1).2 a0 a1).1 := hm_a22 (hr_nowx h.1 (fun _ _ _ => rfl) (by rw [hf_22] <;> omega)) a0 a1
theorem hm_q23 (h : hr_all S S) (a0 : Int32) : (hq_23 S a0).1 = (hq_136 (hq_23 S a0).2 a0).1 := hm_a23 (hr_nowx h.1 (fun _ _ _ => rfl) (by rw [hf_23] <;> omega)) a0
theorem hm_q24 (h : hr_all S S) (a0 : Int32) : (hq_24 S a0).1 = (hq_137 (hq_24 S a0).2 a0).1 := hm_a24 (hr_nowx h.1 (fun _ _ _ => rfl) (by rw [hf_24] <;> omega)) a0
theorem hm_q26 (h : hr_all S S) (a0 : Int32) : (hq_26 S a0).1 = (hq_139 (hq_26 S a0).2 a0).1 := hm_a26 (hr_nowx h.1 (fun _ _ _ => rfl) (by rw [hf_26] <;> omega)) a0
end HR

/-! wear -/
section HR
variable {S T : hp_S} {f : Nat → Int32} {b c : Nat}
theorem hm_setE {g : Nat → Int32} (hE : hr_E S b g) {k : Nat} {a : Int32} (k8 : k < 8) (ha : a ≠ hr_9) : hr_E (hp_w S (b + 7) k a) b (upd g (50 + 4 * k) a) ∨ ¬ ((k : Int) < (g 1).toInt) := by
  by_cases hn : (k : Int) < (g 1).toInt
  · left
    obtain ⟨g1, g2, g3, g4⟩ := hE.2.2.2 k k8 hn
    refine hr_Ehat (k := k) hE (fun i j hi hij => ?_) (fun j hj => hm_u1 _ _ (by omega)) ⟨?_, ?_, ?_, ?_⟩
    · by_cases q : i = 7
      · subst q
        exact hr_wb S b 7 k a 7 j (Or.inr (by omega))
      · rw [hp_wo _ _ _ _ _ (by omega)]
    · rw [hp_wo _ _ _ _ _ (by omega), hm_u1 _ _ (by omega)]; exact g1
    · rw [hp_wo _ _ _ _ _ (by omega), hm_u1 _ _ (by omega)]; exact g2
    · rw [hm_u0]; exact hr_wc S b 7 k a
    · rw [hm_u0]; intro z; exact absurd z ha
  · exact Or.inr hn
theorem hm_setO {g : Nat → Int32} (ho : hr_ok g) {k : Nat} {a : Int32} (k8 : k < 8) (hn : (k : Int) < (g 1).toInt) (ha : 0 ≤ a.toInt ∧ a.toInt < (g 0).toInt) : hr_ok (upd g (50 + 4 * k) a) := by
  have e9 : (Int32.ofInt 9).toInt = 9 := by decide
  have n0 := ho.1.1
  obtain ⟨o1, o2, o3, o4⟩ := ho.2.2.2 k k8 hn
  refine hr_okhat (k := k) ho (fun j hj => hm_u1 _ _ (by omega)) ⟨?_, ?_, ?_, ?_⟩
  · rw [hm_u1 _ _ (by omega)]; exact o1
  · rw [hm_u1 _ _ (by omega)]; exact o2
  · rw [hm_u0]; exact Or.inr ha
  · rw [hm_u0]; intro z; rw [z, e9] at ha; omega
theorem hm_dropE {g : Nat → Int32} (hE : hr_E S b g) {k : Nat} {q : Int32} (k8 : k < 8) (hn : (k : Int) < (g 1).toInt) : hr_E (hp_w (hp_w S (b + 7) k hr_9) (b + 8) k q) b (upd (upd g (51 + 4 * k) q) (50 + 4 * k) hr_9) := by
  obtain ⟨g1, g2, g3, g4⟩ := hE.2.2.2 k k8 hn
  refine hr_Ehat (k := k) hE (fun i j hi hij => ?_) (fun j hj => by rw [hm_u1 _ _ (by omega), hm_u1 _ _ (by omega)]) ⟨?_, ?_, ?_, ?_⟩
  · rw [hr_wb _ b 8 k q i j (by omega), hr_wb S b 7 k hr_9 i j (by omega)]
  · rw [hp_wo _ _ _ _ _ (by omega), hp_wo _ _ _ _ _ (by omega), hm_u1 _ _ (by omega), hm_u1 _ _ (by omega)]; exact g1
  · rw [hp_wo _ _ _ _ _ (by omega), hp_wo _ _ _ _ _ (by omega), hm_u1 _ _ (by omega), hm_u1 _ _ (by omega)]; exact g2
  · rw [hm_u0, hp_wo _ _ _ _ _ (by omega)]; exact hr_wc S b 7 k hr_9
  · intro _
    rw [hm_u1 _ _ (by omega), hm_u0]
    exact hr_wc _ b 8 k q
theorem hm_dropO {g : Nat → Int32} (ho : hr_ok g) {k : Nat} {q : Int32} (k8 : k < 8) (hn : (k : Int) < (g 1).toInt) (hq : 0 ≤ q.toInt ∧ q.toInt ≤ 21) : hr_ok (upd (upd g (51 + 4 * k) q) (50 + 4 * k) hr_9) := by
  obtain ⟨o1, o2, o3, o4⟩ := ho.2.2.2 k k8 hn
  refine hr_okhat (k := k) ho (fun j hj => by rw [hm_u1 _ _ (by omega), hm_u1 _ _ (by omega)]) ⟨?_, ?_, ?_, ?_⟩
  · rw [hm_u1 _ _ (by omega), hm_u1 _ _ (by omega)]; exact o1
  · rw [hm_u1 _ _ (by omega), hm_u1 _ _ (by omega)]; exact o2
  · rw [hm_u0]; exact Or.inl rfl
  · intro _
    rw [hm_u1 _ _ (by omega), hm_u0]
    exact hq
/-- what the reference's mind is when somebody puts a hat on -/
def hm_wT (T : hp_S) (v a : Int32) : hp_S := if hz_cmp .eq (hq_88 T 49 a) (Int32.ofInt 9) = true then hp_wg 80 T 49 (hq_75 T v (Int32.ofInt 2)) a else if hz_cmp .eq (hq_88 T 49 a) v = true then hp_wg 80 T 49 (hq_75 T v (Int32.ofInt 2)) a else hp_wg 80 (hq_89 T 49 (hq_88 T 49 a)) 49 (hq_75 (hq_89 T 49 (hq_88 T 49 a)) v (Int32.ofInt 2)) a
theorem hm_wear (h : hm_R f S T) {a v : Int32} (p : 0 ≤ a.toInt ∧ a.toInt < (f 0).toInt) (pv : 0 ≤ v.toInt ∧ v.toInt < (f 1).toInt) : hm_R f (hq_198 S 10 v a) (hm_wT T v a) := by
  obtain ⟨hf, hn, hE, ho, hs⟩ := h
  have n0 := ho.1.1
  have n1 := ho.1.2.1
  have e2 : (Int32.ofInt 2).toInt = 2 := by decide
  have e9 : (Int32.ofInt 9).toInt = 9 := by decide
  obtain ⟨s0, s1, s5⟩ := hs
  rw [← s0] at p
  rw [← s1] at pv
  obtain ⟨k, hk⟩ : ∃ k : Nat, v.toInt = k := ⟨v.toInt.toNat, by omega⟩
  have k8 : k < 8 := by omega
  have kn : (k : Int) < (T 49 1).toInt := by omega
  have a9 : a ≠ hr_9 := by intro z; rw [z, e9] at p; omega
  have hj : ∀ U : hp_S, (hq_75 U v (Int32.ofInt 2)).toInt = ((50 + 4 * k : Nat) : Int) := fun U => by rw [hr_H U hk k8 e2 (by omega)]; omega
  have E1 : hr_E (hp_w S (10 + 7) v.toNatClampNeg a) 10 (upd (T 49) (50 + 4 * k) a) := by
    rw [hr_nat hk]
    exact (hm_setE hE k8 a9).resolve_right (fun z => z kn)
  have O1 := hm_setO ho k8 kn p
  have S1 : hr_same f (upd (T 49) (50 + 4 * k) a) := ⟨(hm_u1 _ _ (by omega)).trans s0, (hm_u1 _ _ (by omega)).trans s1, (hm_u1 _ _ (by omega)).trans s5⟩
  have w49 := hr_wgs T 49 (v := a) (hj T) (by omega)
  have t48 : hp_wg 80 T 49 (hq_75 T v (Int32.ofInt 2)) a 48 = T 48 := hp_wgo _ _ _ _ _ _ (by omega)
  unfold hq_198 hm_wT
  rw [hr_187 hE ho, hr_182, hE.1.2.1]
  simp only [hr_e0]
  rcases hm_88 ho a with r | ⟨r, w⟩
  · rw [r, if_pos (show ¬ (0 ≤ hr_9.toInt ∧ hr_9.toInt < (T 49 1).toInt) by rw [e9]; omega), if_pos (show hz_cmp .eq hr_9 (Int32.ofInt 9) = true by decide)]
    exact ⟨t48.trans hf, hr_nowx hn (fun i h1 h9 => hp_wo _ _ _ _ _ (by omega)) t48, by rw [w49]; exact E1, by rw [w49]; exact O1, by rw [w49]; exact S1⟩
  · generalize hq_88 T 49 a = o at r w ⊢
    have o9 : ¬ o = Int32.ofInt 9 := by intro z; rw [z, e9] at r; omega
    rw [if_neg (show ¬ hz_cmp .eq o (Int32.ofInt 9) = true by rw [hr_eq]; exact o9), if_neg (show ¬ ¬ (0 ≤ o.toInt ∧ o.toInt < (T 49 1).toInt) from fun z => z r)]
    by_cases ov : o = v
    · subst ov
      rw [if_pos (show hz_cmp .eq o o = true by rw [hr_eq])]
      refine ⟨t48.trans hf, hr_nowx hn (fun i h1 h9 => by rw [hp_wo _ _ _ _ _ (by omega), hp_wo _ _ _ _ _ (by omega), hp_wo _ _ _ _ _ (by omega)]) t48, ?_, by rw [w49]; exact O1, by rw [w49]; exact S1⟩
      rw [w49, hr_nat hk]
      obtain ⟨g1, g2, g3, g4⟩ := hE.2.2.2 k k8 kn
      refine hr_Ehat (k := k) hE (fun i j hi hij => ?_) (fun j hj => hm_u1 _ _ (by omega)) ⟨?_, ?_, ?_, ?_⟩
      · rw [hr_wb _ 10 7 k a i j (by omega), hr_wb _ 10 8 k _ i j (by omega), hr_wb S 10 7 k _ i j (by omega)]
      · rw [hp_wo _ _ _ _ _ (by omega), hp_wo _ _ _ _ _ (by omega), hp_wo _ _ _ _ _ (by omega), hm_u1 _ _ (by omega)]; exact g1
      · rw [hp_wo _ _ _ _ _ (by omega), hp_wo _ _ _ _ _ (by omega), hp_wo _ _ _ _ _ (by omega), hm_u1 _ _ (by omega)]; exact g2
      · rw [hm_u0]; exact hr_wc _ 10 7 k a
      · rw [hm_u0]; intro z; exact absurd z a9
    · rw [if_neg (show ¬ hz_cmp .eq o v = true by rw [hr_eq]; exact ov)]
      obtain ⟨l, hl⟩ : ∃ l : Nat, o.toInt = l := ⟨o.toInt.toNat, by omega⟩
      have l8 : l < 8 := by omega
      have ln : (l : Int) < (T 49 1).toInt := by omega
      obtain ⟨pk, hpk⟩ : ∃ l : Nat, a.toInt = l := ⟨a.toInt.toNat, by omega⟩
      have w := w T
      rw [hr_H2 T hl l8] at w
      have d49 := hr_89 (T := T) (c := 49) hl l8 (p := pk) (by rw [w]; exact hpk) (by omega)
      have at0 := (hE.2.2.1 pk (by omega) (by omega)).1
      have op := ho.2.2.1 pk (by omega) (by omega)
      have E2 := hm_dropE hE (q := T 49 (30 + 3 * pk)) l8 ln
      have O2 := hm_dropO ho (q := T 49 (30 + 3 * pk)) l8 ln ⟨by omega, by omega⟩
      have c0 : hp_w S (10 + 7) o.toNatClampNeg (Int32.ofInt 9) (10 + 2) a.toNatClampNeg = T 49 (30 + 3 * pk) := by
        rw [hp_wo _ _ _ _ _ (by omega), hr_nat hpk]; exact at0
      rw [c0, hr_nat hl]
      have d48 : hq_89 T 49 o 48 = T 48 := by
        rw [hf_89]
        omega
      rw [← d49] at E2 O2
      have dd : ∀ j : Nat, j < 48 → hq_89 T 49 o 49 j = T 49 j := fun j hj => by rw [d49, hm_u1 _ _ (by omega), hm_u1 _ _ (by omega)]
      generalize hq_89 T 49 o = T1 at E2 O2 d48 dd ⊢
      generalize hT2 : hp_w (hp_w S (10 + 7) l hr_9) (10 + 8) l (T 49 (30 + 3 * pk)) = S2 at E2
      have f2 : ∀ i : Nat, 1 ≤ i → i ≤ 9 → S2 i = S i := fun i h1 h9 => by rw [← hT2, hp_wo _ _ _ _ _ (by omega), hp_wo _ _ _ _ _ (by omega)]
      have kn2 : (k : Int) < (T1 49 1).toInt := by rw [dd 1 (by omega)]; exact kn
      have W := hr_wgs T1 49 (v := a) (hj T1) (by omega)
      have W48 : hp_wg 80 T1 49 (hq_75 T1 v (Int32.ofInt 2)) a 48 = T 48 := by rw [hp_wgo _ _ _ _ _ _ (by omega)]; exact d48
      refine ⟨W48.trans hf, hr_nowx hn (fun i h1 h9 => by rw [hp_wo _ _ _ _ _ (by omega)]; exact f2 i h1 h9) W48, ?_, ?_, ?_⟩
      · rw [W, hr_nat hk]
        exact (hm_setE E2 k8 a9).resolve_right (fun z => z kn2)
      · rw [W]
        exact hm_setO O2 k8 kn2 (by rw [dd 0 (by omega)]; exact p)
      · rw [W]
        exact ⟨by rw [hm_u1 _ _ (by omega), dd 0 (by omega)]; exact s0, by rw [hm_u1 _ _ (by omega), dd 1 (by omega)]; exact s1, by rw [hm_u1 _ _ (by omega), dd 5 (by omega)]; exact s5⟩
end HR

/-! mean -/
section HR
variable {S T : hp_S}
theorem hm_67s (S S' : hp_S) (a b : Int64) : ∀ (m : Nat) (x y : Int64) (i : Int32), hq_67_9 a b m S x y i = hq_67_9 a b m S' x y i := by
  intro m
  induction m with
  | zero => intros; rfl
  | succ m ih =>
    intro x y i
    rw [hq_67_9, hq_67_9]
    split
    · rfl
    · split
      · rfl
      · exact ih _ _ _
theorem hm_145s (S S' : hp_S) (a b : Int64) : ∀ (m : Nat) (x y : Int64), hq_145_6 a b m S x y = hq_145_6 a b m S' x y := by
  intro m
  induction m with
  | zero => intros; rfl
  | succ m ih =>
    intro x y
    rw [hq_145_6, hq_145_6]
    split
    · rfl
    · exact ih _ _
theorem hm_66s (S S' : hp_S) (a b : Int64) (w : Int32) : hq_66 S a b w = hq_66 S' a b w := by
  unfold hq_66 hq_67
  rw [hm_67s S S']
theorem hm_146s (S S' : hp_S) (a b : Int64) (w : Int32) : hq_146 S a b w = hq_146 S' a b w := by
  unfold hq_146 hq_145
  rw [hm_145s S S']
abbrev hm_Z : hp_S := fun _ _ => 0
set_option maxRecDepth 100000 in
theorem hm_m0 : ∀ m < 217, hq_66 hm_Z (Int64.ofInt (m : Nat)) (Int64.ofInt 24) (Int32.ofInt 0) = hq_146 hm_Z (Int64.ofInt (m : Nat)) (Int64.ofInt 24) (Int32.ofInt 0) := by decide +kernel
set_option maxRecDepth 100000 in
theorem hm_m1 : ∀ m < 217, hq_66 hm_Z (Int64.ofInt (m : Nat)) (Int64.ofInt 24) (Int32.ofInt 1) = hq_146 hm_Z (Int64.ofInt (m : Nat)) (Int64.ofInt 24) (Int32.ofInt 1) := by decide +kernel
theorem hm_30l {w : Int32} (h : hr_now S T) : ∀ (m : Nat) (v : Int64) (i : Int32) (k n : Nat), i.toInt = k → k ≤ 24 → v = Int64.ofInt (n : Nat) → n ≤ 9 * k → hq_30_16 w m S v i = hq_148_18 w m T v i ∧ ∃ r : Nat, r < 217 ∧ hq_148_18 w m T v i = Int64.ofInt (r : Nat) := by
  have e24 : (Int32.ofInt 24).toInt = 24 := by decide
  intro m
  induction m with
  | zero => intros; exact ⟨rfl, 0, by omega, rfl⟩
  | succ m ih =>
    intro v i k n hi hk hv hn
    rw [hq_30_16, hq_148_18]
    by_cases q : hz_cmp .ge i (Int32.ofInt 24) = true
    · rw [if_pos q, if_pos q]
      exact ⟨rfl, n, by omega, hv⟩
    · rw [if_neg q, if_neg q]
      rw [hr_ge, e24] at q
      have hu := hr_up hi (by omega)
      have hw := hm_wd h hi (by omega)
      have hb := h.2.1.2.1 k (by omega)
      rw [hw, hm_6x hi (by omega)]
      obtain ⟨g, hg, hg2⟩ := hr_nz (n := 9) hb.1 hb.2
      have e : v + (T 48 (6 + k)).toInt64 = Int64.ofInt ((n + g : Nat) : Int) := by
        rw [hg2, hv]
        have : ∀ g ≤ 9, (Int32.ofInt (g : Nat)).toInt64 = Int64.ofInt (g : Nat) := by decide
        rw [this g hg, ← Int64.ofInt_add]
        rfl
      exact ih _ _ (k + 1) (n + g) hu (by omega) e (by omega)
theorem hm_q30 (hh : hr_all S S) (w : Int32) : hq_30 S w = hq_148 S w := by
  have h := hh.1
  unfold hq_30 hq_148
  rw [(hm_45 S S w).1, (hm_45 S S w).2]
  simp only [hr_n0]
  obtain ⟨e, r, hr, er⟩ := hm_30l (w := w) h (((Int32.ofInt 24).toInt - (Int32.ofInt 0).toInt).toNat + 1) (Int64.ofInt 0) (Int32.ofInt 0) 0 0 (by decide) (by omega) rfl (by omega)
  rw [e, er, hm_66s S hm_Z, hm_146s S hm_Z]
  by_cases q : 0 ≤ w.toInt ∧ w.toInt ≤ 1
  · rw [if_pos q, if_pos q]
    have q' : w = Int32.ofInt 0 ∨ w = Int32.ofInt 1 := by
      rw [← hr_ti, ← hr_ti, hr_o0, hr_o1]
      omega
    rcases q' with rfl | rfl
    · exact hm_m0 r hr
    · exact hm_m1 r hr
  · rw [if_neg q, if_neg q]
end HR

/-! judge -/
section HR
variable {S T : hp_S} {f : Nat → Int32}
theorem hm_52 (hs : hr_sh S T) (d : Int32) : hq_52 S d = hq_158 T d (Int32.ofInt (-1)) ∧ (hq_158 T d (Int32.ofInt (-1)) = Int32.ofInt 0 → (0 ≤ d.toInt ∧ d.toInt ≤ 7) ∧ T 53 d.toNatClampNeg = Int32.ofInt 2) := by
  have e7 : (Int32.ofInt 7).toInt = 7 := by decide
  unfold hq_52 hq_54 hq_158 hq_51 hq_157
  rw [hr_44, hr_70]
  by_cases p : (Int32.ofInt 0).toInt ≤ d.toInt ∧ d.toInt ≤ (Int32.ofInt 7).toInt
  · rw [hr_iN p, hr_iN p]
    rw [hr_o0, e7] at p
    have hd8 : d.toNatClampNeg < 8 := by show d.toInt.toNat < 8; omega
    obtain ⟨⟨h1, h2⟩, _, h3⟩ := hs _ hd8
    rw [h1]
    rcases h2 with h | h | h
    · rw [h]
      exact ⟨rfl, fun z => absurd (show Int32.ofInt (-11) = Int32.ofInt 0 from z) (by decide)⟩
    · rw [h]
      exact ⟨rfl, fun z => absurd (show Int32.ofInt (-12) = Int32.ofInt 0 from z) (by decide)⟩
    · rw [h]
      exact ⟨rfl, fun _ => ⟨p, rfl⟩⟩
  · rw [hr_iNn p, hr_iNn p]
    exact ⟨rfl, fun z => absurd z (by decide)⟩
theorem hm_iz : ∀ n < 8, ∀ k < 100, (Int32.ofInt 100 * Int32.ofInt (n : Nat) + Int32.ofInt (k : Nat)).toNatClampNeg = 100 * n + k := by decide +kernel
theorem hm_iy {d i : Int32} {k : Nat} (hd : 0 ≤ d.toInt ∧ d.toInt ≤ 7) (hi : i.toInt = k) (hk : k < 100) : (Int32.ofInt 100 * d + i).toNatClampNeg = 100 * d.toNatClampNeg + k := by
  obtain ⟨n, hn, rfl⟩ := hr_nz (n := 7) hd.1 hd.2
  have e : i = Int32.ofInt (k : Nat) := by rw [← hi, Int32.ofInt_toInt]
  rw [e, hm_iz n (by omega) k hk]
  have : (Int32.ofInt (n : Nat)).toNatClampNeg = n := hr_nat (hr_small n (by omega))
  rw [this]
theorem hm_shr (hs : hr_sh S T) : hr_sh (hq_201 S 10) (hq_93 T 49 (Int32.ofInt 0)) := hr_shx hs (fun j a b => by rw [hf_201] <;> omega) (fun j a b => hf_93 T _ j (by omega))
theorem hm_33l {d : Int32} (hd : 0 ≤ d.toInt ∧ d.toInt ≤ 7) : ∀ (m : Nat) (S T : hp_S) (v w i : Int32) (k : Nat), i.toInt = k → k ≤ 100 → hm_R f S T → hr_sh S T → T 53 d.toNatClampNeg = Int32.ofInt 2 → (hq_33_27 d m S v i).1 = (hq_151_26 d m T w i).1 := by
  intro m
  have hd8 : d.toNatClampNeg < 8 := by show d.toInt.toNat < 8; omega
  induction m with
  | zero => intros; rfl
  | succ m ih =>
    intro S T v w i k hi hk h hs h53
    have h' := hm_hr h
    have hs' := hm_shr hs
    have t53 : hq_93 T 49 (Int32.ofInt 0) 53 d.toNatClampNeg = Int32.ofInt 2 := by rw [hf_93 T _ 53 (by omega)]; exact h53
    obtain ⟨⟨q3, q4⟩, _, q5, q6⟩ := (hs _ hd8).2.2 h53
    rw [hq_33_27, hq_151_26, q4]
    by_cases q : hz_cmp .ge i (T 57 d.toNatClampNeg) = true
    · rw [if_pos q, if_pos q]
    · rw [if_neg q, if_neg q]
      rw [hr_ge] at q
      have hk' : k < 100 := by omega
      have hu := hr_up hi (by omega)
      have e176 : hq_176 S d.toNatClampNeg = hq_140 T (T 56 d.toNatClampNeg) := by
        unfold hq_176 hq_140
        rw [q3]
      have e177 : hq_177 S d.toNatClampNeg i = hr_b (T 58 (100 * d.toNatClampNeg + k) = hq_140 T (T 56 d.toNatClampNeg)) := by
        unfold hq_177
        rw [hr_nat hi, q6 k hk', e176]
        simp only [hr_ne]
        by_cases r : T 58 (100 * d.toNatClampNeg + k) = hq_140 T (T 56 d.toNatClampNeg)
        · rw [if_neg (fun z => z r), hr_bt r]
        · rw [if_pos r, hr_bf r]
      have b96 := hr_96 h.2.2.2.1
      rw [e177, hm_iy hd hi hk', hr_nat hi, q6 k hk', hr_189 h.2.2.1 h.2.2.2.1, (hr_bits S T (hq_96 T 49) (by omega) (by omega)).1]
      simp only [hr_n0, hr_eq]
      split
      · exact ih _ _ _ _ _ (k + 1) hu hk' h' hs' t53
      · split
        · exact ih _ _ _ _ _ (k + 1) hu hk' h' hs' t53
        · rfl
theorem hm_a33 (h : hr_now S T) (hs : hr_sh S T) (d : Int32) : (hq_33 S d).1 = (hq_151 T d).1 := by
  unfold hq_33 hq_151
  rw [(hm_52 hs d).1]
  have g := (hm_52 hs d).2
  generalize hq_158 T d (Int32.ofInt (-1)) = r at g ⊢
  by_cases q : hz_cmp .eq r 0 = true
  · rw [if_pos q, if_pos q]
    rw [hr_eq] at q
    obtain ⟨pd, p2⟩ := g q
    have hd8 : d.toNatClampNeg < 8 := by show d.toInt.toNat < 8; omega
    have m := hm_550 h
    have s' : hr_sh (hq_55 S (Int32.ofInt 0)) (hq_73 T 48 49) := hr_shx hs (fun j a b => by rw [hf_55] <;> omega) (fun j a b => hf_73 T j (by omega))
    have t53 : hq_73 T 48 49 53 d.toNatClampNeg = Int32.ofInt 2 := by rw [hf_73 T 53 (by omega)]; exact p2
    generalize hq_55 S (Int32.ofInt 0) = S1 at m s' ⊢
    generalize hq_73 T 48 49 = T1 at m s' t53 ⊢
    have q4 := ((s' _ hd8).2.2 t53).1.2
    rw [q4]
    exact hm_33l pd _ _ _ _ _ _ 0 (by decide) (by omega) m s' t53
  · rw [if_neg q, if_neg q]
theorem hm_q33 (h : hr_all S S) (hs : hr_sh S S) (d : Int32) : (hq_33 S d).1 = (hq_151 (hq_33 S d).2 d).1 := hm_a33 (hr_nowx h.1 (fun _ _ _ => rfl) (by rw [hf_33] <;> omega)) (hr_shx hs (fun _ _ _ => rfl) (fun j a b => by rw [hf_33] <;> omega)) d
end HR

/-! wager -/
section HR
variable {S T : hp_S} {f : Nat → Int32}
/-- the row of a shelf, on both sides -/
def hm_rw (S T : hp_S) (d : Int32) : Prop := (0 ≤ d.toInt ∧ d.toInt ≤ 7) ∧ S (29 + 2 * d.toNatClampNeg) 4 = T 57 d.toNatClampNeg ∧ (0 ≤ (T 57 d.toNatClampNeg).toInt ∧ (T 57 d.toNatClampNeg).toInt ≤ 100) ∧ ∀ j : Nat, j < 100 → S (30 + 2 * d.toNatClampNeg) j = T 58 (100 * d.toNatClampNeg + j)
theorem hm_rowof (hs : hr_sh S T) {d : Int32} (pd : 0 ≤ d.toInt ∧ d.toInt ≤ 7) (h : T 53 d.toNatClampNeg = Int32.ofInt 2) : hm_rw S T d := by
  obtain ⟨⟨q3, q4⟩, _, q5, q6⟩ := (hs _ (show d.toInt.toNat < 8 by omega)).2.2 h
  exact ⟨pd, q4, q5, q6⟩
theorem hm_178l {d h : Int32} (r : hm_rw S T d) : ∀ (m : Nat) (i : Int32) (k : Nat), i.toInt = k → k ≤ 100 → ((T 57 d.toNatClampNeg).toInt - k).toNat < m → (hq_178_2 d.toNatClampNeg (Int32.ofInt 1) (Int32.ofInt 99) m S i = Int32.ofInt 1 ∧ hq_149_54 d h m T (Int32.ofInt 0) i = Int32.ofInt 0 ∧ ∀ j : Nat, k ≤ j → (j : Int) < (T 57 d.toNatClampNeg).toInt → 1 ≤ (T 58 (100 * d.toNatClampNeg + j)).toInt ∧ (T 58 (100 * d.toNatClampNeg + j)).toInt ≤ 99) ∨ (hq_178_2 d.toNatClampNeg (Int32.ofInt 1) (Int32.ofInt 99) m S i = Int32.ofInt 0 ∧ hq_149_54 d h m T (Int32.ofInt 0) i = Int32.ofInt (-13)) := by
  obtain ⟨pd, q4, q5, q6⟩ := r
  have e99 : (Int32.ofInt 99).toInt = 99 := by decide
  intro m
  induction m with
  | zero => intro i k hi hk hm; omega
  | succ m ih =>
    intro i k hi hk hm
    rw [hq_178_2, hq_149_54, q4, if_neg (show ¬ hz_cmp .ne (Int32.ofInt 0) 0 = true by decide)]
    by_cases q : hz_cmp .ge i (T 57 d.toNatClampNeg) = true
    · rw [if_pos q, if_pos q]
      rw [hr_ge] at q
      exact Or.inl ⟨rfl, rfl, fun j a b => by omega⟩
    · rw [if_neg q, if_neg q]
      rw [hr_ge] at q
      have hk' : k < 100 := by omega
      have hu := hr_up hi (by omega)
      rw [hr_44, hr_70, hm_iy pd hi hk', hr_nat hi, q6 k hk', hr_o1, e99]
      simp only [hr_n0]
      by_cases p : 1 ≤ (T 58 (100 * d.toNatClampNeg + k)).toInt ∧ (T 58 (100 * d.toNatClampNeg + k)).toInt ≤ 99
      · rw [if_pos p, if_pos p]
        rcases ih _ (k + 1) hu (by omega) (by omega) with ⟨a, b, c⟩ | g
        · refine Or.inl ⟨a, b, fun j ja jb => ?_⟩
          by_cases jk : j = k
          · subst jk; exact p
          · exact c j (by omega) jb
        · exact Or.inr g
      · rw [if_neg p, if_neg p]
        obtain ⟨m', rfl⟩ : ∃ m', m = m' + 1 := ⟨m - 1, by omega⟩
        rw [hq_149_54, if_pos (by decide)]
        exact Or.inr ⟨rfl, rfl⟩
theorem hm_72 (U V : hp_S) {x q : Int32} (hx : 1 ≤ x.toInt ∧ x.toInt ≤ 99) (hq : 0 ≤ q.toInt ∧ q.toInt ≤ 99) : hq_218 U (x - q) = hq_72 V x q := by
  have e : (x - q).toInt = x.toInt - q.toInt := hp_sub (by omega) (by omega)
  have e' : (q - x).toInt = q.toInt - x.toInt := hp_sub (by omega) (by omega)
  unfold hq_218 hq_72
  simp only [hr_ge, hr_0, e]
  by_cases p : 0 ≤ x.toInt - q.toInt
  · rw [if_pos p, if_pos (by omega)]
  · rw [if_neg p, if_neg (by omega), Int32.neg_sub]
theorem hm_179l {d h q w : Int32} (r : hm_rw S T d) (hq : 0 ≤ q.toInt ∧ q.toInt ≤ 99) (ha : ∀ j : Nat, (j : Int) < (T 57 d.toNatClampNeg).toInt → 1 ≤ (T 58 (100 * d.toNatClampNeg + j)).toInt ∧ (T 58 (100 * d.toNatClampNeg + j)).toInt ≤ 99) : ∀ (m : Nat) (v i : Int32) (kv k : Nat), v.toInt = kv → (kv : Int) < (T 57 d.toNatClampNeg).toInt → i.toInt = k → k ≤ 100 → hq_179_4 d.toNatClampNeg q m S v i = hq_149_141 d h m T w q v i := by
  obtain ⟨pd, q4, q5, q6⟩ := r
  intro m
  induction m with
  | zero => intros; rfl
  | succ m ih =>
    intro v i kv k hv lv hi hk
    rw [hq_179_4, hq_149_141, q4]
    by_cases z : hz_cmp .ge i (T 57 d.toNatClampNeg) = true
    · rw [if_pos z, if_pos z]
    · rw [if_neg z, if_neg z]
      rw [hr_ge] at z
      have hk' : k < 100 := by omega
      have hu := hr_up hi (by omega)
      rw [hm_iy pd hi hk', hm_iy pd hv (by omega), hr_nat hi, hr_nat hv, q6 k hk', q6 kv (by omega), hm_72 S T (ha k (by omega)) hq, hm_72 S T (ha kv lv) hq]
      split
      · exact ih _ _ kv (k + 1) hv lv hu hk'
      · exact ih _ _ k (k + 1) hi (by omega) hu hk'
end HR

/-! wager: both sides -/
section HR
variable {S T : hp_S} {f : Nat → Int32}
theorem hm_123c {a v n : Int32} (hn : n.toInt ≤ 99) : ∀ (m : Nat) (T : hp_S) (i : Int32) (k : Nat), i.toInt = k → (hq_123_3 a v n m T i).1 = Int32.ofInt (-4) ∨ (0 ≤ (hq_123_3 a v n m T i).1.toInt ∧ (hq_123_3 a v n m T i).1.toInt ≤ 99) := by
  intro m
  induction m with
  | zero =>
    intro T i k hi
    exact Or.inr (by show (0 : Int) ≤ (0 : Int32).toInt ∧ (0 : Int32).toInt ≤ 99; rw [hr_0]; omega)
  | succ m ih =>
    intro T i k hi
    rw [hq_123_3]
    split
    · exact Or.inl rfl
    · rename_i q
      rw [hr_gt] at q
      split
      · exact ih _ _ (k + 1) (hr_up hi (by omega))
      · exact Or.inr (by show 0 ≤ i.toInt ∧ i.toInt ≤ 99; omega)
theorem hm_51 {d a v : Int32} (T : hp_S) (hv : v ≠ Int32.ofInt 0) : (hq_149_51 d a T v).1 = v := by
  unfold hq_149_51
  rw [hq_149_54, if_pos (by rw [hr_ne]; exact hv)]
  unfold hq_149_99
  rw [if_neg (by rw [hr_eq]; exact hv)]
theorem hm_35 {d a v : Int32} (T : hp_S) (hv : v ≠ Int32.ofInt 0) : (hq_149_35 d a T v).1 = v := by
  unfold hq_149_35
  rw [if_pos (by rw [hr_ne]; exact hv)]
  exact hm_51 T hv
theorem hm_a31 (h : hr_now S T) (hs : hr_sh S T) (d a : Int32) : (hq_31 S d a).1 = (hq_149 T d a).1 := by
  have em4 : (Int32.ofInt (-4)).toInt = -4 := by decide
  have e99 : (Int32.ofInt 99).toInt = 99 := by decide
  unfold hq_31 hq_149
  rw [(hm_H h a).1, (hm_H h a).2, (hm_52 hs d).1]
  simp only [hr_n0]
  have g := (hm_52 hs d).2
  by_cases p : 0 ≤ a.toInt ∧ a.toInt < (T 48 1).toInt
  · rw [if_pos p, if_pos p]
    generalize hq_158 T d (Int32.ofInt (-1)) = r at g ⊢
    by_cases q : r = Int32.ofInt 0
    · subst q
      obtain ⟨pd, p2⟩ := g rfl
      have R := hm_rowof hs pd p2
      have n1 := h.2.1.1.2.1
      rw [if_pos (show hz_cmp .eq (Int32.ofInt 0) 0 = true by decide), if_neg (show ¬ hz_cmp .ne (Int32.ofInt 0) 0 = true by decide), hr_183e h.1 (show a.toInt = (a.toInt.toNat : Nat) by omega) (by omega) (by omega)]
      by_cases c : hz_cmp .ne (hq_85 T 48 a) 0 = true
      · rw [if_pos c, if_pos c]
        unfold hq_149_35
        rw [if_neg (show ¬ hz_cmp .ne (Int32.ofInt 0) 0 = true by decide), R.2.1]
        by_cases l : T 57 d.toNatClampNeg = 0
        · rw [if_pos (show hz_cmp .eq (T 57 d.toNatClampNeg) 0 = true by rw [hr_eq]; exact l), if_neg (show ¬ hz_cmp .ne (T 57 d.toNatClampNeg) 0 = true by rw [hr_ne]; exact fun z => z l), hm_51 T (by decide)]
        · rw [if_neg (show ¬ hz_cmp .eq (T 57 d.toNatClampNeg) 0 = true by rw [hr_eq]; exact l), if_pos (show hz_cmp .ne (T 57 d.toNatClampNeg) 0 = true by rw [hr_ne]; exact l)]
          unfold hq_149_51 hq_178
          rw [R.2.1]
          rcases hm_178l (h := a) R (((T 57 d.toNatClampNeg).toInt - (Int32.ofInt 0).toInt).toNat + 1) (Int32.ofInt 0) 0 (by decide) (by omega) (by rw [hr_o0]; omega) with ⟨x, y, z⟩ | ⟨x, y⟩
          · rw [x, y, if_pos (by decide)]
            unfold hq_149_99
            rw [if_pos (show hz_cmp .eq (Int32.ofInt 0) 0 = true by decide)]
            have m := hm_550 h
            have hv := hm_mW m p (hq_73 T 48 49)
            rw [hm_c49 T (hm_W80 _ (by omega))] at hv
            rw [hm_c48]
            have c1 : ∀ j : Nat, 29 ≤ j → j ≤ 44 → hq_55 S (Int32.ofInt 0) j = S j := fun j x y => by rw [hf_55] <;> omega
            have c2 : ∀ j : Nat, 53 ≤ j → j ≤ 58 → hq_73 T 48 49 j = T j := fun j x y => hf_73 T j (by omega)
            generalize hq_73 T 48 49 = T1 at m hv c2 ⊢
            generalize hq_55 S (Int32.ofInt 0) = S1 at m hv c1 ⊢
            have e := hm_56 m p (Int32.ofInt 99) hv
            generalize T 48 (hq_75 T1 a (Int32.ofInt 2)).toNatClampNeg = ww at e hv ⊢
            have c3 : ∀ j : Nat, 29 ≤ j → j ≤ 44 → (hq_56 S1 a (Int32.ofInt 99)).2 j = S j := fun j x y => by
              rw [hf_56]
              · exact c1 j x y
              all_goals omega
            have c4 : ∀ j : Nat, 53 ≤ j → j ≤ 58 → (hq_123 T1 a ww (Int32.ofInt 99)).2 j = T j := fun j x y => by
              rw [hf_123]
              · exact c2 j x y
              all_goals omega
            have b4 : (hq_123 T1 a ww (Int32.ofInt 99)).1 = Int32.ofInt (-4) ∨ (0 ≤ (hq_123 T1 a ww (Int32.ofInt 99)).1.toInt ∧ (hq_123 T1 a ww (Int32.ofInt 99)).1.toInt ≤ 99) := by
              unfold hq_123
              exact hm_123c (by rw [e99]; omega) _ _ _ 1 (by decide)
            generalize hq_56 S1 a (Int32.ofInt 99) = X at e c3 ⊢
            generalize hq_123 T1 a ww (Int32.ofInt 99) = Y at e c4 b4 ⊢
            rw [e]
            rcases b4 with r4 | r4
            · rw [if_neg (show ¬ hz_cmp .ne Y.1 (Int32.ofInt (-4)) = true by rw [hr_ne, r4]; exact fun z => z rfl), if_neg (show ¬ hz_cmp .ge Y.1 0 = true by rw [hr_ge, r4, em4, hr_0]; omega)]
            · rw [if_pos (show hz_cmp .ne Y.1 (Int32.ofInt (-4)) = true by rw [hr_ne]; intro z; rw [z, em4] at r4; omega), if_pos (show hz_cmp .ge Y.1 0 = true by rw [hr_ge, hr_0]; omega)]
              have hs2 : hr_sh X.2 Y.2 := hr_shx hs c3 c4
              have R2 := hm_rowof hs2 pd (by rw [c4 53 (by omega) (by omega)]; exact p2)
              unfold hq_179
              rw [R2.2.1]
              have l57 : Y.2 57 d.toNatClampNeg = T 57 d.toNatClampNeg := by rw [c4 57 (by omega) (by omega)]
              have l0 : (T 57 d.toNatClampNeg).toInt ≠ 0 := fun z => l (hr_ti.mp (by rw [z, hr_0]))
              have l1 := R.2.2.1
              exact hm_179l R2 r4 (fun j hj => by rw [c4 58 (by omega) (by omega)]; exact z j (by omega) (by rw [← l57]; exact hj)) _ _ _ 0 1 (by decide) (by rw [l57]; omega) (by decide) (by omega)
          · rw [x, y, if_neg (by decide)]
            unfold hq_149_99
            rw [if_neg (by decide)]
      · rw [if_neg c, if_neg c, hm_35 T (by decide)]
    · rw [if_neg (show ¬ hz_cmp .eq r 0 = true by rw [hr_eq]; exact q), if_pos (show hz_cmp .ne r 0 = true by rw [hr_ne]; exact q), hm_35 T q]
  · rw [if_neg p, if_neg p]
theorem hm_q31 (h : hr_all S S) (hs : hr_sh S S) (d a : Int32) : (hq_31 S d a).1 = (hq_149 (hq_31 S d a).2 d a).1 := hm_a31 (hr_nowx h.1 (fun _ _ _ => rfl) (by rw [hf_31] <;> omega)) (hr_shx hs (fun _ _ _ => rfl) (fun j a b => by rw [hf_31] <;> omega)) d a
end HR

