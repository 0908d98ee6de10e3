section HR
variable {S T : hp_S} {b c : Nat} {i x : Int32} {k : Nat}
/-- the shelves of both sides -/
def hr_sh (S T : hp_S) : Prop := ∀ d : Nat, d < 8 → (S (29 + 2 * d) 0 = T 53 d ∧ (T 53 d = Int32.ofInt 0 ∨ T 53 d = Int32.ofInt 1 ∨ T 53 d = Int32.ofInt 2)) ∧ (T 53 d = Int32.ofInt 1 → (S (29 + 2 * d) 1 = T 54 d ∧ S (29 + 2 * d) 2 = T 55 d) ∧ (0 ≤ (T 54 d).toInt ∧ (T 54 d).toInt ≤ 7) ∧ (0 ≤ (T 55 d).toInt ∧ (T 55 d).toInt ≤ 9)) ∧ (T 53 d = Int32.ofInt 2 → (S (29 + 2 * d) 3 = T 56 d ∧ S (29 + 2 * d) 4 = T 57 d) ∧ (0 ≤ (T 56 d).toInt ∧ (T 56 d).toInt ≤ 2) ∧ (0 ≤ (T 57 d).toInt ∧ (T 57 d).toInt ≤ 100) ∧ ∀ j : Nat, j < 100 → S (30 + 2 * d) j = T 58 (100 * d + j))
theorem hr_54 (hs : hr_sh S T) (d : Int32) : hq_53 S d = hq_159 T d ∧ (hq_159 T d = Int32.ofInt 0 → (0 ≤ d.toInt ∧ d.toInt ≤ 7) ∧ T 53 d.toNatClampNeg = Int32.ofInt 1) := by
  have e7 : (Int32.ofInt 7).toInt = 7 := by decide
  unfold hq_53 hq_54 hq_159 hq_51 hq_157
  rw [hr_44, hr_70]
  by_cases p : (Int32.ofInt 0).toInt ≤ d.toInt ∧ d.toInt ≤ (Int32.ofInt 7).toInt
  · rw [hr_iN p, hr_iN p]
    rw [hr_o0, e7] at p
    have hd : d.toNatClampNeg < 8 := by show d.toInt.toNat < 8; omega
    obtain ⟨⟨h1, h2⟩, _, _⟩ := hs _ hd
    rw [h1]
    rcases h2 with h | h | h
    · rw [h]
      exact ⟨by decide, fun q => absurd q (by decide)⟩
    · rw [h]
      exact ⟨by decide, fun q => ⟨p, rfl⟩⟩
    · rw [h]
      exact ⟨by decide, fun q => absurd q (by decide)⟩
  · rw [hr_iNn p, hr_iNn p]
    exact ⟨rfl, fun q => absurd q (by decide)⟩
theorem hr_wears (hE : hr_E S 1 (T 48)) (ho : hr_ok (T 48)) (hs : hr_sh S T) (d p : Int32) : hr_R 1 T (hq_5 S d p) (hq_111 T d p) := by
  have h6 := ho.1.1
  have h8 := ho.1.2.1
  have e8 : (Int32.ofInt 8).toInt = 8 := by decide
  have e7 : (Int32.ofInt 7).toInt = 7 := by decide
  have e9 : (Int32.ofInt 9).toInt = 9 := by decide
  unfold hq_5 hq_111
  rw [hr_181, hr_76 T p h6.1, hE.1.1]
  by_cases q : 0 ≤ p.toInt ∧ p.toInt < (T 48 0).toInt
  · rw [hr_iN q, hr_iN q]
    have h := hr_54 hs d
    rw [h.1]
    by_cases z : hq_159 T d = Int32.ofInt 0
    · obtain ⟨hd, h1⟩ := h.2 z
      have hd8 : d.toNatClampNeg < 8 := by show d.toInt.toNat < 8; omega
      obtain ⟨_, hh, _⟩ := hs _ hd8
      obtain ⟨⟨g1, g2⟩, g3, g4⟩ := hh h1
      rw [z, g1, g2]
      rw [if_pos (show hz_cmp .eq (Int32.ofInt 0) 0 = true by decide), if_pos (show hz_cmp .eq (Int32.ofInt 0) 0 = true by decide)]
      by_cases hb : hq_88 T 48 p = hr_9
      · rw [if_pos (by rw [hr_eq]; exact hb), hr_n1']
        by_cases hn : (T 48 1).toInt < 8
        · have r := hr_193 hE ho (T 54 d.toNatClampNeg) (T 55 d.toNatClampNeg) p g3 g4 q hb hn
          rw [if_pos (by rw [hr_ne]; intro w; rw [w] at hn; omega)]
          unfold hr_R
          dsimp only
          exact ⟨r.1.trans r.2.1.symm, r.2.2.1, r.2.2.2.1, r.2.2.2.2⟩
        · rw [if_neg (by rw [hr_ne]; exact fun w => w (Int32.toInt_inj.mp (by omega)))]
          have r : hq_193 S 1 (T 54 d.toNatClampNeg) (T 55 d.toNatClampNeg) p = (Int32.ofInt (-2), S) := by
            unfold hq_193 hq_48 hq_49
            rw [hr_44, hr_44, hr_181, hr_188 hE ho, if_neg (by rw [hr_e0, hr_o0, e7]; omega), if_neg (by rw [hr_e0, hr_o0, e9]; omega), if_pos (by rw [hr_n0, hE.1.1]; exact q), if_pos (by rw [hr_n0]; exact hb), if_neg (by rw [hr_lt, hE.1.2.1, e8]; exact hn)]
          rw [r]
          exact hr_Rs hE ho _
      · rw [if_neg (by rw [hr_eq]; exact hb)]
        have r : hq_193 S 1 (T 54 d.toNatClampNeg) (T 55 d.toNatClampNeg) p = (Int32.ofInt (-3), S) := by
          unfold hq_193 hq_48 hq_49
          rw [hr_44, hr_44, hr_181, hr_188 hE ho, if_neg (by rw [hr_e0, hr_o0, e7]; omega), if_neg (by rw [hr_e0, hr_o0, e9]; omega), if_pos (by rw [hr_n0, hE.1.1]; exact q), if_neg (by rw [hr_n0]; exact hb)]
        rw [r]
        exact hr_Rs hE ho _
    · have z' : ¬ (hz_cmp .eq (hq_159 T d) 0 = true) := by
        rw [hr_eq]
        exact fun w => z (w.trans (by decide))
      rw [if_neg z', if_neg z']
      exact hr_Rs hE ho _
  · rw [hr_iNn q, hr_iNn q]
    exact hr_Rs hE ho _
/-! a street becomes another; a row is copied -/
theorem hr_cpj {f g : Nat → Int32} {n j : Nat} (h : j < n) : va_cpy f g 0 0 n j = f j := by
  unfold va_cpy
  rw [if_pos (by omega)]
  congr 1
  omega
theorem hr_Ecg {S S' : hp_S} {b b' : Nat} {f f' : Nat → Int32} (hE : hr_E S b f) (hf : ∀ j : Nat, j < 80 → f' j = f j) (h0 : S' b' 4 = S b 4 ∧ S' b' 8 = S b 8 ∧ S' b' 2 = S b 2 ∧ S' b' 3 = S b 3 ∧ S' b' 1 = S b 1) (h1 : ∀ j : Nat, j < 24 → S' (b' + 1) j = S (b + 1) j) (h2 : ∀ j : Nat, j < 6 → S' (b' + 2) j = S (b + 2) j ∧ S' (b' + 3) j = S (b + 3) j ∧ S' (b' + 4) j = S (b + 4) j) (h3 : ∀ j : Nat, j < 8 → S' (b' + 5) j = S (b + 5) j ∧ S' (b' + 6) j = S (b + 6) j ∧ S' (b' + 7) j = S (b + 7) j ∧ S' (b' + 8) j = S (b + 8) j) : hr_E S' b' f' := by
  obtain ⟨⟨e1, e2, e3, e4, e5⟩, ew, ep, eh⟩ := hE
  obtain ⟨g1, g2, g3, g4, g5⟩ := h0
  refine ⟨⟨?_, ?_, ?_, ?_, ?_⟩, fun h hh => ?_, fun p h6 hp => ?_, fun h h8 hh => ?_⟩
  · rw [g1, hf 0 (by omega)]; exact e1
  · rw [g2, hf 1 (by omega)]; exact e2
  · rw [g3, hf 2 (by omega)]; exact e3
  · rw [g4, hf 3 (by omega)]; exact e4
  · rw [g5, hf 4 (by omega)]; exact e5
  · rw [h1 h hh, hf (6 + h) (by omega)]; exact ew h hh
  · rw [hf 0 (by omega)] at hp
    obtain ⟨q2, q3, q4⟩ := h2 p h6
    rw [q2, q3, q4, hf 5 (by omega), hf (30 + 3 * p) (by omega), hf (31 + 3 * p) (by omega), hf (32 + 3 * p) (by omega)]
    exact ep p h6 hp
  · rw [hf 1 (by omega)] at hh
    obtain ⟨q5, q6, q7, q8⟩ := h3 h h8
    rw [q5, q6, q7, q8, hf (48 + 4 * h) (by omega), hf (49 + 4 * h) (by omega), hf (50 + 4 * h) (by omega), hf (51 + 4 * h) (by omega)]
    exact eh h h8 hh
theorem hr_okcg {f f' : Nat → Int32} (ho : hr_ok f) (hf : ∀ j : Nat, j < 80 → f' j = f j) : hr_ok f' := by
  obtain ⟨o1, ow, op, oh⟩ := ho
  refine ⟨?_, fun h hh => ?_, fun p h6 hp => ?_, fun h h8 hh => ?_⟩
  · rw [hf 0 (by omega), hf 1 (by omega), hf 2 (by omega)]; exact o1
  · rw [hf (6 + h) (by omega)]; exact ow h hh
  · rw [hf 0 (by omega)] at hp
    rw [hf (30 + 3 * p) (by omega), hf (31 + 3 * p) (by omega), hf (32 + 3 * p) (by omega)]
    exact op p h6 hp
  · rw [hf 1 (by omega)] at hh
    rw [hf 0 (by omega), hf (48 + 4 * h) (by omega), hf (49 + 4 * h) (by omega), hf (50 + 4 * h) (by omega), hf (51 + 4 * h) (by omega)]
    exact oh h h8 hh
theorem hr_n24 : (Int32.ofInt 24).toNatClampNeg = 24 := by decide
theorem hr_n6 : (Int32.ofInt 6).toNatClampNeg = 6 := by decide
theorem hr_n8 : (Int32.ofInt 8).toNatClampNeg = 8 := by decide
theorem hr_180s (S : hp_S) (b b2 : Nat) (hd : ∀ i j : Nat, i ≤ 8 → j ≤ 8 → b2 + i ≠ b + j) : hq_180 S b b2 = hp_cp (hp_cp (hp_cp (hp_cp (hp_w (hp_cp (hp_cp (hp_cp (hp_w (hp_w (hp_w (hp_w (hp_cp S (b2 + 1) (b + 1) 24) b 1 (S b2 1)) b 2 (S b2 2)) b 3 (S b2 3)) b 4 (S b2 4)) (b2 + 2) (b + 2) 6) (b2 + 3) (b + 3) 6) (b2 + 4) (b + 4) 6) b 8 (S b2 8)) (b2 + 5) (b + 5) 8) (b2 + 6) (b + 6) 8) (b2 + 7) (b + 7) 8) (b2 + 8) (b + 8) 8 := by
  have d0 : ∀ j : Nat, j ≤ 8 → b2 ≠ b + j := fun j hj => hd 0 j (by omega) hj
  have d00 : b2 ≠ b := hd 0 0 (by omega) (by omega)
  unfold hq_180 hq_180_15 hq_180_23 hq_180_31 hq_180_39 hq_180_47 hq_180_62 hq_180_77 hq_180_92 hq_180_100 hq_180_115 hq_180_130 hq_180_145 hq_180_160
  simp only [hr_n24, hr_n6, hr_n8, hp_cpo _ _ _ _ _ (d0 1 (by omega)), hp_cpo _ _ _ _ _ (d0 2 (by omega)), hp_cpo _ _ _ _ _ (d0 3 (by omega)), hp_cpo _ _ _ _ _ (d0 4 (by omega)), hp_wo _ _ _ _ _ d00]
end HR

section HR
variable {S T : hp_S} {b c : Nat} {i x : Int32} {k : Nat}
abbrev hr_pr (b b2 : Nat) : Prop := (b = 10 ∧ b2 = 1) ∨ (b = 1 ∧ b2 = 10) ∨ (b = 19 ∧ b2 = 1) ∨ (b = 1 ∧ b2 = 19)
theorem hr_prd {b b2 : Nat} (h : hr_pr b b2) : ∀ i j : Nat, i ≤ 8 → j ≤ 8 → b2 + i ≠ b + j := by
  rcases h with ⟨rfl, rfl⟩ | ⟨rfl, rfl⟩ | ⟨rfl, rfl⟩ | ⟨rfl, rfl⟩ <;> intro i j hi hj <;> omega
theorem hr_180 {b b2 : Nat} (h : hr_pr b b2) {f : Nat → Int32} (hE : hr_E S b2 f) : hr_E (hq_180 S b b2) b f := by
  rw [hr_180s S b b2 (hr_prd h)]
  refine hr_Ecg (b := b2) hE (fun _ _ => rfl) ?_ (fun j hj => ?_) (fun j hj => ?_) (fun j hj => ?_)
  all_goals
    rcases h with ⟨rfl, rfl⟩ | ⟨rfl, rfl⟩ | ⟨rfl, rfl⟩ | ⟨rfl, rfl⟩ <;> simp [hp_cp, hp_w, upd, hr_cpj, *]
theorem hr_180d {b b2 : Nat} (h : hr_pr b b2) (j : Nat) (hj : j = 1 ∨ j = 2 ∨ j = 3 ∨ j = 4 ∨ j = 8) : hq_180 S b b2 b j = S b2 j := by
  rw [hr_180s S b b2 (hr_prd h)]
  rcases h with ⟨rfl, rfl⟩ | ⟨rfl, rfl⟩ | ⟨rfl, rfl⟩ | ⟨rfl, rfl⟩ <;> rcases hj with rfl | rfl | rfl | rfl | rfl <;> simp [hp_cp, hp_w, upd]
theorem hr_73l {c c2 : Nat} (hc : c ≠ c2) : ∀ (m : Nat) (S : hp_S) (i : Int32) (k : Nat), i.toInt = k → k ≤ 80 → 80 - k < m → ∀ j : Nat, (hq_73_2 c c2 m S i) c2 j = if k ≤ j ∧ j < 80 then S c j else S c2 j := by
  intro m
  induction m with
  | zero => intros; omega
  | succ m ih =>
    intro S i k hi hk hm j
    have e80 : (Int32.ofInt 80).toInt = 80 := by decide
    rw [hq_73_2]
    by_cases h : hz_cmp .ge i (Int32.ofInt 80) = true
    · rw [if_pos h]
      rw [hr_ge, e80] at h
      rw [if_neg (by omega)]
    · rw [if_neg h]
      rw [hr_ge, e80] at h
      rw [ih _ _ (k + 1) (hr_up hi (by omega)) (by omega) (by omega), hr_nat hi, hr_wg S c2 hi (by omega), hp_wo _ _ _ _ _ hc, hp_ws]
      by_cases q : k + 1 ≤ j ∧ j < 80
      · rw [if_pos q, if_pos (by omega)]
      · rw [if_neg q]
        by_cases w : j = k
        · subst w
          rw [hr_us, if_pos (by omega)]
        · rw [hr_ub w, if_neg (by omega)]
theorem hr_73 {c c2 : Nat} (hc : c ≠ c2) (S : hp_S) (j : Nat) (hj : j < 80) : (hq_73 S c c2) c2 j = S c j := by
  unfold hq_73
  rw [hr_73l hc _ S _ 0 (by decide) (by omega) (by decide), if_pos (by omega)]
/-! THE WHOLE STATE of both sides but the shelves -/
def hr_now (S T : hp_S) : Prop := hr_E S 1 (T 48) ∧ hr_ok (T 48) ∧ T 48 5 = 0
def hr_kept (S T : hp_S) : Prop := S 0 3 = T 47 4 ∧ (T 47 4 = Int32.ofInt 0 ∨ T 47 4 = Int32.ofInt 1) ∧ (T 47 4 = Int32.ofInt 1 → hr_E S 19 (T 50) ∧ hr_ok (T 50) ∧ T 50 5 = 0)
def hr_all (S T : hp_S) : Prop := hr_now S T ∧ hr_kept S T
theorem hr_Ex {S' : hp_S} {f f' : Nat → Int32} (hE : hr_E S b f) (hS : ∀ i : Nat, i ≤ 8 → S' (b + i) = S (b + i)) (hf : f' = f) : hr_E S' b f' := by
  subst hf
  have h0 : S' b = S b := hS 0 (by omega)
  exact hr_Ecg hE (fun _ _ => rfl) (by rw [h0]; exact ⟨rfl, rfl, rfl, rfl, rfl⟩) (fun j _ => by rw [hS 1 (by omega)]) (fun j _ => by rw [hS 2 (by omega), hS 3 (by omega), hS 4 (by omega)]; exact ⟨rfl, rfl, rfl⟩) (fun j _ => by rw [hS 5 (by omega), hS 6 (by omega), hS 7 (by omega), hS 8 (by omega)]; exact ⟨rfl, rfl, rfl, rfl⟩)
theorem hr_nowx {S' T' : hp_S} (h : hr_now S T) (hS : ∀ i : Nat, 1 ≤ i → i ≤ 9 → S' i = S i) (hT : T' 48 = T 48) : hr_now S' T' := ⟨hr_Ex h.1 (fun i hi => hS (1 + i) (by omega) (by omega)) hT, by rw [hT]; exact h.2.1, by rw [hT]; exact h.2.2⟩
theorem hr_keptx {S' T' : hp_S} (h : hr_kept S T) (h0 : S' 0 3 = S 0 3) (hS : ∀ i : Nat, 19 ≤ i → i ≤ 27 → S' i = S i) (hT : T' 50 = T 50) (h4 : T' 47 4 = T 47 4) : hr_kept S' T' := ⟨by rw [h0, h4]; exact h.1, by rw [h4]; exact h.2.1, fun q => by rw [h4] at q; obtain ⟨a, b, c⟩ := h.2.2 q; exact ⟨hr_Ex a (fun i hi => hS (19 + i) (by omega) (by omega)) hT, by rw [hT]; exact b, by rw [hT]; exact c⟩⟩
/-- one method of the class, told of the street itself, and then its counterpart: told of what is left -/
theorem hr_go {k1 k2 : hp_S → Int32 × hp_S} (h1 : ∀ (S : hp_S) (j : Nat), (j = 0 ∨ (19 ≤ j ∧ j ≤ 27) ∨ 47 ≤ j) → (k1 S).2 j = S j) (h2 : ∀ (S : hp_S) (j : Nat), j < 47 → (k2 S).2 j = S j) (h3 : ∀ (S : hp_S), (k2 S).2 50 = S 50 ∧ (k2 S).2 47 4 = S 47 4) (hS : hr_all S S) (hR : hr_E S 1 ((k1 S).2 48) → hr_ok ((k1 S).2 48) → (k1 S).2 48 5 = 0 → hr_R 1 (k1 S).2 (k1 S) (k2 (k1 S).2)) : (k1 S).1 = (k2 (k1 S).2).1 ∧ hr_all (k2 (k1 S).2).2 (k2 (k1 S).2).2 := by
  obtain ⟨⟨hE, ho, hz⟩, hk⟩ := hS
  have e48 := h1 S 48 (by omega)
  obtain ⟨r1, r2, r3, r4⟩ := hR (by rw [e48]; exact hE) (by rw [e48]; exact ho) (by rw [e48]; exact hz)
  refine ⟨r1, ⟨hr_Ex r2 (fun i hi => h2 _ _ (by omega)) rfl, r3, ?_⟩, ?_⟩
  · rw [r4, e48]; exact hz
  · refine hr_keptx hk ?_ (fun i a c => ?_) ?_ ?_
    · rw [h2 _ 0 (by omega), h1 _ 0 (by omega)]
    · rw [h2 _ i (by omega), h1 _ i (by omega)]
    · rw [(h3 _).1, h1 _ 50 (by omega)]
    · rw [(h3 _).2, h1 _ 47 (by omega)]
end HR

section HR
variable {S T U : hp_S} {k p n : Nat}
/-! THE TEXT, as the reference reads it -/
/-- the byte at a place of the row that is read -/
def hy_x (S : hp_S) (j : Nat) : Int32 := S 58 ((S 47 6).toInt.toNat + j) &&& Int32.ofInt 255
/-- the row that is read lies in bounds, and is n long -/
def hy_r (S : hp_S) (n : Nat) : Prop := (S 47 7).toInt = n ∧ n ≤ 100 ∧ 0 ≤ (S 47 6).toInt ∧ (S 47 6).toInt ≤ 700
/-- U is S but for the numbers and for the place, which is p -/
def hy_v (S U : hp_S) (p : Nat) : Prop := (∀ j : Nat, j ≠ 47 → j ≠ 52 → U j = S j) ∧ (∀ j : Nat, j ≠ 5 → U 47 j = S 47 j) ∧ (U 47 5).toInt = p
/-- a digit -/
def hy_d (S : hp_S) (n j : Nat) : Prop := j < n ∧ 48 ≤ (hy_x S j).toInt ∧ (hy_x S j).toInt ≤ 57
theorem hy_100 (hr : hy_r S n) (hv : hy_v S U p) (hp : p ≤ 100) : hq_100 U = if n ≤ p then Int32.ofInt (-1) else hy_x S p := by
  obtain ⟨h1, h2, h3, h4⟩ := hr
  obtain ⟨v1, v2, v3⟩ := hv
  have e : (U 47 6 + U 47 5).toNatClampNeg = (S 47 6).toInt.toNat + p := by
    rw [v2 6 (by omega)]
    exact hr_nat (by rw [hp_add (by omega) (by omega), v3]; omega)
  unfold hq_100
  rw [v2 7 (by omega), e, v1 58 (by omega) (by omega)]
  by_cases q : n ≤ p
  · rw [if_pos (by rw [hr_ge]; omega), if_pos q]
  · rw [if_neg (by rw [hr_ge]; omega), if_neg q]
    rfl
theorem hy_isd (hr : hy_r S n) (hv : hy_v S U p) (hp : p ≤ 100) (W : hp_S) : hq_70 W (hq_100 U) (Int32.ofInt 48) (Int32.ofInt 57) = hr_b (48 ≤ (hq_100 U).toInt ∧ (hq_100 U).toInt ≤ 57) := by
  rw [hr_70]
  exact hr_bc (by rw [show (Int32.ofInt 48).toInt = 48 by decide, show (Int32.ofInt 57).toInt = 57 by decide])
theorem hy_dig (hr : hy_r S n) (hv : hy_v S U p) (hp : p ≤ 100) : (48 ≤ (hq_100 U).toInt ∧ (hq_100 U).toInt ≤ 57) ↔ hy_d S n p := by
  rw [hy_100 hr hv hp]
  unfold hy_d
  by_cases q : n ≤ p
  · rw [if_pos q]
    have e : (Int32.ofInt (-1)).toInt = -1 := by decide
    omega
  · rw [if_neg q]
    omega
/-- one step on -/
def hy_st (U : hp_S) (i v : Int32) : hp_S := hp_w (hp_w U 52 i.toNatClampNeg v) 47 5 ((hp_w U 52 i.toNatClampNeg v) 47 5 + Int32.ofInt 1)
theorem hy_sv (hr : hy_r S n) (hv : hy_v S U p) (hp : p ≤ 100) (i v : Int32) : hy_v S (hy_st U i v) (p + 1) ∧ ∀ j : Nat, hy_st U i v 52 j = if j = i.toNatClampNeg then v else U 52 j := by
  obtain ⟨v1, v2, v3⟩ := hv
  have e : (hp_w U 52 i.toNatClampNeg v) 47 5 = U 47 5 := by rw [hp_wo _ _ _ _ _ (by omega)]
  refine ⟨⟨fun j a b => ?_, fun j a => ?_, ?_⟩, fun j => ?_⟩
  · unfold hy_st
    rw [hp_wo _ _ _ _ _ a, hp_wo _ _ _ _ _ b]
    exact v1 j a b
  · unfold hy_st
    rw [hr_w0' _ _ _ _ _ a, hp_wo _ _ _ _ _ (by omega)]
    exact v2 j a
  · unfold hy_st
    rw [hr_w0s, e, hr_up v3 (by omega)]
  · unfold hy_st
    rw [hp_wo _ _ _ _ _ (by omega), hp_ws]
    rfl
theorem hy_n0 (hv : hy_v S U p) (i v : Int32) : hy_v S (hp_w U 52 i.toNatClampNeg v) p := ⟨fun j a b => by rw [hp_wo _ _ _ _ _ b]; exact hv.1 j a b, fun j a => by rw [hp_wo _ _ _ _ _ (by omega)]; exact hv.2.1 j a, by rw [hp_wo _ _ _ _ _ (by omega)]; exact hv.2.2⟩
/-- a number of one digit -/
theorem hy_101a (hr : hy_r S n) (hv : hy_v S U p) (hp : p ≤ n) (i : Int32) (hi : 0 ≤ i.toInt) :
    (hy_d S n p → (hq_101 U i (Int32.ofInt 1)).1 = Int32.ofInt 1 ∧ hy_v S (hq_101 U i (Int32.ofInt 1)).2 (p + 1) ∧ ∀ j : Nat, (hq_101 U i (Int32.ofInt 1)).2 52 j = if j = i.toNatClampNeg then hy_x S p - Int32.ofInt 48 else U 52 j) ∧
    (¬ hy_d S n p → (hq_101 U i (Int32.ofInt 1)).1 = Int32.ofInt 0 ∧ hy_v S (hq_101 U i (Int32.ofInt 1)).2 p) := by
  have h100 := hr.2.1
  have v0 := hy_n0 hv i (Int32.ofInt 0)
  have e0 : (hp_w U 52 i.toNatClampNeg (Int32.ofInt 0)) 52 i.toNatClampNeg = Int32.ofInt 0 := hr_w0s _ _ _ _
  have fu : ((Int32.ofInt 1).toInt - (Int32.ofInt 0).toInt).toNat + 1 = 2 := by decide
  unfold hq_101
  rw [fu, hq_101_9, if_neg (show ¬ (hz_cmp .ge (Int32.ofInt 0) (Int32.ofInt 1) = true) by decide), hy_isd hr v0 (by omega), e0]
  constructor
  · intro hd
    have hd' := (hy_dig hr v0 (by omega)).mpr hd
    rw [hr_iN hd', hq_101_9, if_pos (show hz_cmp .ge (Int32.ofInt 0 + Int32.ofInt 1) (Int32.ofInt 1) = true by decide)]
    have e100 := hy_100 hr v0 (by omega)
    rw [if_neg (by have := hd.1; omega)] at e100
    have s := hy_sv hr v0 (by omega) i (Int32.ofInt 10 * Int32.ofInt 0 + hq_100 (hp_w U 52 i.toNatClampNeg (Int32.ofInt 0)) - Int32.ofInt 48)
    refine ⟨rfl, s.1, fun j => (s.2 j).trans ?_⟩
    rw [e100]
    by_cases q : j = i.toNatClampNeg
    · rw [if_pos q, if_pos q, show Int32.ofInt 10 * Int32.ofInt 0 = 0 by decide, Int32.zero_add]
    · rw [if_neg q, if_neg q, hp_ws, hr_ub q]
  · intro hd
    have hd' : ¬ _ := fun q => hd ((hy_dig hr v0 (by omega)).mp q)
    rw [hr_iNn hd']
    exact ⟨rfl, v0⟩
/-- of two -/
theorem hy_101b (hr : hy_r S n) (hv : hy_v S U p) (hp : p ≤ n) (i : Int32) (hi : 0 ≤ i.toInt) :
    (hy_d S n p → hy_d S n (p + 1) → (hq_101 U i (Int32.ofInt 2)).1 = Int32.ofInt 1 ∧ hy_v S (hq_101 U i (Int32.ofInt 2)).2 (p + 2) ∧ ∀ j : Nat, (hq_101 U i (Int32.ofInt 2)).2 52 j = if j = i.toNatClampNeg then Int32.ofInt 10 * (hy_x S p - Int32.ofInt 48) + hy_x S (p + 1) - Int32.ofInt 48 else U 52 j) ∧
    (hy_d S n p → ¬ hy_d S n (p + 1) → (hq_101 U i (Int32.ofInt 2)).1 = Int32.ofInt 0 ∧ hy_v S (hq_101 U i (Int32.ofInt 2)).2 (p + 1)) ∧
    (¬ hy_d S n p → (hq_101 U i (Int32.ofInt 2)).1 = Int32.ofInt 0 ∧ hy_v S (hq_101 U i (Int32.ofInt 2)).2 p) := by
  have h100 := hr.2.1
  have v0 := hy_n0 hv i (Int32.ofInt 0)
  have e0 : (hp_w U 52 i.toNatClampNeg (Int32.ofInt 0)) 52 i.toNatClampNeg = Int32.ofInt 0 := hr_w0s _ _ _ _
  have fu : ((Int32.ofInt 2).toInt - (Int32.ofInt 0).toInt).toNat + 1 = 3 := by decide
  have e100 := hy_100 hr v0 (by omega)
  have s := hy_sv hr v0 (by omega) i (Int32.ofInt 10 * Int32.ofInt 0 + hq_100 (hp_w U 52 i.toNatClampNeg (Int32.ofInt 0)) - Int32.ofInt 48)
  unfold hq_101
  rw [fu, hq_101_9, if_neg (show ¬ (hz_cmp .ge (Int32.ofInt 0) (Int32.ofInt 2) = true) by decide), hy_isd hr v0 (by omega), e0]
  refine ⟨fun hd hd2 => ?_, fun hd hd2 => ?_, fun hd => ?_⟩
  · have hd' := (hy_dig hr v0 (by omega)).mpr hd
    rw [if_neg (by have := hd.1; omega)] at e100
    rw [hr_iN hd', hq_101_9, if_neg (show ¬ (hz_cmp .ge (Int32.ofInt 0 + Int32.ofInt 1) (Int32.ofInt 2) = true) by decide)]
    have hp1 : p + 1 ≤ 100 := by have := hd.1; omega
    have e2 := hy_100 hr s.1 hp1
    rw [if_neg (by have := hd2.1; omega)] at e2
    have hd2' := (hy_dig hr s.1 hp1).mpr hd2
    have t := hy_sv hr s.1 hp1 i (Int32.ofInt 10 * (hy_st (hp_w U 52 i.toNatClampNeg (Int32.ofInt 0)) i (Int32.ofInt 10 * Int32.ofInt 0 + hq_100 (hp_w U 52 i.toNatClampNeg (Int32.ofInt 0)) - Int32.ofInt 48)) 52 i.toNatClampNeg + hq_100 (hy_st (hp_w U 52 i.toNatClampNeg (Int32.ofInt 0)) i (Int32.ofInt 10 * Int32.ofInt 0 + hq_100 (hp_w U 52 i.toNatClampNeg (Int32.ofInt 0)) - Int32.ofInt 48)) - Int32.ofInt 48)
    have x := hy_isd hr s.1 hp1 (hy_st (hp_w U 52 i.toNatClampNeg (Int32.ofInt 0)) i (Int32.ofInt 10 * Int32.ofInt 0 + hq_100 (hp_w U 52 i.toNatClampNeg (Int32.ofInt 0)) - Int32.ofInt 48))
    unfold hy_st at x hd2' t e2 s
    rw [x, hr_iN hd2', hq_101_9, if_pos (show hz_cmp .ge (Int32.ofInt 0 + Int32.ofInt 1 + Int32.ofInt 1) (Int32.ofInt 2) = true by decide)]
    refine ⟨rfl, t.1, fun j => (t.2 j).trans ?_⟩
    rw [e2, s.2 j, s.2 i.toNatClampNeg, if_pos rfl, e100]
    by_cases q : j = i.toNatClampNeg
    · rw [if_pos q, if_pos q, show Int32.ofInt 10 * Int32.ofInt 0 = 0 by decide, Int32.zero_add]
    · rw [if_neg q, if_neg q, if_neg q, hp_ws, hr_ub q]
  · have hd' := (hy_dig hr v0 (by omega)).mpr hd
    rw [hr_iN hd', hq_101_9, if_neg (show ¬ (hz_cmp .ge (Int32.ofInt 0 + Int32.ofInt 1) (Int32.ofInt 2) = true) by decide)]
    have hp1 : p + 1 ≤ 100 := by have := hd.1; omega
    have hd2' : ¬ _ := fun q => hd2 ((hy_dig hr s.1 hp1).mp q)
    have x := hy_isd hr s.1 hp1 (hy_st (hp_w U 52 i.toNatClampNeg (Int32.ofInt 0)) i (Int32.ofInt 10 * Int32.ofInt 0 + hq_100 (hp_w U 52 i.toNatClampNeg (Int32.ofInt 0)) - Int32.ofInt 48))
    have s1 := s.1
    unfold hy_st at x hd2' s1
    rw [x, hr_iNn hd2']
    exact ⟨rfl, s1⟩
  · have hd' : ¬ _ := fun q => hd ((hy_dig hr v0 (by omega)).mp q)
    rw [hr_iNn hd']
    exact ⟨rfl, v0⟩
end HR

section HR
variable {S T U : hp_S} {k p n : Nat}
/-- L digits from p, then a semicolon: none, or the first place that is wrong -/
def hy_sc (S : hp_S) (n : Nat) : Nat → Nat → Option Nat
  | 0, p => if p < n ∧ hy_x S p = Int32.ofInt 59 then none else some p
  | L + 1, p => if p < n ∧ 48 ≤ (hy_x S p).toInt ∧ (hy_x S p).toInt ≤ 57 then hy_sc S n L (p + 1) else some p
/-- how many digits a letter has -/
def hy_L (c : Int32) : Nat := if c = Int32.ofInt 104 then 3 else if c = Int32.ofInt 105 then 2 else if c = Int32.ofInt 108 then 2 else if c = Int32.ofInt 112 then 3 else if c = Int32.ofInt 116 then 2 else if c = Int32.ofInt 119 then 3 else 0
def hy_ok (S : hp_S) (n L p : Nat) (N : (Nat → Int32) → Prop) (R : Int32 × hp_S) : Prop := (hy_sc S n L p = none → R.1 = Int32.ofInt 1 ∧ hy_v S R.2 (p + L + 1) ∧ N (R.2 52)) ∧ ∀ q : Nat, hy_sc S n L p = some q → R.1 = Int32.ofInt 0 ∧ hy_v S R.2 q
def hy_eA (U : hp_S) (c : Int32) : Int32 × hp_S := (if hz_cmp .eq (hq_101 U (Int32.ofInt 0) (Int32.ofInt 1)).1 0 = true then (hq_102_208 ((hq_101 U (Int32.ofInt 0) (Int32.ofInt 1)).2) c ((Int32.ofInt 0))) else (if hz_cmp .eq (hq_101 ((hq_101 U (Int32.ofInt 0) (Int32.ofInt 1)).2) (Int32.ofInt 1) (Int32.ofInt 1)).1 0 = true then (hq_102_208 ((hq_101 ((hq_101 U (Int32.ofInt 0) (Int32.ofInt 1)).2) (Int32.ofInt 1) (Int32.ofInt 1)).2) c ((Int32.ofInt 0))) else (if hz_cmp .eq (hq_101 ((hq_101 ((hq_101 U (Int32.ofInt 0) (Int32.ofInt 1)).2) (Int32.ofInt 1) (Int32.ofInt 1)).2) (Int32.ofInt 2) (Int32.ofInt 1)).1 0 = true then (hq_102_208 ((hq_101 ((hq_101 ((hq_101 U (Int32.ofInt 0) (Int32.ofInt 1)).2) (Int32.ofInt 1) (Int32.ofInt 1)).2) (Int32.ofInt 2) (Int32.ofInt 1)).2) c ((Int32.ofInt 0))) else (hq_102_208 ((hq_101 ((hq_101 ((hq_101 U (Int32.ofInt 0) (Int32.ofInt 1)).2) (Int32.ofInt 1) (Int32.ofInt 1)).2) (Int32.ofInt 2) (Int32.ofInt 1)).2) c ((Int32.ofInt 1))))))
def hy_eB (U : hp_S) (c : Int32) : Int32 × hp_S := (if hz_cmp .eq (hq_101 U (Int32.ofInt 0) (Int32.ofInt 1)).1 0 = true then (hq_102_208 ((hq_101 U (Int32.ofInt 0) (Int32.ofInt 1)).2) c ((Int32.ofInt 0))) else (if hz_cmp .eq (hq_101 ((hq_101 U (Int32.ofInt 0) (Int32.ofInt 1)).2) (Int32.ofInt 1) (Int32.ofInt 1)).1 0 = true then (hq_102_208 ((hq_101 ((hq_101 U (Int32.ofInt 0) (Int32.ofInt 1)).2) (Int32.ofInt 1) (Int32.ofInt 1)).2) c ((Int32.ofInt 0))) else (hq_102_208 ((hq_101 ((hq_101 U (Int32.ofInt 0) (Int32.ofInt 1)).2) (Int32.ofInt 1) (Int32.ofInt 1)).2) c ((Int32.ofInt 1)))))
def hy_eC (U : hp_S) (c : Int32) : Int32 × hp_S := (hq_102_208 ((hq_101 U (Int32.ofInt 0) (Int32.ofInt 2)).2) c ((hq_101 U (Int32.ofInt 0) (Int32.ofInt 2)).1))
def hy_eD (U : hp_S) (c : Int32) : Int32 × hp_S := (if hz_cmp .eq (hq_101 U (Int32.ofInt 0) (Int32.ofInt 2)).1 0 = true then (hq_102_208 ((hq_101 U (Int32.ofInt 0) (Int32.ofInt 2)).2) c ((Int32.ofInt 0))) else (if hz_cmp .eq (hq_101 ((hq_101 U (Int32.ofInt 0) (Int32.ofInt 2)).2) (Int32.ofInt 1) (Int32.ofInt 1)).1 0 = true then (hq_102_208 ((hq_101 ((hq_101 U (Int32.ofInt 0) (Int32.ofInt 2)).2) (Int32.ofInt 1) (Int32.ofInt 1)).2) c ((Int32.ofInt 0))) else (hq_102_208 ((hq_101 ((hq_101 U (Int32.ofInt 0) (Int32.ofInt 2)).2) (Int32.ofInt 1) (Int32.ofInt 1)).2) c ((Int32.ofInt 1)))))
theorem hy_102 (U : hp_S) : hq_102 U = (if hq_100 U = Int32.ofInt 104 then hy_eA (hp_w U 47 5 (U 47 5 + Int32.ofInt 1)) (hq_100 U) else if hq_100 U = Int32.ofInt 105 then hy_eB (hp_w U 47 5 (U 47 5 + Int32.ofInt 1)) (hq_100 U) else if hq_100 U = Int32.ofInt 108 then hy_eC (hp_w U 47 5 (U 47 5 + Int32.ofInt 1)) (hq_100 U) else if hq_100 U = Int32.ofInt 112 then hy_eD (hp_w U 47 5 (U 47 5 + Int32.ofInt 1)) (hq_100 U) else if hq_100 U = Int32.ofInt 116 then hy_eC (hp_w U 47 5 (U 47 5 + Int32.ofInt 1)) (hq_100 U) else if hq_100 U = Int32.ofInt 119 then hy_eD (hp_w U 47 5 (U 47 5 + Int32.ofInt 1)) (hq_100 U) else (Int32.ofInt 0, hp_w (hp_w U 47 5 (U 47 5 + Int32.ofInt 1)) 47 5 ((hp_w U 47 5 (U 47 5 + Int32.ofInt 1)) 47 5 - Int32.ofInt 1))) := rfl
theorem hy_208f (U : hp_S) (c : Int32) : hq_102_208 U c (Int32.ofInt 0) = (Int32.ofInt 0, U) := by
  unfold hq_102_208
  rw [if_pos (by decide)]
theorem hy_208t (hr : hy_r S n) (hv : hy_v S U p) (hp : p ≤ n) (c : Int32) : (p < n ∧ hy_x S p = Int32.ofInt 59 → (hq_102_208 U c (Int32.ofInt 1)).1 = Int32.ofInt 1 ∧ hy_v S (hq_102_208 U c (Int32.ofInt 1)).2 (p + 1) ∧ (hq_102_208 U c (Int32.ofInt 1)).2 52 = U 52) ∧ (¬ (p < n ∧ hy_x S p = Int32.ofInt 59) → hq_102_208 U c (Int32.ofInt 1) = (Int32.ofInt 0, U)) := by
  have h100 := hr.2.1
  have e := hy_100 hr hv (by omega)
  unfold hq_102_208
  rw [if_neg (show ¬ (hz_cmp .eq (Int32.ofInt 1) 0 = true) by decide)]
  refine ⟨fun h => ?_, fun h => ?_⟩
  · rw [if_neg (by omega)] at e
    rw [if_pos (by rw [hr_eq, e]; exact h.2)]
    dsimp only
    refine ⟨rfl, ⟨fun j a b => ?_, fun j a => ?_, ?_⟩, ?_⟩
    · rw [hp_wo _ _ _ _ _ a]; exact hv.1 j a b
    · rw [hr_w0' _ _ _ _ _ a]; exact hv.2.1 j a
    · rw [hr_w0s, hr_up hv.2.2 (by omega)]
    · rw [hp_wo _ _ _ _ _ (by omega)]
  · rw [if_neg]
    rw [hr_eq, e]
    by_cases q : n ≤ p
    · rw [if_pos q]; decide
    · rw [if_neg q]
      exact fun z => h ⟨by omega, z⟩
theorem hy_nat0 : (Int32.ofInt 0).toNatClampNeg = 0 := by decide
theorem hy_z0 : ¬ (hz_cmp .eq (Int32.ofInt 1) 0 = true) := by decide
theorem hy_z1 : hz_cmp .eq (Int32.ofInt 0) 0 = true := by decide
/-- digits are over: a semicolon -/
theorem hy_end (hr : hy_r S n) (hv : hy_v S U p) (hp : p ≤ n) (c : Int32) {N : (Nat → Int32) → Prop} (hN : N (U 52)) : (hy_sc S n 0 p = none → (hq_102_208 U c (Int32.ofInt 1)).1 = Int32.ofInt 1 ∧ hy_v S (hq_102_208 U c (Int32.ofInt 1)).2 (p + 1) ∧ N ((hq_102_208 U c (Int32.ofInt 1)).2 52)) ∧ ∀ q : Nat, hy_sc S n 0 p = some q → (hq_102_208 U c (Int32.ofInt 1)).1 = Int32.ofInt 0 ∧ hy_v S (hq_102_208 U c (Int32.ofInt 1)).2 q := by
  have h := hy_208t hr hv hp c
  unfold hy_sc
  by_cases q : p < n ∧ hy_x S p = Int32.ofInt 59
  · rw [if_pos q]
    obtain ⟨a, b, d⟩ := h.1 q
    exact ⟨fun _ => ⟨a, b, by rw [d]; exact hN⟩, fun q e => (by cases e)⟩
  · rw [if_neg q, h.2 q]
    exact ⟨fun e => (by cases e), fun q e => (by cases e; exact ⟨rfl, hv⟩)⟩
theorem hy_fail (hv : hy_v S U p) (c : Int32) {L : Nat} {N : (Nat → Int32) → Prop} {s : Nat} (h : hy_sc S n L s = some p) : hy_ok S n L s N (hq_102_208 U c (Int32.ofInt 0)) := by
  rw [hy_208f]
  unfold hy_ok
  rw [h]
  exact ⟨fun e => (by cases e), fun q e => (by cases e; exact ⟨rfl, hv⟩)⟩
theorem hy_sc1 {L : Nat} (h : hy_d S n p) : hy_sc S n (L + 1) p = hy_sc S n L (p + 1) := if_pos h
theorem hy_sc0 {L : Nat} (h : ¬ hy_d S n p) : hy_sc S n (L + 1) p = some p := if_neg h
theorem hy_kB (hr : hy_r S n) (hv : hy_v S U p) (hp : p ≤ n) (c : Int32) : hy_ok S n 2 p (fun m => m 0 = hy_x S p - Int32.ofInt 48 ∧ m 1 = hy_x S (p + 1) - Int32.ofInt 48) (hy_eB U c) := by
  have a := hy_101a hr hv hp (Int32.ofInt 0) (by decide)
  unfold hy_eB
  by_cases d : hy_d S n p
  · obtain ⟨e1, w1, m1⟩ := a.1 d
    rw [e1, if_neg hy_z0]
    generalize (hq_101 U (Int32.ofInt 0) (Int32.ofInt 1)).2 = U1 at *
    have a2 := hy_101a hr w1 (by have := d.1; omega) (Int32.ofInt 1) (by decide)
    by_cases d2 : hy_d S n (p + 1)
    · obtain ⟨e2, w2, m2⟩ := a2.1 d2
      rw [e2, if_neg hy_z0]
      generalize (hq_101 U1 (Int32.ofInt 1) (Int32.ofInt 1)).2 = U2 at *
      unfold hy_ok
      rw [hy_sc1 d, hy_sc1 d2]
      refine hy_end (N := (fun m => m 0 = hy_x S p - Int32.ofInt 48 ∧ m 1 = hy_x S (p + 1) - Int32.ofInt 48)) hr w2 (by have := d2.1; omega) c ⟨?_, ?_⟩
      · rw [m2, if_neg (by decide), m1, if_pos (by decide)]
      · rw [m2, if_pos (by decide)]
    · obtain ⟨e2, w2⟩ := a2.2 d2
      rw [e2, if_pos hy_z1]
      exact hy_fail w2 c (by rw [hy_sc1 d, hy_sc0 d2])
  · obtain ⟨e1, w1⟩ := a.2 d
    rw [e1, if_pos hy_z1]
    exact hy_fail w1 c (hy_sc0 d)
theorem hy_kA (hr : hy_r S n) (hv : hy_v S U p) (hp : p ≤ n) (c : Int32) : hy_ok S n 3 p (fun m => m 0 = hy_x S p - Int32.ofInt 48 ∧ m 1 = hy_x S (p + 1) - Int32.ofInt 48 ∧ m 2 = hy_x S (p + 2) - Int32.ofInt 48) (hy_eA U c) := by
  have a := hy_101a hr hv hp (Int32.ofInt 0) (by decide)
  unfold hy_eA
  by_cases d : hy_d S n p
  · obtain ⟨e1, w1, m1⟩ := a.1 d
    rw [e1, if_neg hy_z0]
    generalize (hq_101 U (Int32.ofInt 0) (Int32.ofInt 1)).2 = U1 at *
    have a2 := hy_101a hr w1 (by have := d.1; omega) (Int32.ofInt 1) (by decide)
    by_cases d2 : hy_d S n (p + 1)
    · obtain ⟨e2, w2, m2⟩ := a2.1 d2
      rw [e2, if_neg hy_z0]
      generalize (hq_101 U1 (Int32.ofInt 1) (Int32.ofInt 1)).2 = U2 at *
      have a3 := hy_101a hr w2 (by have := d2.1; omega) (Int32.ofInt 2) (by decide)
      by_cases d3 : hy_d S n (p + 1 + 1)
      · obtain ⟨e3, w3, m3⟩ := a3.1 d3
        rw [e3, if_neg hy_z0]
        generalize (hq_101 U2 (Int32.ofInt 2) (Int32.ofInt 1)).2 = U3 at *
        unfold hy_ok
        rw [hy_sc1 d, hy_sc1 d2, hy_sc1 d3]
        refine hy_end (N := (fun m => m 0 = hy_x S p - Int32.ofInt 48 ∧ m 1 = hy_x S (p + 1) - Int32.ofInt 48 ∧ m 2 = hy_x S (p + 2) - Int32.ofInt 48)) hr w3 (by have := d3.1; omega) c ⟨?_, ?_, ?_⟩
        · rw [m3, if_neg (by decide), m2, if_neg (by decide), m1, if_pos (by decide)]
        · rw [m3, if_neg (by decide), m2, if_pos (by decide)]
        · rw [m3, if_pos (by decide)]
      · obtain ⟨e3, w3⟩ := a3.2 d3
        rw [e3, if_pos hy_z1]
        exact hy_fail w3 c (by rw [hy_sc1 d, hy_sc1 d2, hy_sc0 d3])
    · obtain ⟨e2, w2⟩ := a2.2 d2
      rw [e2, if_pos hy_z1]
      exact hy_fail w2 c (by rw [hy_sc1 d, hy_sc0 d2])
  · obtain ⟨e1, w1⟩ := a.2 d
    rw [e1, if_pos hy_z1]
    exact hy_fail w1 c (hy_sc0 d)
theorem hy_kC (hr : hy_r S n) (hv : hy_v S U p) (hp : p ≤ n) (c : Int32) : hy_ok S n 2 p (fun m => m 0 = Int32.ofInt 10 * (hy_x S p - Int32.ofInt 48) + hy_x S (p + 1) - Int32.ofInt 48) (hy_eC U c) := by
  have a := hy_101b hr hv hp (Int32.ofInt 0) (by decide)
  unfold hy_eC
  by_cases d : hy_d S n p
  · by_cases d2 : hy_d S n (p + 1)
    · obtain ⟨e1, w1, m1⟩ := a.1 d d2
      rw [e1]
      generalize (hq_101 U (Int32.ofInt 0) (Int32.ofInt 2)).2 = U1 at *
      unfold hy_ok
      rw [hy_sc1 d, hy_sc1 d2]
      refine hy_end (N := (fun m => m 0 = Int32.ofInt 10 * (hy_x S p - Int32.ofInt 48) + hy_x S (p + 1) - Int32.ofInt 48)) hr w1 (by have := d2.1; omega) c ?_
      rw [m1, if_pos (by decide)]
    · obtain ⟨e1, w1⟩ := a.2.1 d d2
      rw [e1]
      exact hy_fail w1 c (by rw [hy_sc1 d, hy_sc0 d2])
  · obtain ⟨e1, w1⟩ := a.2.2 d
    rw [e1]
    exact hy_fail w1 c (hy_sc0 d)
theorem hy_kD (hr : hy_r S n) (hv : hy_v S U p) (hp : p ≤ n) (c : Int32) : hy_ok S n 3 p (fun m => m 0 = Int32.ofInt 10 * (hy_x S p - Int32.ofInt 48) + hy_x S (p + 1) - Int32.ofInt 48 ∧ m 1 = hy_x S (p + 2) - Int32.ofInt 48) (hy_eD U c) := by
  have a := hy_101b hr hv hp (Int32.ofInt 0) (by decide)
  unfold hy_eD
  by_cases d : hy_d S n p
  · by_cases d2 : hy_d S n (p + 1)
    · obtain ⟨e1, w1, m1⟩ := a.1 d d2
      rw [e1, if_neg hy_z0]
      generalize (hq_101 U (Int32.ofInt 0) (Int32.ofInt 2)).2 = U1 at *
      have a3 := hy_101a hr w1 (by have := d2.1; omega) (Int32.ofInt 1) (by decide)
      by_cases d3 : hy_d S n (p + 2)
      · obtain ⟨e3, w3, m3⟩ := a3.1 d3
        rw [e3, if_neg hy_z0]
        generalize (hq_101 U1 (Int32.ofInt 1) (Int32.ofInt 1)).2 = U3 at *
        unfold hy_ok
        rw [hy_sc1 d, hy_sc1 d2, hy_sc1 d3]
        refine hy_end (N := (fun m => m 0 = Int32.ofInt 10 * (hy_x S p - Int32.ofInt 48) + hy_x S (p + 1) - Int32.ofInt 48 ∧ m 1 = hy_x S (p + 2) - Int32.ofInt 48)) hr w3 (by have := d3.1; omega) c ⟨?_, ?_⟩
        · rw [m3, if_neg (by decide), m1, if_pos (by decide)]
        · rw [m3, if_pos (by decide)]
      · obtain ⟨e3, w3⟩ := a3.2 d3
        rw [e3, if_pos hy_z1]
        exact hy_fail w3 c (by rw [hy_sc1 d, hy_sc1 d2, hy_sc0 d3])
    · obtain ⟨e1, w1⟩ := a.2.1 d d2
      rw [e1, if_pos hy_z1]
      exact hy_fail w1 c (by rw [hy_sc1 d, hy_sc0 d2])
  · obtain ⟨e1, w1⟩ := a.2.2 d
    rw [e1, if_pos hy_z1]
    exact hy_fail w1 c (hy_sc0 d)
end HR

section HR
variable {S T U : hp_S} {k p n : Nat}
/-- the numbers of a statement -/
def hy_N (S : hp_S) (p : Nat) (m : Nat → Int32) : Prop :=
  (hy_x S p = Int32.ofInt 104 → m 0 = hy_x S (p + 1) - Int32.ofInt 48 ∧ m 1 = hy_x S (p + 2) - Int32.ofInt 48 ∧ m 2 = hy_x S (p + 3) - Int32.ofInt 48) ∧
  (hy_x S p = Int32.ofInt 105 → m 0 = hy_x S (p + 1) - Int32.ofInt 48 ∧ m 1 = hy_x S (p + 2) - Int32.ofInt 48) ∧
  (hy_x S p = Int32.ofInt 108 ∨ hy_x S p = Int32.ofInt 116 → m 0 = Int32.ofInt 10 * (hy_x S (p + 1) - Int32.ofInt 48) + hy_x S (p + 2) - Int32.ofInt 48) ∧
  (hy_x S p = Int32.ofInt 112 ∨ hy_x S p = Int32.ofInt 119 → m 0 = Int32.ofInt 10 * (hy_x S (p + 1) - Int32.ofInt 48) + hy_x S (p + 2) - Int32.ofInt 48 ∧ m 1 = hy_x S (p + 3) - Int32.ofInt 48)
theorem hy_okm {L : Nat} {N N' : (Nat → Int32) → Prop} {R : Int32 × hp_S} (h : hy_ok S n L p N R) (hN : ∀ m, N m → N' m) : hy_ok S n L p N' R := ⟨fun e => ⟨(h.1 e).1, (h.1 e).2.1, hN _ (h.1 e).2.2⟩, h.2⟩
theorem hy_v1 (hv : hy_v S U p) (hp : p ≤ 100) : hy_v S (hp_w U 47 5 (U 47 5 + Int32.ofInt 1)) (p + 1) := ⟨fun j a b => by rw [hp_wo _ _ _ _ _ a]; exact hv.1 j a b, fun j a => by rw [hr_w0' _ _ _ _ _ a]; exact hv.2.1 j a, by rw [hr_w0s, hr_up hv.2.2 (by omega)]⟩
theorem hy_102s (hr : hy_r S n) (hv : hy_v S U p) (hp : p < n) (hL : hy_L (hy_x S p) ≠ 0) : hy_ok S n (hy_L (hy_x S p)) (p + 1) (hy_N S p) (hq_102 U) := by
  have h100 := hr.2.1
  have e := hy_100 hr hv (by omega)
  rw [if_neg (by omega)] at e
  have v1 := hy_v1 hv (by omega)
  rw [hy_102, e]
  unfold hy_L at hL ⊢
  by_cases c1 : hy_x S p = Int32.ofInt 104
  · rw [if_pos c1, if_pos c1]
    refine hy_okm (hy_kA hr v1 (by omega) _) (fun m h => ⟨fun _ => h, fun q => ?_, fun q => ?_, fun q => ?_⟩)
    · rw [c1] at q; exact absurd q (by decide)
    · rw [c1] at q; exact absurd q (by decide)
    · rw [c1] at q; exact absurd q (by decide)
  rw [if_neg c1] at hL
  rw [if_neg c1, if_neg c1]
  by_cases c2 : hy_x S p = Int32.ofInt 105
  · rw [if_pos c2, if_pos c2]
    refine hy_okm (hy_kB hr v1 (by omega) _) (fun m h => ⟨fun q => absurd q c1, fun _ => h, fun q => ?_, fun q => ?_⟩)
    · rw [c2] at q; exact absurd q (by decide)
    · rw [c2] at q; exact absurd q (by decide)
  rw [if_neg c2] at hL
  rw [if_neg c2, if_neg c2]
  by_cases c3 : hy_x S p = Int32.ofInt 108
  · rw [if_pos c3, if_pos c3]
    refine hy_okm (hy_kC hr v1 (by omega) _) (fun m h => ⟨fun q => absurd q c1, fun q => absurd q c2, fun _ => h, fun q => ?_⟩)
    · rw [c3] at q; exact absurd q (by decide)
  rw [if_neg c3] at hL
  rw [if_neg c3, if_neg c3]
  by_cases c4 : hy_x S p = Int32.ofInt 112
  · rw [if_pos c4, if_pos c4]
    refine hy_okm (hy_kD hr v1 (by omega) _) (fun m h => ⟨fun q => absurd q c1, fun q => absurd q c2, fun q => ?_, fun _ => h⟩)
    · rw [c4] at q; exact absurd q (by decide)
  rw [if_neg c4] at hL
  rw [if_neg c4, if_neg c4]
  by_cases c5 : hy_x S p = Int32.ofInt 116
  · rw [if_pos c5, if_pos c5]
    refine hy_okm (hy_kC hr v1 (by omega) _) (fun m h => ⟨fun q => absurd q c1, fun q => absurd q c2, fun _ => h, fun q => ?_⟩)
    · rw [c5] at q; exact absurd q (by decide)
  rw [if_neg c5] at hL
  rw [if_neg c5, if_neg c5]
  by_cases c6 : hy_x S p = Int32.ofInt 119
  · rw [if_pos c6, if_pos c6]
    refine hy_okm (hy_kD hr v1 (by omega) _) (fun m h => ⟨fun q => absurd q c1, fun q => absurd q c2, fun q => ?_, fun _ => h⟩)
    · rw [c6] at q; exact absurd q (by decide)
  · rw [if_neg c6] at hL
    exact absurd rfl hL
theorem hy_102z (hr : hy_r S n) (hv : hy_v S U p) (hp : p ≤ n) (hL : p = n ∨ hy_L (hy_x S p) = 0) : (hq_102 U).1 = Int32.ofInt 0 ∧ hy_v S (hq_102 U).2 p := by
  have h100 := hr.2.1
  have e := hy_100 hr hv (by omega)
  have no : ∀ z : Int, (z = 104 ∨ z = 105 ∨ z = 108 ∨ z = 112 ∨ z = 116 ∨ z = 119) → hq_100 U ≠ Int32.ofInt z := by
    intro z hz q
    rw [e] at q
    by_cases w : n ≤ p
    · rw [if_pos w] at q
      rcases hz with rfl | rfl | rfl | rfl | rfl | rfl <;> exact absurd q (by decide)
    · rw [if_neg w] at q
      rcases hL with h | h
      · omega
      · rw [q] at h
        rcases hz with rfl | rfl | rfl | rfl | rfl | rfl <;> exact absurd h (by decide)
  rw [hy_102, if_neg (no 104 (by omega)), if_neg (no 105 (by omega)), if_neg (no 108 (by omega)), if_neg (no 112 (by omega)), if_neg (no 116 (by omega)), if_neg (no 119 (by omega))]
  refine ⟨rfl, fun j a b => ?_, fun j a => ?_, ?_⟩
  · dsimp only; rw [hp_wo _ _ _ _ _ a, hp_wo _ _ _ _ _ a]; exact hv.1 j a b
  · dsimp only; rw [hr_w0' _ _ _ _ _ a, hr_w0' _ _ _ _ _ a]; exact hv.2.1 j a
  · dsimp only
    rw [hr_w0s, hr_w0s, hr_m1 (by rw [hr_up hv.2.2 (by omega)]; omega), hr_up hv.2.2 (by omega)]
    omega
theorem hy_Lb (c : Int32) : hy_L c ≤ 3 := by
  unfold hy_L
  repeat' split
  all_goals omega
/-- a statement read stays within the row -/
theorem hy_scn {S : hp_S} {n : Nat} : ∀ (L p : Nat), hy_sc S n L p = none → p + L < n := by
  intro L
  induction L with
  | zero =>
    intro p h
    unfold hy_sc at h
    split at h
    · rename_i q; omega
    · cases h
  | succ L ih =>
    intro p h
    unfold hy_sc at h
    split at h
    · have := ih _ h; omega
    · cases h
theorem hy_scq {S : hp_S} {n : Nat} : ∀ (L p q : Nat), p ≤ n → hy_sc S n L p = some q → p ≤ q ∧ q ≤ n := by
  intro L
  induction L with
  | zero =>
    intro p q hp h
    unfold hy_sc at h
    split at h
    · cases h
    · cases h; omega
  | succ L ih =>
    intro p q hp h
    unfold hy_sc at h
    split at h
    · rename_i w
      have := ih _ _ (by omega) h
      omega
    · cases h; omega
theorem hy_rv (hr : hy_r S n) (hv : hy_v S U p) : hy_r U n := by
  unfold hy_r
  rw [hv.2.1 7 (by omega), hv.2.1 6 (by omega)]
  exact hr
theorem hy_xv (hv : hy_v S U p) (j : Nat) : hy_x U j = hy_x S j := by
  unfold hy_x
  rw [hv.2.1 6 (by omega), hv.1 58 (by omega) (by omega)]
theorem hy_self (h : (S 47 5).toInt = p) : hy_v S S p := ⟨fun _ _ _ => rfl, fun _ _ => rfl, h⟩
/-- the place, the row's end: what the loops keep -/
def hy_i (S : hp_S) : Prop := ∃ n p : Nat, hy_r S n ∧ (S 47 5).toInt = p ∧ p ≤ n
theorem hy_prog (hi : hy_i S) : hy_i (hq_102 S).2 ∧ (hq_102 S).2 47 7 = S 47 7 ∧ (hz_cmp .ne (hq_102 S).1 0 = true → (S 47 5).toInt < ((hq_102 S).2 47 5).toInt) := by
  obtain ⟨n, p, hr, h5, hp⟩ := hi
  have hv := hy_self h5
  by_cases z : p = n ∨ hy_L (hy_x S p) = 0
  · obtain ⟨a, v⟩ := hy_102z hr hv hp z
    exact ⟨⟨n, p, hy_rv hr v, v.2.2, hp⟩, v.2.1 7 (by omega), fun q => by rw [a] at q; exact absurd q (by decide)⟩
  · have z1 : p < n := by omega
    have z2 : hy_L (hy_x S p) ≠ 0 := fun w => z (Or.inr w)
    obtain ⟨o1, o2⟩ := hy_102s hr hv z1 z2
    cases e : hy_sc S n (hy_L (hy_x S p)) (p + 1) with
    | none =>
      obtain ⟨a, v, _⟩ := o1 e
      have := hy_scn _ _ e
      exact ⟨⟨n, _, hy_rv hr v, v.2.2, by omega⟩, v.2.1 7 (by omega), fun _ => by rw [v.2.2]; omega⟩
    | some q =>
      obtain ⟨a, v⟩ := o2 q e
      have := hy_scq _ _ _ (by omega) e
      exact ⟨⟨n, q, hy_rv hr v, v.2.2, this.2⟩, v.2.1 7 (by omega), fun w => by rw [a] at w; exact absurd w (by decide)⟩
/-- all statements from a place on are well formed -/
def hy_wf (S : hp_S) (n : Nat) : Nat → Nat → Prop
  | 0, p => p = n
  | m + 1, p => p = n ∨ (p < n ∧ hy_L (hy_x S p) ≠ 0 ∧ hy_sc S n (hy_L (hy_x S p)) (p + 1) = none ∧ hy_wf S n m (p + hy_L (hy_x S p) + 2))
end HR

