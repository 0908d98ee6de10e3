section HR
variable {S T U : hp_S} {k p n e : Nat}
/-! THE TEXT, as the class reads it: bytes with a sign -/
/-- a byte with its sign -/
def hy_by (t : Int32) : Prop := -128 ≤ t.toInt ∧ t.toInt ≤ 127
theorem hy_byte {t : Int32} (h : hy_by t) : (t &&& Int32.ofInt 255 = Int32.ofInt 104 ↔ t = Int32.ofInt 104) ∧ (t &&& Int32.ofInt 255 = Int32.ofInt 105 ↔ t = Int32.ofInt 105) ∧ (t &&& Int32.ofInt 255 = Int32.ofInt 108 ↔ t = Int32.ofInt 108) ∧ (t &&& Int32.ofInt 255 = Int32.ofInt 112 ↔ t = Int32.ofInt 112) ∧ (t &&& Int32.ofInt 255 = Int32.ofInt 116 ↔ t = Int32.ofInt 116) ∧ (t &&& Int32.ofInt 255 = Int32.ofInt 119 ↔ t = Int32.ofInt 119) ∧ (t &&& Int32.ofInt 255 = Int32.ofInt 59 ↔ t = Int32.ofInt 59) ∧ ((48 ≤ (t &&& Int32.ofInt 255).toInt ∧ (t &&& Int32.ofInt 255).toInt ≤ 57) ↔ (48 ≤ t.toInt ∧ t.toInt ≤ 57)) ∧ (48 ≤ t.toInt ∧ t.toInt ≤ 57 → t &&& Int32.ofInt 255 = t) := by
  have d : ∀ m < 256, ∀ t : Int32, t = Int32.ofInt (m : Nat) - Int32.ofInt 128 → (t &&& Int32.ofInt 255 = Int32.ofInt 104 ↔ t = Int32.ofInt 104) ∧ (t &&& Int32.ofInt 255 = Int32.ofInt 105 ↔ t = Int32.ofInt 105) ∧ (t &&& Int32.ofInt 255 = Int32.ofInt 108 ↔ t = Int32.ofInt 108) ∧ (t &&& Int32.ofInt 255 = Int32.ofInt 112 ↔ t = Int32.ofInt 112) ∧ (t &&& Int32.ofInt 255 = Int32.ofInt 116 ↔ t = Int32.ofInt 116) ∧ (t &&& Int32.ofInt 255 = Int32.ofInt 119 ↔ t = Int32.ofInt 119) ∧ (t &&& Int32.ofInt 255 = Int32.ofInt 59 ↔ t = Int32.ofInt 59) ∧ ((48 ≤ (t &&& Int32.ofInt 255).toInt ∧ (t &&& Int32.ofInt 255).toInt ≤ 57) ↔ (48 ≤ t.toInt ∧ t.toInt ≤ 57)) ∧ (48 ≤ t.toInt ∧ t.toInt ≤ 57 → t &&& Int32.ofInt 255 = t) := by
    have d0 : ∀ m < 256, ((Int32.ofInt (m : Nat) - Int32.ofInt 128) &&& Int32.ofInt 255 = Int32.ofInt 104 ↔ (Int32.ofInt (m : Nat) - Int32.ofInt 128) = Int32.ofInt 104) ∧ ((Int32.ofInt (m : Nat) - Int32.ofInt 128) &&& Int32.ofInt 255 = Int32.ofInt 105 ↔ (Int32.ofInt (m : Nat) - Int32.ofInt 128) = Int32.ofInt 105) ∧ ((Int32.ofInt (m : Nat) - Int32.ofInt 128) &&& Int32.ofInt 255 = Int32.ofInt 108 ↔ (Int32.ofInt (m : Nat) - Int32.ofInt 128) = Int32.ofInt 108) ∧ ((Int32.ofInt (m : Nat) - Int32.ofInt 128) &&& Int32.ofInt 255 = Int32.ofInt 112 ↔ (Int32.ofInt (m : Nat) - Int32.ofInt 128) = Int32.ofInt 112) ∧ ((Int32.ofInt (m : Nat) - Int32.ofInt 128) &&& Int32.ofInt 255 = Int32.ofInt 116 ↔ (Int32.ofInt (m : Nat) - Int32.ofInt 128) = Int32.ofInt 116) ∧ ((Int32.ofInt (m : Nat) - Int32.ofInt 128) &&& Int32.ofInt 255 = Int32.ofInt 119 ↔ (Int32.ofInt (m : Nat) - Int32.ofInt 128) = Int32.ofInt 119) ∧ ((Int32.ofInt (m : Nat) - Int32.ofInt 128) &&& Int32.ofInt 255 = Int32.ofInt 59 ↔ (Int32.ofInt (m : Nat) - Int32.ofInt 128) = Int32.ofInt 59) ∧ ((48 ≤ ((Int32.ofInt (m : Nat) - Int32.ofInt 128) &&& Int32.ofInt 255).toInt ∧ ((Int32.ofInt (m : Nat) - Int32.ofInt 128) &&& Int32.ofInt 255).toInt ≤ 57) ↔ (48 ≤ (Int32.ofInt (m : Nat) - Int32.ofInt 128).toInt ∧ (Int32.ofInt (m : Nat) - Int32.ofInt 128).toInt ≤ 57)) ∧ (48 ≤ (Int32.ofInt (m : Nat) - Int32.ofInt 128).toInt ∧ (Int32.ofInt (m : Nat) - Int32.ofInt 128).toInt ≤ 57 → (Int32.ofInt (m : Nat) - Int32.ofInt 128) &&& Int32.ofInt 255 = (Int32.ofInt (m : Nat) - Int32.ofInt 128)) := by decide +kernel
    intro m hm t ht
    subst ht
    exact d0 m hm
  obtain ⟨h0, h1⟩ := h
  refine d (t.toInt + 128).toNat (by omega) t ?_
  apply Int32.toInt_inj.mp
  have e128 : (Int32.ofInt 128).toInt = 128 := by decide
  have es := hr_small (t.toInt + 128).toNat (by omega)
  rw [hp_sub (by rw [es, e128]; omega) (by rw [es, e128]; omega), es, e128]
  omega
/-- the class's row of bytes e is the one that the reference reads -/
def hy_tx (S T : hp_S) (e n : Nat) : Prop := (S (29 + 2 * e) 4).toInt = n ∧ n ≤ 100 ∧ ∀ j : Nat, j < n → hy_by (S (30 + 2 * e) j) ∧ hy_x T j = S (30 + 2 * e) j &&& Int32.ofInt 255
theorem hy_208 {t : Int32} (h : hy_by t) (S : hp_S) : hq_208 S t = Int32.ofInt (hy_L (t &&& Int32.ofInt 255) : Nat) := by
  obtain ⟨a, b, c, d, e, f, _⟩ := hy_byte h
  unfold hq_208 hy_L
  simp only [a, b, c, d, e, f]
  repeat' split
  all_goals rfl
theorem hy_tL (ht : hy_tx S T e n) (hp : p < n) (U : hp_S) : hq_208 U (S (30 + 2 * e) p) = Int32.ofInt (hy_L (hy_x T p) : Nat) := by
  obtain ⟨_, _, h⟩ := ht
  rw [hy_208 (h p hp).1, (h p hp).2]
/-- what the class's look at the bytes finds: from a letter's place, or with L digits due -/
theorem hy_A (ht : hy_tx S T e n) : ∀ (L : Nat) (m p : Nat) (v : Int32), v.toInt = p → p ≤ n → n - p < m → L ≤ 3 → hq_209_4 e m S (Int32.ofInt (L : Nat)) v = (match hy_sc T n L p with | none => hq_209_4 e (m - (L + 1)) S (Int32.ofInt (-1)) (Int32.ofInt ((p + L + 1 : Nat) : Int)) | some q => Int32.ofInt (q : Nat)) := by
  obtain ⟨h4, h100, hb⟩ := ht
  intro L
  induction L with
  | zero =>
    intro m p v hv hp hm _
    cases m with
    | zero => omega
    | succ m =>
      have ev := hr_of hv
      rw [hq_209_4]
      unfold hy_sc
      by_cases q : p < n
      · obtain ⟨b1, b2⟩ := hb p q
        obtain ⟨_, _, _, _, _, _, b59, _⟩ := hy_byte b1
        rw [if_neg (by rw [hr_ge]; omega), if_pos (show hz_cmp .ne (Int32.ofInt ((0 : Nat) : Int)) (Int32.ofInt (-1)) = true by decide), if_pos (show hz_cmp .le (Int32.ofInt ((0 : Nat) : Int)) 0 = true by decide), hr_nat hv]
        by_cases w : S (30 + 2 * e) p = Int32.ofInt 59
        · rw [if_pos (by rw [hr_eq]; exact w), if_pos ⟨q, by rw [b2]; exact b59.mpr w⟩]
          dsimp only
          rw [hr_of (hr_up hv (by omega))]
          rfl
        · rw [if_neg (by rw [hr_eq]; exact w), if_neg (fun z => w (b59.mp (by rw [← b2]; exact z.2)))]
          exact ev
      · rw [if_pos (by rw [hr_ge]; omega), if_pos (show hz_cmp .ne (Int32.ofInt ((0 : Nat) : Int)) (Int32.ofInt (-1)) = true by decide), if_neg (fun z => q z.1)]
        exact hr_of (by omega)
  | succ L ih =>
    intro m p v hv hp hm hL
    cases m with
    | zero => omega
    | succ m =>
      have ev := hr_of hv
      have c1 : hz_cmp .ne (Int32.ofInt ((L + 1 : Nat) : Int)) (Int32.ofInt (-1)) = true := by
        have : ∀ L ≤ 2, hz_cmp .ne (Int32.ofInt ((L + 1 : Nat) : Int)) (Int32.ofInt (-1)) = true := by decide
        exact this L (by omega)
      have c2 : ¬ (hz_cmp .le (Int32.ofInt ((L + 1 : Nat) : Int)) 0 = true) := by
        have : ∀ L ≤ 2, ¬ (hz_cmp .le (Int32.ofInt ((L + 1 : Nat) : Int)) 0 = true) := by decide
        exact this L (by omega)
      have c3 : Int32.ofInt ((L + 1 : Nat) : Int) + Int32.ofInt (-1) = Int32.ofInt (L : Nat) := by
        have : ∀ L ≤ 2, Int32.ofInt ((L + 1 : Nat) : Int) + Int32.ofInt (-1) = Int32.ofInt (L : Nat) := by decide
        exact this L (by omega)
      rw [hq_209_4]
      unfold hy_sc
      by_cases q : p < n
      · obtain ⟨b1, b2⟩ := hb p q
        obtain ⟨_, _, _, _, _, _, _, bd, _⟩ := hy_byte b1
        have e48 : (Int32.ofInt 48).toInt = 48 := by decide
        have e57 : (Int32.ofInt 57).toInt = 57 := by decide
        rw [if_neg (by rw [hr_ge]; omega), if_pos c1, if_neg c2, hr_nat hv]
        by_cases w : 48 ≤ (S (30 + 2 * e) p).toInt ∧ (S (30 + 2 * e) p).toInt ≤ 57
        · rw [if_neg (by rw [hr_lt]; omega), if_pos (by rw [hr_le]; omega), if_pos ⟨q, by rw [b2]; exact bd.mpr w⟩, c3, ih m (p + 1) _ (hr_up hv (by omega)) (by omega) (by omega) (by omega)]
          rw [show m + 1 - (L + 1 + 1) = m - (L + 1) by omega, show p + 1 + L + 1 = p + (L + 1) + 1 by omega]
        · have z : ¬ (p < n ∧ 48 ≤ (hy_x T p).toInt ∧ (hy_x T p).toInt ≤ 57) := fun z => w (bd.mp (by rw [← b2]; exact z.2))
          rw [if_neg z]
          by_cases w1 : hz_cmp .lt (S (30 + 2 * e) p) (Int32.ofInt 48) = true
          · rw [if_pos w1]; exact ev
          · rw [if_neg w1, if_neg (by rw [hr_lt] at w1; rw [hr_le]; omega)]; exact ev
      · rw [if_pos (by rw [hr_ge]; omega), if_pos c1, if_neg (fun z => q z.1)]
        exact hr_of (by omega)
end HR

section HR
variable {S T U : hp_S} {k p n e : Nat}
theorem hy_let {c : Int32} (h : hy_L c ≠ 0) : c ≠ Int32.ofInt 59 := by
  intro q
  rw [q] at h
  exact h (by decide)
/-- L digits and a semicolon, counted -/
theorem hy_C (ht : hy_tx S T e n) : ∀ (L : Nat) (m p : Nat) (v c : Int32), v.toInt = p → n - p < m → hy_sc T n L p = none → hq_210_4 e m S c v = hq_210_4 e (m - (L + 1)) S (c + Int32.ofInt 1) (Int32.ofInt ((p + L + 1 : Nat) : Int)) := by
  obtain ⟨h4, h100, hb⟩ := ht
  intro L
  induction L with
  | zero =>
    intro m p v c hv hm hs
    cases m with
    | zero => omega
    | succ m =>
      unfold hy_sc at hs
      by_cases q : p < n ∧ hy_x T p = Int32.ofInt 59
      · obtain ⟨b1, b2⟩ := hb p q.1
        obtain ⟨_, _, _, _, _, _, b59, _⟩ := hy_byte b1
        have w : S (30 + 2 * e) p = Int32.ofInt 59 := b59.mp (by rw [← b2]; exact q.2)
        rw [hq_210_4, if_neg (by rw [hr_ge]; omega), hr_nat hv, if_neg (by rw [hr_ne]; exact fun z => z w), hr_of (hr_up hv (by omega))]
        rfl
      · rw [if_neg q] at hs
        cases hs
  | succ L ih =>
    intro m p v c hv hm hs
    cases m with
    | zero => omega
    | succ m =>
      unfold hy_sc at hs
      by_cases q : p < n ∧ 48 ≤ (hy_x T p).toInt ∧ (hy_x T p).toInt ≤ 57
      · rw [if_pos q] at hs
        obtain ⟨b1, b2⟩ := hb p q.1
        obtain ⟨_, _, _, _, _, _, b59, bd, _⟩ := hy_byte b1
        have w : S (30 + 2 * e) p ≠ Int32.ofInt 59 := by
          intro z
          have d := bd.mp (by rw [← b2]; exact q.2)
          rw [z] at d
          exact absurd d (by decide)
        rw [hq_210_4, if_neg (by rw [hr_ge]; omega), hr_nat hv, if_pos (by rw [hr_ne]; exact w), ih m (p + 1) _ c (hr_up hv (by omega)) (by omega) hs]
        rw [show m + 1 - (L + 1 + 1) = m - (L + 1) by omega, show p + 1 + L + 1 = p + (L + 1) + 1 by omega]
      · rw [if_neg q] at hs
        cases hs
/-- the first look: well formed, or where it is not -/
theorem hy_ph1 (i1 v2 : Int32) : ∀ (m2 : Nat) (T : hp_S) (v3 : Int32) (p m1 m3 : Nat), hy_tx S T e n → hy_r T n → (T 47 5).toInt = p → p < n → n - p < m2 → n - p < m1 → n - p < m3 →
    (∃ q : Nat, q ≤ n ∧ hq_209_4 e m1 S (Int32.ofInt (-1)) (Int32.ofInt (p : Nat)) = Int32.ofInt (q : Nat) ∧ (hq_106_41 i1 m2 T v2 v3 (Int32.ofInt 0)).2.2 = Int32.ofInt (-1000) - Int32.ofInt (q : Nat)) ∨
    (hq_209_4 e m1 S (Int32.ofInt (-1)) (Int32.ofInt (p : Nat)) = Int32.ofInt (-1) ∧ (hq_106_41 i1 m2 T v2 v3 (Int32.ofInt 0)).2.2 = Int32.ofInt 0 ∧ (hq_106_41 i1 m2 T v2 v3 (Int32.ofInt 0)).2.1 = hq_210_4 e m3 S v3 (Int32.ofInt (p : Nat))) := by
  intro m2
  induction m2 with
  | zero => intros; omega
  | succ m2 ih =>
    intro T v3 p m1 m3 ht hr h5 hp hm2 hm1 hm3
    have h100 := hr.2.1
    have hv := hy_self h5
    have hi : hy_i T := ⟨n, p, hr, h5, by omega⟩
    have hb := hy_o41b hi
    have vp := hr_small p (by omega)
    obtain ⟨m1, rfl⟩ : ∃ m, m1 = m + 1 := ⟨m1 - 1, by omega⟩
    have et := hy_tL ht hp S
    have h4 := ht.1
    have cls : hq_209_4 e (m1 + 1) S (Int32.ofInt (-1)) (Int32.ofInt (p : Nat)) = (if hz_cmp .ne (Int32.ofInt (hy_L (hy_x T p) : Nat)) 0 = true then hq_209_4 e m1 S (Int32.ofInt (hy_L (hy_x T p) : Nat)) (Int32.ofInt (p : Nat) + Int32.ofInt 1) else Int32.ofInt (p : Nat)) := by
      rw [hq_209_4, if_neg (by rw [hr_ge]; omega), if_neg (by decide), hr_nat vp, et]
    rw [cls, hq_106_41]
    by_cases z : hy_L (hy_x T p) = 0
    · obtain ⟨a, v⟩ := hy_102z hr hv (by omega) (Or.inr z)
      rw [a, if_neg (show ¬ (hz_cmp .ne (Int32.ofInt 0) 0 = true) by decide), z, if_neg (by decide)]
      cases e1 : hz_cmp .ne (Int32.ofInt (-1000) - (hq_102 T).2 47 5) 0 with
      | false => exact absurd e1 hb
      | true =>
        rw [if_pos rfl]
        refine Or.inl ⟨p, by omega, rfl, ?_⟩
        dsimp only
        rw [hr_of v.2.2]
    · have hL3 := hy_Lb (hy_x T p)
      have c1 : hz_cmp .ne (Int32.ofInt (hy_L (hy_x T p) : Nat)) 0 = true := by
        have : ∀ L ≤ 3, L ≠ 0 → hz_cmp .ne (Int32.ofInt (L : Nat)) 0 = true := by decide
        exact this _ hL3 z
      obtain ⟨o1, o2⟩ := hy_102s hr hv hp z
      have hA := hy_A ht (hy_L (hy_x T p)) m1 (p + 1) (Int32.ofInt (p : Nat) + Int32.ofInt 1) (hr_up vp (by omega)) (by omega) (by omega) hL3
      rw [if_pos c1, hA]
      cases es : hy_sc T n (hy_L (hy_x T p)) (p + 1) with
      | none =>
        obtain ⟨a, v, _⟩ := o1 es
        have hsc := hy_scn _ _ es
        have hC := hy_C ht (hy_L (hy_x T p)) (m3 - 1) (p + 1) (Int32.ofInt (p : Nat) + Int32.ofInt 1) v3 (hr_up vp (by omega)) (by omega) es
        have hC0 : hq_210_4 e m3 S v3 (Int32.ofInt (p : Nat)) = hq_210_4 e (m3 - 1) S v3 (Int32.ofInt (p : Nat) + Int32.ofInt 1) := by
          obtain ⟨m, rfl⟩ : ∃ m, m3 = m + 1 := ⟨m3 - 1, by omega⟩
          obtain ⟨b1, b2⟩ := ht.2.2 p hp
          obtain ⟨_, _, _, _, _, _, b59, _⟩ := hy_byte b1
          rw [hq_210_4, if_neg (by rw [hr_ge]; omega), hr_nat vp, if_pos]
          · rfl
          · rw [hr_ne]
            intro w
            exact hy_let z (by rw [b2]; exact b59.mpr w)
        have ev : (Int32.ofInt ((p + 1 + hy_L (hy_x T p) + 1 : Nat) : Int)).toInt = ((p + 1 + hy_L (hy_x T p) + 1 : Nat) : Int) := hr_small _ (by omega)
        rw [hC0, hC]
        dsimp only
        rw [a, if_pos (show hz_cmp .ne (Int32.ofInt 1) 0 = true by decide), if_neg (show ¬ (hz_cmp .ne (Int32.ofInt 0) 0 = true) by decide)]
        by_cases w : hz_cmp .lt ((hq_102 T).2 47 5) ((hq_102 T).2 47 7) = true
        · rw [if_pos w]
          rw [hr_lt, v.2.2, v.2.1 7 (by omega), hr.1] at w
          have ht' : hy_tx S (hq_102 T).2 e n := ⟨ht.1, ht.2.1, fun j hj => by rw [hy_xv v]; exact ht.2.2 j hj⟩
          exact ih (hq_102 T).2 (v3 + Int32.ofInt 1) _ (m1 - (hy_L (hy_x T p) + 1)) (m3 - 1 - (hy_L (hy_x T p) + 1)) ht' (hy_rv hr v) v.2.2 (by omega) (by omega) (by omega) (by omega)
        · rw [if_neg w]
          rw [hr_lt, v.2.2, v.2.1 7 (by omega), hr.1] at w
          have hn : p + 1 + hy_L (hy_x T p) + 1 = n := by omega
          obtain ⟨x1, hx1⟩ : ∃ x, m1 - (hy_L (hy_x T p) + 1) = x + 1 := ⟨m1 - (hy_L (hy_x T p) + 1) - 1, by omega⟩
          obtain ⟨x3, hx3⟩ : ∃ x, m3 - 1 - (hy_L (hy_x T p) + 1) = x + 1 := ⟨m3 - 1 - (hy_L (hy_x T p) + 1) - 1, by omega⟩
          refine Or.inr ⟨?_, rfl, ?_⟩
          · rw [hx1, hq_209_4, if_pos (by rw [hr_ge]; omega), if_neg (by decide), if_neg (by rw [hr_le, hr_0]; omega)]
          · rw [hx3, hq_210_4, if_pos (by rw [hr_ge]; omega)]
      | some q =>
        obtain ⟨a, v⟩ := o2 q es
        have hq := hy_scq _ _ _ (by omega) es
        dsimp only
        rw [a, if_neg (show ¬ (hz_cmp .ne (Int32.ofInt 0) 0 = true) by decide)]
        cases e1 : hz_cmp .ne (Int32.ofInt (-1000) - (hq_102 T).2 47 5) 0 with
        | false => exact absurd e1 hb
        | true =>
          rw [if_pos rfl]
          refine Or.inl ⟨q, hq.2, rfl, ?_⟩
          dsimp only
          rw [hr_of v.2.2]
end HR

section HR
variable {S T U : hp_S} {b k p n e : Nat}
/-- done or not, by an answer below 0 -/
def hy_dn (R : Int32 × hp_S) : Int32 × hp_S := if hz_cmp .lt R.1 0 = true then (Int32.ofInt 0, R.2) else (Int32.ofInt 1, R.2)
theorem hy_dn1 {R : Int32 × hp_S} (h : 0 ≤ R.1.toInt) : hy_dn R = (Int32.ofInt 1, R.2) := if_neg (by rw [hr_lt, hr_0]; omega)
theorem hy_dn0 {R : Int32 × hp_S} (h : R.1.toInt < 0) : hy_dn R = (Int32.ofInt 0, R.2) := if_pos (by rw [hr_lt, hr_0]; omega)
theorem hy_R1 {A : Int32 × hp_S} {V : hp_S} (h : hr_E A.2 b (V 48) ∧ hr_ok (V 48) ∧ V 48 5 = T 48 5) (h0 : 0 ≤ A.1.toInt) : hr_R b T (hy_dn A) (Int32.ofInt 1, V) := by
  rw [hy_dn1 h0]
  exact ⟨rfl, h⟩
theorem hy_R0 (hE : hr_E S b (T 48)) (ho : hr_ok (T 48)) {A : Int32 × hp_S} (hA : A.2 = S) (h0 : A.1.toInt < 0) : hr_R b T (hy_dn A) (Int32.ofInt 0, T) := by
  rw [hy_dn0 h0, hA]
  exact hr_Rs hE ho _
theorem hy_m1 : (Int32.ofInt (-1)).toInt < 0 := by decide
theorem hy_m2 : (Int32.ofInt (-2)).toInt < 0 := by decide
theorem hy_m3 : (Int32.ofInt (-3)).toInt < 0 := by decide
theorem hy_dw (hE : hr_E S b (T 48)) (ho : hr_ok (T 48)) (a v : Int32) (ha : 0 ≤ a.toInt) (hv : 0 ≤ v.toInt ∧ v.toInt ≤ 9) : hr_R b T (hy_dn (hq_194 S b a v)) (if hz_cmp .lt a (Int32.ofInt 24) = true then (Int32.ofInt 1, hp_wg 80 T 48 (Int32.ofInt 6 + a) v) else (Int32.ofInt 0, T)) := by
  have e24 : (Int32.ofInt 24).toInt = 24 := by decide
  have e23 : (Int32.ofInt 23).toInt = 23 := by decide
  have e9 : (Int32.ofInt 9).toInt = 9 := by decide
  have h := hr_194 hE ho a v
  by_cases q : a.toInt < 24
  · have r : hq_112 T a v = (T 48 (Int32.ofInt 6 + a).toNatClampNeg, hp_wg 80 T 48 (Int32.ofInt 6 + a) v) := by
      unfold hq_112
      rw [hr_70, hr_70, hr_iE (by rw [hr_o0, e23]; omega), hr_iN (by rw [hr_o0, e9]; omega)]
    rw [if_pos (by rw [hr_lt, e24]; exact q)]
    rw [r] at h
    obtain ⟨h1, h2⟩ := h
    refine hy_R1 h2 ?_
    rw [h1]
    have hj : (Int32.ofInt 6 + a).toInt = ((6 + a.toInt.toNat : Nat) : Int) := by
      have e6 : (Int32.ofInt 6).toInt = 6 := by decide
      rw [hp_add (by omega) (by omega), e6]; omega
    dsimp only
    rw [hr_nat hj]
    exact (ho.2.1 _ (by omega)).1
  · rw [if_neg (by rw [hr_lt, e24]; exact q)]
    have r : hq_194 S b a v = (Int32.ofInt (-1), S) := by
      unfold hq_194 hq_47
      rw [hr_44, hr_iEn (by rw [hr_o0, e23]; omega)]
    rw [r]
    exact hy_R0 hE ho rfl hy_m1
theorem hy_b01 (x : Int32) : 0 ≤ (x &&& Int32.ofInt 1).toInt := by
  have h : (x &&& Int32.ofInt 1) = Int32.ofInt 0 ∨ (x &&& Int32.ofInt 1) = Int32.ofInt 1 := by
    have e : (x &&& Int32.ofInt 1).toBitVec = x.toBitVec &&& 1#32 := rfl
    have : x.toBitVec &&& 1#32 = 0#32 ∨ x.toBitVec &&& 1#32 = 1#32 := by
      generalize x.toBitVec = y
      rcases Nat.mod_two_eq_zero_or_one y.toNat with h | h
      · left
        apply BitVec.eq_of_toNat_eq
        rw [BitVec.toNat_and]
        show y.toNat &&& 1 = 0
        rw [Nat.and_one_is_mod]
        exact h
      · right
        apply BitVec.eq_of_toNat_eq
        rw [BitVec.toNat_and]
        show y.toNat &&& 1 = 1
        rw [Nat.and_one_is_mod]
        exact h
    rcases this with h | h
    · exact Or.inl (Int32.toBitVec_inj.mp (e.trans h))
    · exact Or.inr (Int32.toBitVec_inj.mp (e.trans h))
  rcases h with h | h <;> rw [h] <;> decide
theorem hy_dl (hE : hr_E S b (T 48)) (ho : hr_ok (T 48)) (a : Int32) : hr_R b T (hy_dn (hq_195 S b a)) (if hz_cmp .ne (hq_78 T a) 0 = true then (Int32.ofInt 1, hp_wg 80 T 48 (Int32.ofInt 4) ((T 48 (Int32.ofInt 4).toNatClampNeg) ^^^ ((Int32.ofInt 1) <<< (a &&& 31)))) else (Int32.ofInt 0, T)) := by
  have e20 : (Int32.ofInt 20).toInt = 20 := by decide
  have h := hr_195 hE ho a
  unfold hq_113 at h
  by_cases q : hz_cmp .ne (hq_78 T a) 0 = true
  · rw [if_pos q] at h
    rw [if_pos q]
    obtain ⟨h1, h2⟩ := h
    refine hy_R1 h2 ?_
    rw [h1]
    exact hy_b01 _
  · rw [if_neg q]
    have r : hq_195 S b a = (Int32.ofInt (-1), S) := by
      unfold hq_78 at q
      rw [hr_70, hr_n0] at q
      unfold hq_195 hq_46
      rw [hr_44, hr_iNn q]
    rw [r]
    exact hy_R0 hE ho rfl hy_m1
theorem hy_di (hE : hr_E S b (T 48)) (ho : hr_ok (T 48)) (a v : Int32) (hv : 0 ≤ v.toInt ∧ v.toInt ≤ 9) : hr_R b T (hy_dn (hq_196 S b a v)) (if hz_cmp .ne (hq_76 T a) 0 = true then (Int32.ofInt 1, hp_wg 80 T 48 (hq_74 T a (Int32.ofInt 2)) v) else (Int32.ofInt 0, T)) := by
  have e9 : (Int32.ofInt 9).toInt = 9 := by decide
  have h6 := ho.1.1
  have h := hr_196 hE ho a v
  unfold hq_114 at h
  rw [hr_76 T a h6.1] at h ⊢
  by_cases q : 0 ≤ a.toInt ∧ a.toInt < (T 48 0).toInt
  · rw [hr_iE q, hr_70, hr_iN (by rw [hr_o0, e9]; omega)] at h
    rw [hr_iN q]
    obtain ⟨h1, h2⟩ := h
    refine hy_R1 h2 ?_
    rw [h1]
    have hp : a.toInt = ((a.toInt.toNat : Nat) : Int) := by omega
    dsimp only
    rw [hr_P2 T hp (by omega)]
    exact (ho.2.2.1 _ (by omega) (by omega)).2.2.1
  · rw [hr_iNn q]
    have r : hq_196 S b a v = (Int32.ofInt (-1), S) := by
      unfold hq_196
      rw [hr_181, hE.1.1, hr_iEn q]
    rw [r]
    exact hy_R0 hE ho rfl hy_m1
theorem hy_dt (hE : hr_E S b (T 48)) (ho : hr_ok (T 48)) (a : Int32) : hr_R b T (hy_dn (hq_199 S b a)) (if hz_cmp .eq (hq_70 T a (Int32.ofInt 1) (Int32.ofInt 60)) 0 = true then (Int32.ofInt 0, T) else (if hz_cmp .ne (hq_95 T 48 a) 0 = true then (Int32.ofInt 1, hq_94 T 48 a) else (Int32.ofInt 0, T))) := by
  have h := hr_199 hE ho a
  unfold hq_116 at h
  rw [hr_70] at h ⊢
  by_cases q : (Int32.ofInt 1).toInt ≤ a.toInt ∧ a.toInt ≤ (Int32.ofInt 60).toInt
  · rw [hr_iN q] at h
    rw [hr_iE q]
    by_cases w : hz_cmp .ne (hq_95 T 48 a) 0 = true
    · rw [if_pos w] at h
      rw [if_pos w]
      obtain ⟨h1, h2⟩ := h
      refine hy_R1 h2 ?_
      rw [h1]
      have hb := hr_96 (c := 48) h2.2.1
      exact (hr_bits S (hq_94 T 48 a) _ hb.1 (by dsimp only at hb ⊢; omega)).2
    · rw [if_neg w] at h
      rw [if_neg w]
      have r : hq_199 S b a = (Int32.ofInt (-3), S) := by
        have w' : hz_cmp .gt (T 48 3 + (T 48 2 + a) / Int32.ofInt 24) (Int32.ofInt 999) = true := by
          unfold hq_95 at w
          rw [hr_n2', hr_n3'] at w
          by_cases z : hz_cmp .gt (T 48 3 + (T 48 2 + a) / Int32.ofInt 24) (Int32.ofInt 999) = true
          · exact z
          · rw [if_neg z] at w
            exact absurd (by decide) w
        unfold hq_199
        rw [hr_44, hr_iN q, hE.1.2.2.1, hE.1.2.2.2.1, if_neg (by rw [hr_gt] at w'; rw [hr_le]; omega)]
      rw [r]
      exact hy_R0 hE ho rfl hy_m3
  · rw [hr_iEn q]
    have r : hq_199 S b a = (Int32.ofInt (-1), S) := by
      unfold hq_199
      rw [hr_44, hr_iNn q]
    rw [r]
    exact hy_R0 hE ho rfl hy_m1
theorem hy_dp (hE : hr_E S b (T 48)) (ho : hr_ok (T 48)) (hz : T 48 5 = 0) (a s : Int32) : hr_R b T (hy_dn (hq_192 S b a s)) (if hz_cmp .eq (hq_78 T a) 0 = true then (Int32.ofInt 0, T) else (if hz_cmp .eq (hq_70 T s (Int32.ofInt 1) (Int32.ofInt 5)) 0 = true then (Int32.ofInt 0, T) else (if hz_cmp .ne (T 48 (Int32.ofInt 0).toNatClampNeg) (Int32.ofInt 6) = true then (Int32.ofInt 1, hq_103 T a s) else (Int32.ofInt 0, T)))) := by
  have h6 := ho.1.1
  have e20 : (Int32.ofInt 20).toInt = 20 := by decide
  have e5 : (Int32.ofInt 5).toInt = 5 := by decide
  have e6 : (Int32.ofInt 6).toInt = 6 := by decide
  unfold hq_78
  rw [hr_70, hr_70, hr_n0']
  by_cases p : (Int32.ofInt 0).toInt ≤ a.toInt ∧ a.toInt ≤ (Int32.ofInt 20).toInt
  · rw [hr_iE p]
    by_cases q : (Int32.ofInt 1).toInt ≤ s.toInt ∧ s.toInt ≤ (Int32.ofInt 5).toInt
    · rw [hr_iE q]
      by_cases w : (T 48 0).toInt < 6
      · rw [if_pos (by rw [hr_ne]; intro z; rw [z] at w; omega)]
        have h := hr_192 hE ho hz a s (by rw [hr_o0, e20] at p; exact p) (by rw [hr_o1, e5] at q; exact q) w
        exact hy_R1 h.2.2 (by rw [h.1]; exact h6.1)
      · rw [if_neg (by rw [hr_ne]; exact fun z => z (Int32.toInt_inj.mp (by omega)))]
        have r : hq_192 S b a s = (Int32.ofInt (-2), S) := by
          unfold hq_192 hq_46
          rw [hr_44, hr_44, hr_iE p, hr_iN q, if_neg (by rw [hr_lt, hE.1.1, e6]; exact w)]
        rw [r]
        exact hy_R0 hE ho rfl hy_m2
    · rw [hr_iEn q]
      have r : hq_192 S b a s = (Int32.ofInt (-1), S) := by
        unfold hq_192 hq_46
        rw [hr_44, hr_44, hr_iE p, hr_iNn q]
      rw [r]
      exact hy_R0 hE ho rfl hy_m1
  · rw [hr_iEn p]
    have r : hq_192 S b a s = (Int32.ofInt (-1), S) := by
      unfold hq_192 hq_46
      rw [hr_44, hr_iEn p]
    rw [r]
    exact hy_R0 hE ho rfl hy_m1
theorem hy_dh (hE : hr_E S b (T 48)) (ho : hr_ok (T 48)) (a g p : Int32) (ha : 0 ≤ a.toInt) (hg : 0 ≤ g.toInt ∧ g.toInt ≤ 9) : hr_R b T (hy_dn (hq_193 S b a g p)) (if hz_cmp .ge a (Int32.ofInt 8) = true then (Int32.ofInt 0, T) else (if hz_cmp .eq (hq_76 T p) 0 = true then (Int32.ofInt 0, T) else (if hz_cmp .ne (hq_88 T 48 p) (Int32.ofInt 9) = true then (Int32.ofInt 0, T) else (if hz_cmp .ne (T 48 (Int32.ofInt 1).toNatClampNeg) (Int32.ofInt 8) = true then (Int32.ofInt 1, hq_104 T a g p) else (Int32.ofInt 0, T))))) := by
  have h6 := ho.1.1
  have h8 := ho.1.2.1
  have e7 : (Int32.ofInt 7).toInt = 7 := by decide
  have e9 : (Int32.ofInt 9).toInt = 9 := by decide
  have e8 : (Int32.ofInt 8).toInt = 8 := by decide
  have cg : (Int32.ofInt 0).toInt ≤ g.toInt ∧ g.toInt ≤ (Int32.ofInt 9).toInt := by rw [hr_o0, e9]; exact hg
  rw [hr_76 T p h6.1, hr_n1']
  by_cases q : a.toInt < 8
  · rw [if_neg (by rw [hr_ge, e8]; omega)]
    have ca : (Int32.ofInt 0).toInt ≤ a.toInt ∧ a.toInt ≤ (Int32.ofInt 7).toInt := by rw [hr_o0, e7]; omega
    by_cases w : 0 ≤ p.toInt ∧ p.toInt < (T 48 0).toInt
    · rw [hr_iE w]
      by_cases hb : hq_88 T 48 p = hr_9
      · rw [if_neg (by rw [hr_ne]; exact fun z => z hb)]
        by_cases hn : (T 48 1).toInt < 8
        · rw [if_pos (by rw [hr_ne]; intro z; rw [z] at hn; omega)]
          have h := hr_193 hE ho a g p (by omega) hg w hb hn
          exact hy_R1 h.2.2 (by rw [h.1]; exact h8.1)
        · rw [if_neg (by rw [hr_ne]; exact fun z => z (Int32.toInt_inj.mp (by omega)))]
          have r : hq_193 S b a g p = (Int32.ofInt (-2), S) := by
            unfold hq_193 hq_48 hq_49
            rw [hr_44, hr_44, hr_181, hr_188 hE ho, hr_iE ca, hr_iE cg, hE.1.1, hr_iN w, hr_iN hb, if_neg (by rw [hr_lt, hE.1.2.1, e8]; exact hn)]
          rw [r]
          exact hy_R0 hE ho rfl hy_m2
      · rw [if_pos (by rw [hr_ne]; exact hb)]
        have r : hq_193 S b a g p = (Int32.ofInt (-3), S) := by
          unfold hq_193 hq_48 hq_49
          rw [hr_44, hr_44, hr_181, hr_188 hE ho, hr_iE ca, hr_iE cg, hE.1.1, hr_iN w, hr_iNn hb]
        rw [r]
        exact hy_R0 hE ho rfl hy_m3
    · rw [hr_iEn w]
      have r : hq_193 S b a g p = (Int32.ofInt (-1), S) := by
        unfold hq_193 hq_48 hq_49
        rw [hr_44, hr_44, hr_181, hr_iE ca, hr_iE cg, hE.1.1, hr_iNn w]
      rw [r]
      exact hy_R0 hE ho rfl hy_m1
  · rw [if_pos (by rw [hr_ge, e8]; omega)]
    have r : hq_193 S b a g p = (Int32.ofInt (-1), S) := by
      unfold hq_193 hq_48
      rw [hr_44, hr_iEn (by rw [hr_o0, e7]; omega)]
    rw [r]
    exact hy_R0 hE ho rfl hy_m1
end HR

