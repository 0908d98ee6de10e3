/-! 106: HatsOfTheWindModel.street(I)I -/
def hq_106_41 (i1 : Int32) : Nat → hp_S → Int32 → Int32 → Int32 → hp_S × Int32 × Int32
  | 0, S, _, _, _ => (S, 0, 0)
  | m + 1, S, v2, v3, v4 => (if hz_cmp .ne (hq_102 S).1 0 = true then (if hz_cmp .ne v4 0 = true then ((hq_102 S).2, (v3 + (Int32.ofInt 1)), v4) else (if hz_cmp .lt ((hq_102 S).2 47 5) ((hq_102 S).2 47 7) = true then hq_106_41 i1 m ((hq_102 S).2) v2 (v3 + (Int32.ofInt 1)) v4 else ((hq_102 S).2, (v3 + (Int32.ofInt 1)), v4))) else (if hz_cmp .ne ((Int32.ofInt (-1000)) - ((hq_102 S).2 47 5)) 0 = true then ((hq_102 S).2, (v3 + (Int32.ofInt 1)), ((Int32.ofInt (-1000)) - ((hq_102 S).2 47 5))) else (if hz_cmp .lt ((hq_102 S).2 47 5) ((hq_102 S).2 47 7) = true then hq_106_41 i1 m ((hq_102 S).2) v2 (v3 + (Int32.ofInt 1)) ((Int32.ofInt (-1000)) - ((hq_102 S).2 47 5)) else ((hq_102 S).2, (v3 + (Int32.ofInt 1)), ((Int32.ofInt (-1000)) - ((hq_102 S).2 47 5))))))
def hq_106_93 (i1 : Int32) : Nat → hp_S → Int32 → Int32 → Int32 → hp_S × Int32
  | 0, S, _, _, _ => (S, 0)
  | m + 1, S, v2, v3, v4 => (if hz_cmp .ne v4 0 = true then (S, v4) else (if hz_cmp .ge (S 47 5) (S 47 7) = true then (S, v4) else (if hz_cmp .eq (hq_105 ((hq_102 S).2) (hq_100 S)).1 0 = true then hq_106_93 i1 m (hq_73 ((hq_105 ((hq_102 S).2) (hq_100 S)).2) 51 48) v2 v3 ((Int32.ofInt (-2000)) - (S 47 5)) else hq_106_93 i1 m ((hq_105 ((hq_102 S).2) (hq_100 S)).2) v2 v3 v4)))
def hq_106_161 (i1 : Int32) (S : hp_S) (v2 : Int32) (v3 : Int32) (v4 : Int32) : Int32 × hp_S := (if hz_cmp .ne v4 0 = true then (v4, S) else (v3, S))
def hq_106_77 (i1 : Int32) (S : hp_S) (v2 : Int32) (v3 : Int32) (v4 : Int32) : Int32 × hp_S := (hq_106_161 i1 ((hq_106_93 i1 (((hp_w (hq_73 S 48 51) 47 5 (Int32.ofInt 0) 47 7).toInt - (hp_w (hq_73 S 48 51) 47 5 (Int32.ofInt 0) 47 5).toInt).toNat + 1) (hp_w (hq_73 S 48 51) 47 5 (Int32.ofInt 0)) (v2) (v3) (v4)).1) (v2) (v3) ((hq_106_93 i1 (((hp_w (hq_73 S 48 51) 47 5 (Int32.ofInt 0) 47 7).toInt - (hp_w (hq_73 S 48 51) 47 5 (Int32.ofInt 0) 47 5).toInt).toNat + 1) (hp_w (hq_73 S 48 51) 47 5 (Int32.ofInt 0)) (v2) (v3) (v4)).2))
def hq_106_36 (i1 : Int32) (S : hp_S) (v2 : Int32) : Int32 × hp_S := (hq_106_77 i1 ((hq_106_41 i1 (((S 47 7).toInt - (S 47 5).toInt).toNat + 1) S (v2) ((Int32.ofInt 0)) ((Int32.ofInt 0))).1) (v2) ((hq_106_41 i1 (((S 47 7).toInt - (S 47 5).toInt).toNat + 1) S (v2) ((Int32.ofInt 0)) ((Int32.ofInt 0))).2.1) ((hq_106_41 i1 (((S 47 7).toInt - (S 47 5).toInt).toNat + 1) S (v2) ((Int32.ofInt 0)) ((Int32.ofInt 0))).2.2))
def hq_106 (S : hp_S) (i1 : Int32) : Int32 × hp_S := (if hz_cmp .eq (hq_158 S i1 (Int32.ofInt 0)) 0 = true then (hq_106_36 i1 (hp_w (hp_w (hp_w S 47 6 ((Int32.ofInt 100) * i1)) 47 7 (hp_w S 47 6 ((Int32.ofInt 100) * i1) 57 i1.toNatClampNeg)) 47 5 (Int32.ofInt 0)) ((hq_158 S i1 (Int32.ofInt 0)))) else ((hq_158 S i1 (Int32.ofInt 0)), S))
theorem hf_106_41 {i1 : Int32} (j : Nat) (z0 : j ≠ 47) (z1 : j ≠ 52) (z2 : j ≠ 51) (z3 : j ≠ 48) : ∀ (m : Nat) (S : hp_S) (v2 : Int32) (v3 : Int32) (v4 : Int32), (hq_106_41 i1 m S v2 v3 v4).1 j = S j := by
  intro m
  induction m with
  | zero => intros; rfl
  | succ m ih =>
    intro S v2 v3 v4
    rw [hq_106_41]
    repeat' split
    all_goals simp [ih, hp_wo, hp_wgo, hp_cpo, hf_73, hf_102, hf_105, z0, z1, z2, z3]
theorem hf_106_93 {i1 : Int32} (j : Nat) (z0 : j ≠ 47) (z1 : j ≠ 52) (z2 : j ≠ 51) (z3 : j ≠ 48) : ∀ (m : Nat) (S : hp_S) (v2 : Int32) (v3 : Int32) (v4 : Int32), (hq_106_93 i1 m S v2 v3 v4).1 j = S j := by
  intro m
  induction m with
  | zero => intros; rfl
  | succ m ih =>
    intro S v2 v3 v4
    rw [hq_106_93]
    repeat' split
    all_goals simp [ih, hp_wo, hp_wgo, hp_cpo, hf_73, hf_102, hf_105, z0, z1, z2, z3, hf_106_41]
theorem hf_106_161 {i1 : Int32} (S : hp_S) (v2 : Int32) (v3 : Int32) (v4 : Int32) (j : Nat) (z0 : j ≠ 47) (z1 : j ≠ 52) (z2 : j ≠ 51) (z3 : j ≠ 48) : (hq_106_161 i1 S v2 v3 v4).2 j = S j := by
  unfold hq_106_161
  repeat' split
  all_goals simp [hp_wo, hp_wgo, hp_cpo, hf_73, hf_102, hf_105, z0, z1, z2, z3, hf_106_41, hf_106_93]
theorem hf_106_77 {i1 : Int32} (S : hp_S) (v2 : Int32) (v3 : Int32) (v4 : Int32) (j : Nat) (z0 : j ≠ 47) (z1 : j ≠ 52) (z2 : j ≠ 51) (z3 : j ≠ 48) : (hq_106_77 i1 S v2 v3 v4).2 j = S j := by
  unfold hq_106_77
  repeat' split
  all_goals simp [hp_wo, hp_wgo, hp_cpo, hf_73, hf_102, hf_105, z0, z1, z2, z3, hf_106_41, hf_106_93, hf_106_161]
theorem hf_106_36 {i1 : Int32} (S : hp_S) (v2 : Int32) (j : Nat) (z0 : j ≠ 47) (z1 : j ≠ 52) (z2 : j ≠ 51) (z3 : j ≠ 48) : (hq_106_36 i1 S v2).2 j = S j := by
  unfold hq_106_36
  repeat' split
  all_goals simp [hp_wo, hp_wgo, hp_cpo, hf_73, hf_102, hf_105, z0, z1, z2, z3, hf_106_41, hf_106_93, hf_106_161, hf_106_77]
theorem hf_106 (S : hp_S) (i1 : Int32) (j : Nat) (z0 : j ≠ 47) (z1 : j ≠ 52) (z2 : j ≠ 51) (z3 : j ≠ 48) : (hq_106 S i1).2 j = S j := by
  unfold hq_106
  repeat' split
  all_goals simp [hp_wo, hp_wgo, hp_cpo, hf_73, hf_102, hf_105, z0, z1, z2, z3, hf_106_41, hf_106_93, hf_106_161, hf_106_77, hf_106_36]
theorem hy_o41 {S : hp_S} {m : Nat} (hi : hy_i S) (h : hz_cmp .ne (hq_102 S).1 0 = true) (hm : ((S 47 7).toInt - (S 47 5).toInt).toNat < m + 1) : (((hq_102 S).2 47 7).toInt - ((hq_102 S).2 47 5).toInt).toNat < m := by
  obtain ⟨⟨n, p, hr, h5, hp⟩, e7, hl⟩ := hy_prog hi
  have h1 := hl h
  have h2 := hr.1
  rw [e7] at h2
  rw [e7]
  omega
theorem hy_o41b {S : hp_S} (hi : hy_i S) : ¬ (hz_cmp .ne (Int32.ofInt (-1000) - (hq_102 S).2 47 5) 0 = false) := by
  obtain ⟨⟨n, p, hr, h5, hp⟩, e7, hl⟩ := hy_prog hi
  have h100 := hr.2.1
  have e : (Int32.ofInt (-1000)).toInt = -1000 := by decide
  have e2 : (Int32.ofInt (-1000) - (hq_102 S).2 47 5).toInt = -1000 - p := by rw [hp_sub (by omega) (by omega), e, h5]
  intro q
  have : hz_cmp .ne (Int32.ofInt (-1000) - (hq_102 S).2 47 5) 0 = true := by
    rw [hr_ne]
    intro z
    rw [z, hr_0] at e2
    omega
  rw [this] at q
  cases q
theorem hy_158 {S : hp_S} {d : Int32} (h : hz_cmp .eq (hq_158 S d (Int32.ofInt 0)) 0 = true) : hq_158 S d (Int32.ofInt 0) = Int32.ofInt 0 ∧ 0 ≤ d.toInt ∧ d.toInt ≤ 7 := by
  rw [hr_eq] at h
  refine ⟨h.trans (by decide), ?_⟩
  have e7 : (Int32.ofInt 7).toInt = 7 := by decide
  unfold hq_158 hq_157 at h
  rw [hr_70] at h
  by_cases q : (Int32.ofInt 0).toInt ≤ d.toInt ∧ d.toInt ≤ (Int32.ofInt 7).toInt
  · rw [hr_o0, e7] at q; exact q
  · rw [hr_iNn q] at h
    exact absurd h (by decide)
theorem hy_ent {S : hp_S} {d : Int32} (h : hz_cmp .eq (hq_158 S d (Int32.ofInt 0)) 0 = true) (hsz : hq_158 S d (Int32.ofInt 0) = Int32.ofInt 0 → 0 ≤ (S 57 d.toNatClampNeg).toInt ∧ (S 57 d.toNatClampNeg).toInt ≤ 100) : hy_i (hp_w (hp_w (hp_w S 47 6 ((Int32.ofInt 100) * d)) 47 7 (hp_w S 47 6 ((Int32.ofInt 100) * d) 57 d.toNatClampNeg)) 47 5 (Int32.ofInt 0)) ∧ ((hp_w (hp_w (hp_w S 47 6 ((Int32.ofInt 100) * d)) 47 7 (hp_w S 47 6 ((Int32.ofInt 100) * d) 57 d.toNatClampNeg)) 47 5 (Int32.ofInt 0)) 47 5).toInt = 0 := by
  obtain ⟨h0, hd⟩ := hy_158 h
  have hs := hsz h0
  have e100 : (Int32.ofInt 100).toInt = 100 := by decide
  have em : (Int32.ofInt 100 * d).toInt = 100 * d.toInt := by
    rw [Int32.toInt_mul, e100]
    exact Int.bmod_eq_of_le (by omega) (by omega)
  have a5 : (hp_w (hp_w (hp_w S 47 6 ((Int32.ofInt 100) * d)) 47 7 (hp_w S 47 6 ((Int32.ofInt 100) * d) 57 d.toNatClampNeg)) 47 5 (Int32.ofInt 0)) 47 5 = Int32.ofInt 0 := hr_w0s _ _ _ _
  have a7 : (hp_w (hp_w (hp_w S 47 6 ((Int32.ofInt 100) * d)) 47 7 (hp_w S 47 6 ((Int32.ofInt 100) * d) 57 d.toNatClampNeg)) 47 5 (Int32.ofInt 0)) 47 7 = S 57 d.toNatClampNeg := by
    rw [hr_w0' _ _ _ _ _ (by omega), hr_w0s, hp_wo _ _ _ _ _ (by omega)]
  have a6 : (hp_w (hp_w (hp_w S 47 6 ((Int32.ofInt 100) * d)) 47 7 (hp_w S 47 6 ((Int32.ofInt 100) * d) 57 d.toNatClampNeg)) 47 5 (Int32.ofInt 0)) 47 6 = Int32.ofInt 100 * d := by
    rw [hr_w0' _ _ _ _ _ (by omega), hr_w0' _ _ _ _ _ (by omega), hr_w0s]
  refine ⟨⟨(S 57 d.toNatClampNeg).toInt.toNat, 0, ⟨?_, by omega, ?_, ?_⟩, ?_, by omega⟩, ?_⟩
  · rw [a7]; omega
  · rw [a6, em]; omega
  · rw [a6, em]; omega
  · rw [a5]; decide
  · rw [a5]; decide
/-- fault 0: well formed from the first byte -/
def hy_k (S : hp_S) (v : Int32) : Prop := ∃ n p : Nat, hy_r S n ∧ (S 47 5).toInt = p ∧ p ≤ n ∧ (v = Int32.ofInt 0 → ∃ m : Nat, hy_wf S n m 0)
def hy_j (S : hp_S) (v : Int32) : Prop := ∃ n p : Nat, hy_r S n ∧ (S 47 5).toInt = p ∧ p ≤ n ∧ (v = Int32.ofInt 0 → ∃ m : Nat, hy_wf S n m p)
theorem hy_wfx {S S' : hp_S} {n : Nat} (h : ∀ j : Nat, hy_x S' j = hy_x S j) : ∀ (m p : Nat), hy_wf S n m p → hy_wf S' n m p := by
  have hsc : ∀ L p : Nat, hy_sc S' n L p = hy_sc S n L p := by
    intro L
    induction L with
    | zero => intro p; unfold hy_sc; rw [h]
    | succ L ih => intro p; unfold hy_sc; rw [h, ih]
  intro m
  induction m with
  | zero => intro p q; exact q
  | succ m ih =>
    intro p q
    rcases q with q | ⟨q1, q2, q3, q4⟩
    · exact Or.inl q
    · refine Or.inr ⟨q1, ?_, ?_, ?_⟩
      · rw [h]; exact q2
      · rw [h, hsc]; exact q3
      · rw [h]; exact ih _ q4
theorem hy_l41 (i1 v2 : Int32) : ∀ (m : Nat) (S : hp_S) (v3 : Int32) (n p : Nat), hy_r S n → (S 47 5).toInt = p → p ≤ n → n - p < m → (∃ q : Nat, hy_v S (hq_106_41 i1 m S v2 v3 (Int32.ofInt 0)).1 q ∧ q ≤ n) ∧ ((hq_106_41 i1 m S v2 v3 (Int32.ofInt 0)).2.2 = Int32.ofInt 0 → ∃ m' : Nat, hy_wf S n m' p) := by
  intro m
  induction m with
  | zero => intros; omega
  | succ m ih =>
    intro S v3 n p hr h5 hp hm
    have hv := hy_self h5
    have hi : hy_i S := ⟨n, p, hr, h5, hp⟩
    rw [hq_106_41]
    by_cases z : p = n ∨ hy_L (hy_x S p) = 0
    · obtain ⟨a, v⟩ := hy_102z hr hv hp z
      have hb := hy_o41b hi
      rw [a, if_neg (by decide)]
      cases e : hz_cmp .ne (Int32.ofInt (-1000) - (hq_102 S).2 47 5) 0 with
      | false => exact absurd e hb
      | true =>
        rw [if_pos rfl]
        refine ⟨⟨p, v, hp⟩, fun q => ?_⟩
        dsimp only at q
        rw [q] at e
        exact absurd e (by decide)
    · have z1 : p < n := by omega
      have z2 : hy_L (hy_x S p) ≠ 0 := fun w => z (Or.inr w)
      obtain ⟨o1, o2⟩ := hy_102s hr hv z1 z2
      cases e : hy_sc S n (hy_L (hy_x S p)) (p + 1) with
      | none =>
        obtain ⟨a, v, _⟩ := o1 e
        have hsc := hy_scn _ _ e
        rw [a, if_pos (by decide), if_neg (by decide)]
        by_cases w : hz_cmp .lt ((hq_102 S).2 47 5) ((hq_102 S).2 47 7) = true
        · rw [if_pos w]
          rw [hr_lt, v.2.2, v.2.1 7 (by omega), hr.1] at w
          obtain ⟨⟨q, vq, hq⟩, hf⟩ := ih (hq_102 S).2 (v3 + Int32.ofInt 1) n _ (hy_rv hr v) v.2.2 (by omega) (by omega)
          refine ⟨⟨q, ⟨fun j a b => (vq.1 j a b).trans (v.1 j a b), fun j a => (vq.2.1 j a).trans (v.2.1 j a), vq.2.2⟩, hq⟩, fun r => ?_⟩
          obtain ⟨m', wf⟩ := hf r
          refine ⟨m' + 1, Or.inr ⟨z1, z2, e, ?_⟩⟩
          have := hy_wfx (S := (hq_102 S).2) (S' := S) (n := n) (fun j => (hy_xv v j).symm) m' _ wf
          rw [show p + hy_L (hy_x S p) + 2 = p + 1 + hy_L (hy_x S p) + 1 by omega]
          exact this
        · rw [if_neg w]
          rw [hr_lt, v.2.2, v.2.1 7 (by omega), hr.1] at w
          refine ⟨⟨_, v, by omega⟩, fun _ => ⟨1, Or.inr ⟨z1, z2, e, ?_⟩⟩⟩
          show p + hy_L (hy_x S p) + 2 = n
          omega
      | some q =>
        obtain ⟨a, v⟩ := o2 q e
        have hb := hy_o41b hi
        have hq := hy_scq _ _ _ (by omega) e
        rw [a, if_neg (by decide)]
        cases e' : hz_cmp .ne (Int32.ofInt (-1000) - (hq_102 S).2 47 5) 0 with
        | false => exact absurd e' hb
        | true =>
          rw [if_pos rfl]
          refine ⟨⟨q, v, hq.2⟩, fun r => ?_⟩
          dsimp only at r
          rw [r] at e'
          exact absurd e' (by decide)
theorem hy_f41 (i1 : Int32) {S : hp_S} (v2 v3 : Int32) (hi : hy_i S ∧ (S 47 5).toInt = 0) : hy_k (hq_106_41 i1 (((S 47 7).toInt - (S 47 5).toInt).toNat + 1) S v2 v3 (Int32.ofInt 0)).1 (hq_106_41 i1 (((S 47 7).toInt - (S 47 5).toInt).toNat + 1) S v2 v3 (Int32.ofInt 0)).2.2 := by
  obtain ⟨⟨n, p, hr, h5, hp⟩, h0⟩ := hi
  have hp0 : p = 0 := by omega
  subst hp0
  obtain ⟨⟨q, v, hq⟩, hf⟩ := hy_l41 i1 v2 (((S 47 7).toInt - (S 47 5).toInt).toNat + 1) S v3 n 0 hr h5 hp (by have := hr.1; omega)
  refine ⟨n, q, hy_rv hr v, v.2.2, hq, fun r => ?_⟩
  obtain ⟨m', w⟩ := hf r
  exact ⟨m', hy_wfx (fun j => hy_xv v j) _ _ w⟩
theorem hy_e93 {S : hp_S} {v : Int32} (h : hy_k S v) : hy_j (hp_w (hq_73 S 48 51) 47 5 (Int32.ofInt 0)) v := by
  obtain ⟨n, p, hr, h5, hp, hf⟩ := h
  have e47 : hq_73 S 48 51 47 = S 47 := hf_73 S 47 (by omega)
  have e58 : hq_73 S 48 51 58 = S 58 := hf_73 S 58 (by omega)
  have e5 : (hp_w (hq_73 S 48 51) 47 5 (Int32.ofInt 0)) 47 5 = Int32.ofInt 0 := hr_w0s _ _ _ _
  have e7 : (hp_w (hq_73 S 48 51) 47 5 (Int32.ofInt 0)) 47 7 = S 47 7 := by rw [hr_w0' _ _ _ _ _ (by omega), e47]
  have e6 : (hp_w (hq_73 S 48 51) 47 5 (Int32.ofInt 0)) 47 6 = S 47 6 := by rw [hr_w0' _ _ _ _ _ (by omega), e47]
  have e8 : (hp_w (hq_73 S 48 51) 47 5 (Int32.ofInt 0)) 58 = S 58 := by rw [hp_wo _ _ _ _ _ (by omega), e58]
  refine ⟨n, 0, ⟨by rw [e7]; exact hr.1, hr.2.1, by rw [e6]; exact hr.2.2.1, by rw [e6]; exact hr.2.2.2⟩, by rw [e5]; decide, by omega, fun q => ?_⟩
  obtain ⟨m, w⟩ := hf q
  exact ⟨m, hy_wfx (fun j => by unfold hy_x; rw [e6, e8]) _ _ w⟩
/-- one round of the second loop: the statement is read, the place goes on -/
theorem hy_nxt {S : hp_S} {v4 : Int32} (h : hy_j S v4) (h4 : hz_cmp .ne v4 0 = false) (hlt : (S 47 5).toInt < (S 47 7).toInt) : ∃ n p : Nat, hy_r S n ∧ (S 47 5).toInt = p ∧ p < n ∧ hy_L (hy_x S p) ≠ 0 ∧ hy_sc S n (hy_L (hy_x S p)) (p + 1) = none ∧ (∃ m : Nat, hy_wf S n m (p + hy_L (hy_x S p) + 2)) ∧ hy_v S (hq_102 S).2 (p + hy_L (hy_x S p) + 2) ∧ hy_N S p ((hq_102 S).2 52) ∧ p + hy_L (hy_x S p) + 2 ≤ n := by
  obtain ⟨n, p, hr, h5, hp, hf⟩ := h
  have e4 : v4 = Int32.ofInt 0 := by
    have := (hr_ne v4 0)
    rw [h4] at this
    exact (Classical.not_not.mp (fun z => absurd (this.mpr z) Bool.false_ne_true)).trans (by decide)
  obtain ⟨m, w⟩ := hf e4
  have hpn : p < n := by have := hr.1; omega
  cases m with
  | zero => exact absurd (show p = n from w) (by omega)
  | succ m =>
    rcases w with w | ⟨w1, w2, w3, w4⟩
    · omega
    · obtain ⟨o1, _⟩ := hy_102s hr (hy_self h5) w1 w2
      obtain ⟨a, v, nn⟩ := o1 w3
      have := hy_scn _ _ w3
      exact ⟨n, p, hr, h5, hpn, w2, w3, ⟨m, w4⟩, by rw [show p + hy_L (hy_x S p) + 2 = p + 1 + hy_L (hy_x S p) + 1 by omega]; exact v, nn, by omega⟩
theorem hy_j93x {S S' : hp_S} {v4 v : Int32} (h : hy_j S v4) (h4 : hz_cmp .ne v4 0 = false) (hlt : hz_cmp .ge (S 47 5) (S 47 7) = false) (e47 : S' 47 = (hq_102 S).2 47) (e58 : S' 58 = (hq_102 S).2 58) : hy_j S' v ∧ (((S' 47 7).toInt - (S' 47 5).toInt).toNat < ((S 47 7).toInt - (S 47 5).toInt).toNat) := by
  have hl : (S 47 5).toInt < (S 47 7).toInt := by
    rcases Int.lt_or_le (S 47 5).toInt (S 47 7).toInt with q | q
    · exact q
    · have z : hz_cmp .ge (S 47 5) (S 47 7) = true := by rw [hr_ge]; exact q
      rw [hlt] at z
      cases z
  obtain ⟨n, p, hr, h5, hp, q2, q3, ⟨m, w⟩, hv, _, hle⟩ := hy_nxt h h4 hl
  refine ⟨⟨n, p + hy_L (hy_x S p) + 2, ?_, ?_, hle, fun _ => ⟨m, ?_⟩⟩, ?_⟩
  · unfold hy_r
    rw [e47, hv.2.1 7 (by omega), hv.2.1 6 (by omega)]
    exact hr
  · rw [e47]; exact hv.2.2
  · refine hy_wfx (fun j => ?_) _ _ w
    unfold hy_x
    rw [e47, e58, hv.2.1 6 (by omega), hv.1 58 (by omega) (by omega)]
  · rw [e47, hv.2.1 7 (by omega), hv.2.2, hr.1, h5]
    omega
set_option maxRecDepth 10000 in
theorem ht_106_41 {α : Type} {φ : α → Option Value × hzMem} {R : α} {X : hp_X} (N : Nat) (i1 : Int32) : ∀ (n : Nat), n ≤ N → ∀ (m : Nat) (S : hp_S) (v2 : Int32) (v3 : Int32) (v4 : Int32) (x5 : Option Value) (x6 : Option Value) (x7 : Option Value) (Z : hp_S × Int32 × Int32), ((S 47 7).toInt - (S 47 5).toInt).toNat < m → hy_i S → hq_106_41 i1 m S v2 v3 v4 = Z → (∀ (x5 : Option Value) (x6 : Option Value) (x7 : Option Value), hp_T N 106 77 [some (.ref 47), some (.int i1), some (.int v2), some (.int Z.2.1), some (.int Z.2.2), x5, x6, x7] [] (hp_mem X Z.1) φ R) → hp_T n 106 41 [some (.ref 47), some (.int i1), some (.int v2), some (.int v3), some (.int v4), x5, x6, x7] [] (hp_mem X S) φ R := by
  intro n
  induction n with
  | zero => intros; exact hp_0
  | succ n ih =>
    intro hN m S v2 v3 v4 x5 x6 x7 Z hm hi hZ kk
    cases m with
    | zero => exact absurd hm (Nat.not_lt_zero _)
    | succ m =>
      rw [hq_106_41] at hZ
      refine hp_sN [42] (pc' := 42) (L' := [some (.ref 47), some (.int i1), some (.int v2), some (.int v3), some (.int v4), x5, x6, x7]) (st' := [.ref 47]) rfl rfl ?_
      refine hp_iv (virt := true) (pc' := 45) (rv := some (.int (hq_102 S).1)) (M1 := hp_mem X ((hq_102 S).2)) rfl rfl (by decide) (hk_102 S) rfl rfl ?_
      show hp_T _ 106 45 _ [.int (hq_102 S).1] _ _ _
      refine hp_if2 (pc' := 48) rfl rfl (fun h1 => ?_) (fun h1 => ?_)
      · rw [if_pos h1] at hZ
        refine hp_sN [61, 63] (pc' := 63) (L' := [some (.ref 47), some (.int i1), some (.int v2), some (.int (v3 + (Int32.ofInt 1))), some (.int v4), x5, x6, x7]) (st' := [.int v4]) rfl rfl ?_
        refine hp_if2 (pc' := 66) rfl rfl (fun h2 => ?_) (fun h2 => ?_)
        · rw [if_pos h2] at hZ
          subst hZ
          exact hp_le hN (kk (x5) (x6) (x7))
        · rw [if_neg (hp_nt h2)] at hZ
          refine hp_sN [67] (pc' := 67) (L' := [some (.ref 47), some (.int i1), some (.int v2), some (.int (v3 + (Int32.ofInt 1))), some (.int v4), x5, x6, x7]) (st' := [.ref 47]) rfl rfl ?_
          refine hp_gf (pc' := 70) rfl (by decide) (hp_c47 X _) rfl rfl ?_
          refine hp_sN [71] (pc' := 71) (L' := [some (.ref 47), some (.int i1), some (.int v2), some (.int (v3 + (Int32.ofInt 1))), some (.int v4), x5, x6, x7]) (st' := [.ref 47, .int ((hq_102 S).2 47 5)]) rfl rfl ?_
          refine hp_gf (pc' := 74) rfl (by decide) (hp_c47 X _) rfl rfl ?_
          refine hp_ic2B (pc' := 77) rfl rfl (fun h3 => ?_) (fun h3 => ?_)
          · rw [if_pos h3] at hZ
            exact ih (Nat.le_trans (Nat.le_succ n) hN) m ((hq_102 S).2) (v2) ((v3 + (Int32.ofInt 1))) (v4) (x5) (x6) (x7) Z (hy_o41 hi h1 hm) (hy_prog hi).1 hZ kk
          · rw [if_neg (hp_nt h3)] at hZ
            subst hZ
            exact hp_le hN (kk (x5) (x6) (x7))
      · rw [if_neg (hp_nt h1)] at hZ
        refine hp_sN [51, 52] (pc' := 52) (L' := [some (.ref 47), some (.int i1), some (.int v2), some (.int v3), some (.int v4), x5, x6, x7]) (st' := [.ref 47, .int (Int32.ofInt (-1000))]) rfl rfl ?_
        refine hp_gf (pc' := 55) rfl (by decide) (hp_c47 X _) rfl rfl ?_
        refine hp_sN [56, 58, 61, 63] (pc' := 63) (L' := [some (.ref 47), some (.int i1), some (.int v2), some (.int (v3 + (Int32.ofInt 1))), some (.int ((Int32.ofInt (-1000)) - ((hq_102 S).2 47 5))), x5, x6, x7]) (st' := [.int ((Int32.ofInt (-1000)) - ((hq_102 S).2 47 5))]) rfl rfl ?_
        refine hp_if2 (pc' := 66) rfl rfl (fun h4 => ?_) (fun h4 => ?_)
        · rw [if_pos h4] at hZ
          subst hZ
          exact hp_le hN (kk (x5) (x6) (x7))
        · rw [if_neg (hp_nt h4)] at hZ
          refine hp_sN [67] (pc' := 67) (L' := [some (.ref 47), some (.int i1), some (.int v2), some (.int (v3 + (Int32.ofInt 1))), some (.int ((Int32.ofInt (-1000)) - ((hq_102 S).2 47 5))), x5, x6, x7]) (st' := [.ref 47]) rfl rfl ?_
          refine hp_gf (pc' := 70) rfl (by decide) (hp_c47 X _) rfl rfl ?_
          refine hp_sN [71] (pc' := 71) (L' := [some (.ref 47), some (.int i1), some (.int v2), some (.int (v3 + (Int32.ofInt 1))), some (.int ((Int32.ofInt (-1000)) - ((hq_102 S).2 47 5))), x5, x6, x7]) (st' := [.ref 47, .int ((hq_102 S).2 47 5)]) rfl rfl ?_
          refine hp_gf (pc' := 74) rfl (by decide) (hp_c47 X _) rfl rfl ?_
          refine hp_ic2B (pc' := 77) rfl rfl (fun h5 => ?_) (fun h5 => ?_)
          · rw [if_pos h5] at hZ
            exact ih (Nat.le_trans (Nat.le_succ n) hN) m ((hq_102 S).2) (v2) ((v3 + (Int32.ofInt 1))) (((Int32.ofInt (-1000)) - ((hq_102 S).2 47 5))) (x5) (x6) (x7) Z (absurd h4 (hy_o41b hi)) (hy_prog hi).1 hZ kk
          · rw [if_neg (hp_nt h5)] at hZ
            subst hZ
            exact hp_le hN (kk (x5) (x6) (x7))
set_option maxRecDepth 10000 in
theorem ht_106_93 {α : Type} {φ : α → Option Value × hzMem} {R : α} {X : hp_X} (N : Nat) (i1 : Int32) : ∀ (n : Nat), n ≤ N → ∀ (m : Nat) (S : hp_S) (v2 : Int32) (v3 : Int32) (v4 : Int32) (x5 : Option Value) (x6 : Option Value) (x7 : Option Value) (Z : hp_S × Int32), ((S 47 7).toInt - (S 47 5).toInt).toNat < m → hy_j S v4 → hq_106_93 i1 m S v2 v3 v4 = Z → (∀ (x5 : Option Value) (x6 : Option Value) (x7 : Option Value), hp_T N 106 161 [some (.ref 47), some (.int i1), some (.int v2), some (.int v3), some (.int Z.2), x5, x6, x7] [] (hp_mem X Z.1) φ R) → hp_T n 106 93 [some (.ref 47), some (.int i1), some (.int v2), some (.int v3), some (.int v4), x5, x6, x7] [] (hp_mem X S) φ R := by
  intro n
  induction n with
  | zero => intros; exact hp_0
  | succ n ih =>
    intro hN m S v2 v3 v4 x5 x6 x7 Z hm hi hZ kk
    cases m with
    | zero => exact absurd hm (Nat.not_lt_zero _)
    | succ m =>
      rw [hq_106_93] at hZ
      refine hp_sN [95] (pc' := 95) (L' := [some (.ref 47), some (.int i1), some (.int v2), some (.int v3), some (.int v4), x5, x6, x7]) (st' := [.int v4]) rfl rfl ?_
      refine hp_if2 (pc' := 98) rfl rfl (fun h1 => ?_) (fun h1 => ?_)
      · rw [if_pos h1] at hZ
        subst hZ
        exact hp_le hN (kk (x5) (x6) (x7))
      · rw [if_neg (hp_nt h1)] at hZ
        refine hp_sN [99] (pc' := 99) (L' := [some (.ref 47), some (.int i1), some (.int v2), some (.int v3), some (.int v4), x5, x6, x7]) (st' := [.ref 47]) rfl rfl ?_
        refine hp_gf (pc' := 102) rfl (by decide) (hp_c47 X _) rfl rfl ?_
        refine hp_sN [103] (pc' := 103) (L' := [some (.ref 47), some (.int i1), some (.int v2), some (.int v3), some (.int v4), x5, x6, x7]) (st' := [.ref 47, .int (S 47 5)]) rfl rfl ?_
        refine hp_gf (pc' := 106) rfl (by decide) (hp_c47 X _) rfl rfl ?_
        refine hp_ic2 (pc' := 109) rfl rfl (fun h2 => ?_) (fun h2 => ?_)
        · rw [if_pos h2] at hZ
          subst hZ
          exact hp_le hN (kk (x5) (x6) (x7))
        · rw [if_neg (hp_nt h2)] at hZ
          refine hp_sN [110] (pc' := 110) (L' := [some (.ref 47), some (.int i1), some (.int v2), some (.int v3), some (.int v4), x5, x6, x7]) (st' := [.ref 47]) rfl rfl ?_
          refine hp_gf (pc' := 113) rfl (by decide) (hp_c47 X _) rfl rfl ?_
          refine hp_sN [115, 116] (pc' := 116) (L' := [some (.ref 47), some (.int i1), some (.int v2), some (.int v3), some (.int v4), some (.int (S 47 5)), x6, x7]) (st' := [.ref 47]) rfl rfl ?_
          refine hp_iv (virt := true) (pc' := 119) (rv := some (.int (hq_100 S))) (M1 := hp_mem X (S)) rfl rfl (by decide) (hk_100 S) rfl rfl ?_
          show hp_T _ 106 119 _ [.int (hq_100 S)] _ _ _
          refine hp_sN [121, 122] (pc' := 122) (L' := [some (.ref 47), some (.int i1), some (.int v2), some (.int v3), some (.int v4), some (.int (S 47 5)), some (.int (hq_100 S)), x7]) (st' := [.ref 47]) rfl rfl ?_
          refine hp_iv (virt := true) (pc' := 125) (rv := some (.int (hq_102 S).1)) (M1 := hp_mem X ((hq_102 S).2)) rfl rfl (by decide) (hk_102 S) rfl rfl ?_
          show hp_T _ 106 125 _ [.int (hq_102 S).1] _ _ _
          refine hp_sN [127, 128, 130] (pc' := 130) (L' := [some (.ref 47), some (.int i1), some (.int v2), some (.int v3), some (.int v4), some (.int (S 47 5)), some (.int (hq_100 S)), some (.int (hq_102 S).1)]) (st' := [.int (hq_100 S), .ref 47]) rfl rfl ?_
          refine hp_iv (virt := true) (pc' := 133) (rv := some (.int (hq_105 ((hq_102 S).2) (hq_100 S)).1)) (M1 := hp_mem X ((hq_105 ((hq_102 S).2) (hq_100 S)).2)) rfl rfl (by decide) (hk_105 ((hq_102 S).2) ((hq_100 S))) rfl rfl ?_
          show hp_T _ 106 133 _ [.int (hq_105 ((hq_102 S).2) (hq_100 S)).1] _ _ _
          refine hp_if2 (pc' := 136) rfl rfl (fun h3 => ?_) (fun h3 => ?_)
          · rw [if_pos h3] at hZ
            refine hp_sN [142, 144, 145, 147, 148] (pc' := 148) (L' := [some (.ref 47), some (.int i1), some (.int v2), some (.int v3), some (.int ((Int32.ofInt (-2000)) - (S 47 5))), some (.int (S 47 5)), some (.int (hq_100 S)), some (.int (hq_102 S).1)]) (st' := [.ref 47]) rfl rfl ?_
            refine hp_gf (pc' := 151) rfl (by decide) (hp_c47 X _) rfl rfl ?_
            refine hp_sN [152] (pc' := 152) (L' := [some (.ref 47), some (.int i1), some (.int v2), some (.int v3), some (.int ((Int32.ofInt (-2000)) - (S 47 5))), some (.int (S 47 5)), some (.int (hq_100 S)), some (.int (hq_102 S).1)]) (st' := [.ref 47, .ref 51]) rfl rfl ?_
            refine hp_gf (pc' := 155) rfl (by decide) (hp_c47 X _) rfl rfl ?_
            refine hp_iv (virt := false) (pc' := 158) (rv := none) (M1 := hp_mem X (hq_73 ((hq_105 ((hq_102 S).2) (hq_100 S)).2) 51 48)) rfl rfl (by decide) (hk_73 (Or.inr (Or.inr (Or.inr rfl))) (Or.inl rfl) ((hq_105 ((hq_102 S).2) (hq_100 S)).2)) rfl rfl ?_
            show hp_T _ 106 158 _ [] _ _ _
            refine hp_sB 93 [] (pc' := 93) (L' := [some (.ref 47), some (.int i1), some (.int v2), some (.int v3), some (.int ((Int32.ofInt (-2000)) - (S 47 5))), some (.int (S 47 5)), some (.int (hq_100 S)), some (.int (hq_102 S).1)]) (st' := []) rfl rfl ?_
            exact ih (Nat.le_trans (Nat.le_succ n) hN) m (hq_73 ((hq_105 ((hq_102 S).2) (hq_100 S)).2) 51 48) (v2) (v3) (((Int32.ofInt (-2000)) - (S 47 5))) (some (.int (S 47 5))) (some (.int (hq_100 S))) (some (.int (hq_102 S).1)) Z (Nat.lt_of_lt_of_le ((hy_j93x (v := v4) hi h1 h2 (by rw [hf_73 _ _ (by omega), hf_105 _ _ _ (by omega)]) (by rw [hf_73 _ _ (by omega), hf_105 _ _ _ (by omega)]))).2 (Nat.le_of_lt_succ hm)) ((hy_j93x hi h1 h2 (by rw [hf_73 _ _ (by omega), hf_105 _ _ _ (by omega)]) (by rw [hf_73 _ _ (by omega), hf_105 _ _ _ (by omega)]))).1 hZ kk
          · rw [if_neg (hp_nt h3)] at hZ
            refine hp_sB 93 [] (pc' := 93) (L' := [some (.ref 47), some (.int i1), some (.int v2), some (.int v3), some (.int v4), some (.int (S 47 5)), some (.int (hq_100 S)), some (.int (hq_102 S).1)]) (st' := []) rfl rfl ?_
            exact ih (Nat.le_trans (Nat.le_succ n) hN) m ((hq_105 ((hq_102 S).2) (hq_100 S)).2) (v2) (v3) (v4) (some (.int (S 47 5))) (some (.int (hq_100 S))) (some (.int (hq_102 S).1)) Z (Nat.lt_of_lt_of_le ((hy_j93x (v := v4) hi h1 h2 (by rw [hf_105 _ _ _ (by omega)]) (by rw [hf_105 _ _ _ (by omega)]))).2 (Nat.le_of_lt_succ hm)) ((hy_j93x hi h1 h2 (by rw [hf_105 _ _ _ (by omega)]) (by rw [hf_105 _ _ _ (by omega)]))).1 hZ kk
set_option maxRecDepth 10000 in
theorem ht_106_161 {X : hp_X} (i1 : Int32) (S : hp_S) (v2 : Int32) (v3 : Int32) (v4 : Int32) (x5 : Option Value) (x6 : Option Value) (x7 : Option Value) (n : Nat) : hp_T n 106 161 [some (.ref 47), some (.int i1), some (.int v2), some (.int v3), some (.int v4), x5, x6, x7] [] (hp_mem X S) (hp_is X) (hq_106_161 i1 S v2 v3 v4) := by
  unfold hq_106_161
  refine hp_sN [163] (pc' := 163) (L' := [some (.ref 47), some (.int i1), some (.int v2), some (.int v3), some (.int v4), x5, x6, x7]) (st' := [.int v4]) rfl rfl ?_
  refine hp_if (pc' := 166) rfl rfl (fun h1 => ?_) (fun h1 => ?_)
  · refine hp_sN [172] (pc' := 172) (L' := [some (.ref 47), some (.int i1), some (.int v2), some (.int v3), some (.int v4), x5, x6, x7]) (st' := [.int v4]) rfl rfl ?_
    exact hp_Ris rfl
  · refine hp_sN [167, 172] (pc' := 172) (L' := [some (.ref 47), some (.int i1), some (.int v2), some (.int v3), some (.int v4), x5, x6, x7]) (st' := [.int v3]) rfl rfl ?_
    exact hp_Ris rfl
set_option maxRecDepth 10000 in
theorem ht_106_77 {X : hp_X} (i1 : Int32) (S : hp_S) (v2 : Int32) (v3 : Int32) (v4 : Int32) (x5 : Option Value) (x6 : Option Value) (x7 : Option Value) (hk0 : hy_k S v4) (n : Nat) : hp_T n 106 77 [some (.ref 47), some (.int i1), some (.int v2), some (.int v3), some (.int v4), x5, x6, x7] [] (hp_mem X S) (hp_is X) (hq_106_77 i1 S v2 v3 v4) := by
  unfold hq_106_77
  refine hp_sN [78] (pc' := 78) (L' := [some (.ref 47), some (.int i1), some (.int v2), some (.int v3), some (.int v4), x5, x6, x7]) (st' := [.ref 47]) rfl rfl ?_
  refine hp_gf (pc' := 81) rfl (by decide) (hp_c47 X _) rfl rfl ?_
  refine hp_sN [82] (pc' := 82) (L' := [some (.ref 47), some (.int i1), some (.int v2), some (.int v3), some (.int v4), x5, x6, x7]) (st' := [.ref 47, .ref 48]) rfl rfl ?_
  refine hp_gf (pc' := 85) rfl (by decide) (hp_c47 X _) rfl rfl ?_
  refine hp_iv (virt := false) (pc' := 88) (rv := none) (M1 := hp_mem X (hq_73 S 48 51)) rfl rfl (by decide) (hk_73 (Or.inl rfl) (Or.inr (Or.inr (Or.inr rfl))) S) rfl rfl ?_
  show hp_T _ 106 88 _ [] _ _ _
  refine hp_sN [89, 90] (pc' := 90) (L' := [some (.ref 47), some (.int i1), some (.int v2), some (.int v3), some (.int v4), x5, x6, x7]) (st' := [.int (Int32.ofInt 0), .ref 47]) rfl rfl ?_
  refine hp_pf (pc' := 93) rfl (by decide) (hp_c47 X _) (hp_w47 X _ _ _ (by decide)) rfl ?_
  refine ht_106_93 n i1  n (Nat.le_refl _) (((hp_w (hq_73 S 48 51) 47 5 (Int32.ofInt 0) 47 7).toInt - (hp_w (hq_73 S 48 51) 47 5 (Int32.ofInt 0) 47 5).toInt).toNat + 1) (hp_w (hq_73 S 48 51) 47 5 (Int32.ofInt 0)) (v2) (v3) (v4) (x5) (x6) (x7) _ (Nat.lt_succ_self _) (hy_e93 hk0) rfl (fun x5_93 x6_93 x7_93 => ?_)
  show hp_T _ 106 161 [some (.ref 47), some (.int i1), some (.int v2), some (.int v3), some (.int (hq_106_93 i1 (((hp_w (hq_73 S 48 51) 47 5 (Int32.ofInt 0) 47 7).toInt - (hp_w (hq_73 S 48 51) 47 5 (Int32.ofInt 0) 47 5).toInt).toNat + 1) (hp_w (hq_73 S 48 51) 47 5 (Int32.ofInt 0)) (v2) (v3) (v4)).2), x5_93, x6_93, x7_93] _ (hp_mem X ((hq_106_93 i1 (((hp_w (hq_73 S 48 51) 47 5 (Int32.ofInt 0) 47 7).toInt - (hp_w (hq_73 S 48 51) 47 5 (Int32.ofInt 0) 47 5).toInt).toNat + 1) (hp_w (hq_73 S 48 51) 47 5 (Int32.ofInt 0)) (v2) (v3) (v4)).1)) _ _
  exact ht_106_161 i1 ((hq_106_93 i1 (((hp_w (hq_73 S 48 51) 47 5 (Int32.ofInt 0) 47 7).toInt - (hp_w (hq_73 S 48 51) 47 5 (Int32.ofInt 0) 47 5).toInt).toNat + 1) (hp_w (hq_73 S 48 51) 47 5 (Int32.ofInt 0)) (v2) (v3) (v4)).1) (v2) (v3) ((hq_106_93 i1 (((hp_w (hq_73 S 48 51) 47 5 (Int32.ofInt 0) 47 7).toInt - (hp_w (hq_73 S 48 51) 47 5 (Int32.ofInt 0) 47 5).toInt).toNat + 1) (hp_w (hq_73 S 48 51) 47 5 (Int32.ofInt 0)) (v2) (v3) (v4)).2) (x5_93) (x6_93) (x7_93) n
set_option maxRecDepth 10000 in
theorem ht_106_36 {X : hp_X} (i1 : Int32) (S : hp_S) (v2 : Int32) (x3 : Option Value) (x4 : Option Value) (x5 : Option Value) (x6 : Option Value) (x7 : Option Value) (hi0 : hy_i S ∧ (S 47 5).toInt = 0) (n : Nat) : hp_T n 106 36 [some (.ref 47), some (.int i1), some (.int v2), x3, x4, x5, x6, x7] [] (hp_mem X S) (hp_is X) (hq_106_36 i1 S v2) := by
  unfold hq_106_36
  refine hp_sN [37, 38, 39, 41] (pc' := 41) (L' := [some (.ref 47), some (.int i1), some (.int v2), some (.int (Int32.ofInt 0)), some (.int (Int32.ofInt 0)), x5, x6, x7]) (st' := []) rfl rfl ?_
  refine ht_106_41 n i1  n (Nat.le_refl _) (((S 47 7).toInt - (S 47 5).toInt).toNat + 1) S (v2) ((Int32.ofInt 0)) ((Int32.ofInt 0)) (x5) (x6) (x7) _ (Nat.lt_succ_self _) hi0.1 rfl (fun x5_41 x6_41 x7_41 => ?_)
  show hp_T _ 106 77 [some (.ref 47), some (.int i1), some (.int v2), some (.int (hq_106_41 i1 (((S 47 7).toInt - (S 47 5).toInt).toNat + 1) S (v2) ((Int32.ofInt 0)) ((Int32.ofInt 0))).2.1), some (.int (hq_106_41 i1 (((S 47 7).toInt - (S 47 5).toInt).toNat + 1) S (v2) ((Int32.ofInt 0)) ((Int32.ofInt 0))).2.2), x5_41, x6_41, x7_41] _ (hp_mem X ((hq_106_41 i1 (((S 47 7).toInt - (S 47 5).toInt).toNat + 1) S (v2) ((Int32.ofInt 0)) ((Int32.ofInt 0))).1)) _ _
  exact ht_106_77 i1 ((hq_106_41 i1 (((S 47 7).toInt - (S 47 5).toInt).toNat + 1) S (v2) ((Int32.ofInt 0)) ((Int32.ofInt 0))).1) (v2) ((hq_106_41 i1 (((S 47 7).toInt - (S 47 5).toInt).toNat + 1) S (v2) ((Int32.ofInt 0)) ((Int32.ofInt 0))).2.1) ((hq_106_41 i1 (((S 47 7).toInt - (S 47 5).toInt).toNat + 1) S (v2) ((Int32.ofInt 0)) ((Int32.ofInt 0))).2.2) (x5_41) (x6_41) (x7_41) (hy_f41 i1 _ _ hi0) n
set_option maxRecDepth 10000 in
theorem ht_106 {X : hp_X} (S : hp_S) (i1 : Int32) (hsz : hq_158 S i1 (Int32.ofInt 0) = Int32.ofInt 0 → 0 ≤ (S 57 i1.toNatClampNeg).toInt ∧ (S 57 i1.toNatClampNeg).toInt ≤ 100) (n : Nat) : hp_T n 106 0 [some (.ref 47), some (.int i1), none, none, none, none, none, none] [] (hp_mem X S) (hp_is X) (hq_106 S i1) := by
  unfold hq_106
  refine hp_sN [1, 2, 3] (pc' := 3) (L' := [some (.ref 47), some (.int i1), none, none, none, none, none, none]) (st' := [.int (Int32.ofInt 0), .int i1, .ref 47]) rfl rfl ?_
  refine hp_iv (virt := true) (pc' := 6) (rv := some (.int (hq_158 S i1 (Int32.ofInt 0)))) (M1 := hp_mem X (S)) rfl rfl (by decide) (hk_158 S (i1) ((Int32.ofInt 0))) rfl rfl ?_
  show hp_T _ 106 6 _ [.int (hq_158 S i1 (Int32.ofInt 0))] _ _ _
  refine hp_sN [7, 8] (pc' := 8) (L' := [some (.ref 47), some (.int i1), some (.int (hq_158 S i1 (Int32.ofInt 0))), none, none, none, none, none]) (st' := [.int (hq_158 S i1 (Int32.ofInt 0))]) rfl rfl ?_
  refine hp_if (pc' := 11) rfl rfl (fun h1 => ?_) (fun h1 => ?_)
  · refine hp_sN [14, 16, 17, 18] (pc' := 18) (L' := [some (.ref 47), some (.int i1), some (.int (hq_158 S i1 (Int32.ofInt 0))), none, none, none, none, none]) (st' := [.int ((Int32.ofInt 100) * i1), .ref 47]) rfl rfl ?_
    refine hp_pf (pc' := 21) rfl (by decide) (hp_c47 X _) (hp_w47 X _ _ _ (by decide)) rfl ?_
    refine hp_sN [22, 23] (pc' := 23) (L' := [some (.ref 47), some (.int i1), some (.int (hq_158 S i1 (Int32.ofInt 0))), none, none, none, none, none]) (st' := [.ref 47, .ref 47]) rfl rfl ?_
    refine hp_gf (pc' := 26) rfl (by decide) (hp_c47 X _) rfl rfl ?_
    refine hp_sN [27] (pc' := 27) (L' := [some (.ref 47), some (.int i1), some (.int (hq_158 S i1 (Int32.ofInt 0))), none, none, none, none, none]) (st' := [.int i1, .ref 57, .ref 47]) rfl rfl ?_
    refine hp_al (pc' := 28) rfl (by decide) rfl rfl ?_
    refine hp_pf (pc' := 31) rfl (by decide) (hp_c47 X _) (hp_w47 X _ _ _ (by decide)) rfl ?_
    refine hp_sN [32, 33] (pc' := 33) (L' := [some (.ref 47), some (.int i1), some (.int (hq_158 S i1 (Int32.ofInt 0))), none, none, none, none, none]) (st' := [.int (Int32.ofInt 0), .ref 47]) rfl rfl ?_
    refine hp_pf (pc' := 36) rfl (by decide) (hp_c47 X _) (hp_w47 X _ _ _ (by decide)) rfl ?_
    exact ht_106_36 i1 (hp_w (hp_w (hp_w S 47 6 ((Int32.ofInt 100) * i1)) 47 7 (hp_w S 47 6 ((Int32.ofInt 100) * i1) 57 i1.toNatClampNeg)) 47 5 (Int32.ofInt 0)) ((hq_158 S i1 (Int32.ofInt 0))) (none) (none) (none) (none) (none) (hy_ent h1 hsz) n
  · refine hp_sN [12] (pc' := 12) (L' := [some (.ref 47), some (.int i1), some (.int (hq_158 S i1 (Int32.ofInt 0))), none, none, none, none, none]) (st' := [.int (hq_158 S i1 (Int32.ofInt 0))]) rfl rfl ?_
    exact hp_Ris rfl
theorem hk_106 {X : hp_X} (S : hp_S) (i1 : Int32) (hsz : hq_158 S i1 (Int32.ofInt 0) = Int32.ofInt 0 → 0 ≤ (S 57 i1.toNatClampNeg).toInt ∧ (S 57 i1.toNatClampNeg).toInt ≤ 100) : hp_K 106 [.ref 47, .int i1] (hp_mem X S) (hp_is X) (hq_106 S i1) := by
  refine hp_mk (q := hzq_106) rfl (by decide) (L := [some (.ref 47), some (.int i1), none, none, none, none, none, none]) rfl (fun n => ?_)
  exact ht_106 S i1 hsz n
