/-! THE CLASS's SHELVES, exactly: row, put -/
section HS
variable {ext : Nat → List Value → hzMem → Option (Option (Option Value × hzMem))}
theorem hx_set0 {α : Type} {M : List α} {k : Nat} {e : α} (h : M[k]? = some e) : M.set k e = M := by
  apply List.ext_getElem?
  intro j
  by_cases q : k = j
  · subst q
    rw [List.getElem?_set_self (List.getElem?_eq_some_iff.mp h).1, h]
  · rw [List.getElem?_set_ne q]
theorem hs_us {f : Nat → Int32} {i : Nat} {v : Int32} : upd f i v i = v := if_pos rfl
theorem hs_un {f : Nat → Int32} {i j : Nat} {v : Int32} (h : j ≠ i) : upd f i v j = f j := if_neg h
set_option maxRecDepth 10000 in
theorem hs_tl {A B : Nat} {t n : Int32} {vs : List Value} (h5 : vs[5]? = some (.ref B)) (hAB : B ≠ A) : ∀ (m : Nat) (i : Int32) (M : hzMem) (fe : Nat → Int32), 100 - i.toInt < m → 0 ≤ i.toInt → i.toInt ≤ 100 → M[A]? = some (.inr (0, vs)) → M[B]? = some (.inl (0, 100, .inl fe)) → (∀ j : Nat, (j : Int) < i.toInt → fe j = 0) → ha_RT ext 172 17 [some (.ref A), some (.int t), some (.int n), some (.int i)] [] M 0 (fun rv M' => rv = none ∧ ∃ fe' : Nat → Int32, (∀ j : Nat, j < 100 → fe' j = 0) ∧ M' = M.set B (.inl (0, 100, .inl fe'))) := by
  intro m
  induction m with
  | zero => intro i M fe h h0 h1; omega
  | succ m ih =>
    intro i M fe h h0 h1 hA hB hz
    refine ha_RT_sN [18, 20] (pc' := 20) (L' := [some (.ref A), some (.int t), some (.int n), some (.int i)]) (st' := [.int (Int32.ofInt 100), .int i]) rfl rfl ?_
    refine ha_RT_ic rfl (fun h2 => ?_) (fun h2 => ?_)
    · show ha_RT ext 172 36 _ _ _ _ _
      simp only [hz_cmp, decide_eq_true_eq, Int32.le_iff_toInt_le, show (Int32.ofInt 100).toInt = 100 from rfl] at h2
      refine ha_RT_ret (rv := none) rfl rfl rfl rfl ⟨rfl, fe, fun j hj => hz j (by omega), ?_⟩
      exact (hx_set0 hB).symm
    show ha_RT ext 172 23 _ _ _ _ _
    simp only [hz_cmp, decide_eq_false_iff_not, Int32.le_iff_toInt_le, show (Int32.ofInt 100).toInt = 100 from rfl] at h2
    refine ha_RT_sN [24] (pc' := 24) (L' := [some (.ref A), some (.int t), some (.int n), some (.int i)]) (st' := [.ref A]) rfl rfl ?_
    refine ha_RT_mem rfl rfl (hm_rd hA h5 _ _) ?_
    show ha_RT ext 172 27 _ _ _ _ _
    refine ha_RT_sN [28, 29] (pc' := 29) (L' := [some (.ref A), some (.int t), some (.int n), some (.int i)]) (st' := [.int (Int32.ofInt 0), .int i, .ref B]) rfl rfl ?_
    refine ha_RT_mem rfl rfl (hm_ias hB h0 (by show i.toInt < 100; omega) (Int32.ofInt 0) _ _ _) ?_
    show ha_RT ext 172 30 _ _ _ _ _
    have hi1 : (i + Int32.ofInt 1).toInt = i.toInt + 1 := hm_p1 h0 (by omega)
    refine ha_RT_sN [33, 17] (pc' := 17) (L' := [some (.ref A), some (.int t), some (.int n), some (.int (i + Int32.ofInt 1))]) (st' := []) rfl rfl ?_
    obtain ⟨nn, rv, M', hr, rfl, fe', hz', hM⟩ := ih (i + Int32.ofInt 1) (M.set B (.inl (0, 100, .inl (upd fe i.toNatClampNeg (Int32.ofInt 0))))) (upd fe i.toNatClampNeg (Int32.ofInt 0)) (by omega) (by omega) (by omega) (by rw [List.getElem?_set_ne hAB]; exact hA) (hs_gs hB) (fun j hj => by
      by_cases q : j = i.toNatClampNeg
      · subst q; exact hs_us
      · rw [hs_un q]
        have : ¬ j = i.toInt.toNat := q
        exact hz j (by omega))
    rw [List.set_set] at hM
    exact ⟨nn, none, M', hr, rfl, fe', hz', hM⟩
set_option maxRecDepth 10000 in
theorem hs_tr172 (hn : hm_no ext) {M : hzMem} {A B : Nat} {vs : List Value} {fe : Nat → Int32} (h : M[A]? = some (.inr (0, vs))) (hl : vs.length = 6) (h5 : vs[5]? = some (.ref B)) (hAB : B ≠ A) (hB : M[B]? = some (.inl (0, 100, .inl fe))) (t n : Int32) : ∃ (m : Nat) (fe' : Nat → Int32), (∀ j : Nat, j < 100 → fe' j = 0) ∧ ha_C ext m 172 [.ref A, .int t, .int n] M 4 0 = some (none, (M.set A (.inr (0, ((vs.set 0 (.int 2)).set 3 (.int t)).set 4 (.int n)))).set B (.inl (0, 100, .inl fe'))) := by
  have key : ha_RT ext 172 0 [some (.ref A), some (.int t), some (.int n), none] [] M 0 (fun rv M' => rv = none ∧ ∃ fe' : Nat → Int32, (∀ j : Nat, j < 100 → fe' j = 0) ∧ M' = (M.set A (.inr (0, ((vs.set 0 (.int 2)).set 3 (.int t)).set 4 (.int n)))).set B (.inl (0, 100, .inl fe'))) := by
    refine ha_RT_sN [1, 2] (pc' := 2) (L' := [some (.ref A), some (.int t), some (.int n), none]) (st' := [.int 2, .ref A]) rfl rfl ?_
    refine ha_RT_mem rfl rfl (hs_pf h hl (y := 0) (by decide) 2 _ _) ?_
    show ha_RT ext 172 5 _ _ _ _ _
    refine ha_RT_sN [6, 7] (pc' := 7) (L' := [some (.ref A), some (.int t), some (.int n), none]) (st' := [.int t, .ref A]) rfl rfl ?_
    refine ha_RT_mem rfl rfl (hs_pf (hs_gs h) (by rw [List.length_set]; exact hl) (y := 3) (by decide) t _ _) ?_
    show ha_RT ext 172 10 _ _ _ _ _
    rw [List.set_set]
    refine ha_RT_sN [11, 12] (pc' := 12) (L' := [some (.ref A), some (.int t), some (.int n), none]) (st' := [.int n, .ref A]) rfl rfl ?_
    refine ha_RT_mem rfl rfl (hs_pf (hs_gs h) (by rw [List.length_set, List.length_set]; exact hl) (y := 4) (by decide) n _ _) ?_
    show ha_RT ext 172 15 _ _ _ _ _
    rw [List.set_set]
    refine ha_RT_sN [16, 17] (pc' := 17) (L' := [some (.ref A), some (.int t), some (.int n), some (.int (Int32.ofInt 0))]) (st' := []) rfl rfl ?_
    exact hs_tl (vs := ((vs.set 0 (.int 2)).set 3 (.int t)).set 4 (.int n)) (by rw [List.getElem?_set_ne (by decide), List.getElem?_set_ne (by decide), List.getElem?_set_ne (by decide)]; exact h5) hAB 101 (Int32.ofInt 0) _ fe (by show (100 : Int) - 0 < _; decide) (by decide) (by decide) (hs_gs h) (by rw [List.getElem?_set_ne (fun z => hAB z.symm)]; exact hB) (fun j hj => by
      have : (j : Int) < 0 := hj
      omega)
  obtain ⟨m, rv, M', h1, rfl, fe', hz, rfl⟩ := key
  exact ⟨m, fe', hz, hm_toC hn (q := hzq_172) rfl (by decide) h1⟩
def sp_row (σ : Nat → hs_S) (d t n : Int32) : Int32 × (Nat → hs_S) := if ¬ (0 ≤ d.toInt ∧ d.toInt ≤ 7) ∨ ¬ (0 ≤ t.toInt ∧ t.toInt ≤ 2) ∨ 100 < n.toInt then (Int32.ofInt (-1), σ) else if n.toInt < 0 then (Int32.ofInt (-14), σ) else (Int32.ofInt 0, hs_u σ d.toNatClampNeg (2, t, n, fun _ => 0))
set_option maxHeartbeats 4000000 in
set_option maxRecDepth 10000 in
theorem hs_c39 (hn : hm_no ext) {σ : Nat → hs_S} {M : hzMem} (hi : ha_inv hw_W M) (hC : hs_C σ M) (d t n : Int32) : ∃ m M', ha_C ext m 39 [.ref 0, .int d, .int t, .int n] M 4 0 = some (some (.int (sp_row σ d t n).1), M') ∧ ha_wok hw_W hm_Wc M M' ∧ hs_C (sp_row σ d t n).2 M' := by
  have key : ha_RT ext 39 0 [some (.ref 0), some (.int d), some (.int t), some (.int n)] [] M 0 (fun rv M' => rv = some (.int (sp_row σ d t n).1) ∧ ha_wok hw_W hm_Wc M M' ∧ hs_C (sp_row σ d t n).2 M') := by
    have no : sp_row σ d t n = (Int32.ofInt (-1), σ) → ha_RT ext 39 22 [some (.ref 0), some (.int d), some (.int t), some (.int n)] [] M 0 (fun rv M' => rv = some (.int (sp_row σ d t n).1) ∧ ha_wok hw_W hm_Wc M M' ∧ hs_C (sp_row σ d t n).2 M') := by
      intro e
      refine ha_RT_sN [23] (pc' := 23) (L' := [some (.ref 0), some (.int d), some (.int t), some (.int n)]) (st' := [.int (Int32.ofInt (-1))]) rfl rfl ?_
      refine ha_RT_ret (rv := some (.int (Int32.ofInt (-1)))) rfl rfl rfl rfl ?_
      rw [e]
      exact ⟨rfl, ⟨hi, rfl, fun _ _ => rfl⟩, hC⟩
    refine ha_RT_sN [1] (pc' := 1) (L' := [some (.ref 0), some (.int d), some (.int t), some (.int n)]) (st' := [.int d]) rfl rfl ?_
    obtain ⟨n1, hc1⟩ := hm_ex51 hn d M
    refine ha_RT_call (virt := false) (a := 0) (x := 51) (y := 1) rfl rfl (by decide) (q := _) rfl ⟨rfl, Nat.le_of_ble_eq_true rfl, Nat.le_of_ble_eq_true rfl, Nat.le_refl 0, Nat.le_of_ble_eq_true rfl⟩ hc1 ?_
    show ha_RT ext 39 4 _ [.int (hm_bi (decide (0 ≤ d.toInt ∧ d.toInt ≤ 7)))] _ _ _
    refine ha_RT_if rfl (fun h1 => no (if_pos (Or.inl (by rw [hm_bie, Bool.not_eq_true', decide_eq_false_iff_not] at h1; exact h1)))) (fun h1 => ?_)
    show ha_RT ext 39 7 _ _ _ _ _
    rw [hm_bie, Bool.not_eq_false', decide_eq_true_eq] at h1
    refine ha_RT_sN [8, 9, 10] (pc' := 10) (L' := [some (.ref 0), some (.int d), some (.int t), some (.int n)]) (st' := [.int (Int32.ofInt 2), .int (Int32.ofInt 0), .int t]) rfl rfl ?_
    obtain ⟨n2, hc2⟩ := hm_ex44 hn t (Int32.ofInt 0) (Int32.ofInt 2) M
    refine ha_RT_call (virt := false) (a := 0) (x := 44) (y := 3) rfl rfl (by decide) (q := _) rfl ⟨rfl, Nat.le_of_ble_eq_true rfl, Nat.le_of_ble_eq_true rfl, Nat.le_refl 0, Nat.le_of_ble_eq_true rfl⟩ hc2 ?_
    show ha_RT ext 39 13 _ [.int (hm_bi (decide (0 ≤ t.toInt ∧ t.toInt ≤ 2)))] _ _ _
    refine ha_RT_if rfl (fun h2 => no (if_pos (Or.inr (Or.inl (by rw [hm_bie, Bool.not_eq_true', decide_eq_false_iff_not] at h2; exact h2))))) (fun h2 => ?_)
    show ha_RT ext 39 16 _ _ _ _ _
    rw [hm_bie, Bool.not_eq_false', decide_eq_true_eq] at h2
    refine ha_RT_sN [17, 19] (pc' := 19) (L' := [some (.ref 0), some (.int d), some (.int t), some (.int n)]) (st' := [.int (Int32.ofInt 100), .int n]) rfl rfl ?_
    refine ha_RT_ic rfl (fun h3 => ?_) (fun h3 => no (if_pos (Or.inr (Or.inr (by simp only [hz_cmp, decide_eq_false_iff_not, Int32.le_iff_toInt_le, show (Int32.ofInt 100).toInt = 100 from rfl] at h3; omega)))))
    show ha_RT ext 39 24 _ _ _ _ _
    simp only [hz_cmp, decide_eq_true_eq, Int32.le_iff_toInt_le, show (Int32.ofInt 100).toInt = 100 from rfl] at h3
    have hg : ¬ (¬ (0 ≤ d.toInt ∧ d.toInt ≤ 7) ∨ ¬ (0 ≤ t.toInt ∧ t.toInt ≤ 2) ∨ 100 < n.toInt) := by omega
    refine ha_RT_sN [25] (pc' := 25) (L' := [some (.ref 0), some (.int d), some (.int t), some (.int n)]) (st' := [.int n]) rfl rfl ?_
    refine ha_RT_if rfl (fun h5 => ?_) (fun h5 => ?_)
    case' refine_2 =>
      show ha_RT ext 39 28 _ _ _ _ _
      simp only [hz_cmp, decide_eq_false_iff_not, Int32.le_iff_toInt_le, show (0 : Int32).toInt = 0 from rfl] at h5
      have e : sp_row σ d t n = (Int32.ofInt (-14), σ) := (if_neg hg).trans (if_pos (by omega))
      refine ha_RT_sN [30] (pc' := 30) (L' := [some (.ref 0), some (.int d), some (.int t), some (.int n)]) (st' := [.int (Int32.ofInt (-14))]) rfl rfl ?_
      refine ha_RT_ret (rv := some (.int (Int32.ofInt (-14)))) rfl rfl rfl rfl ?_
      rw [e]
      exact ⟨rfl, ⟨hi, rfl, fun _ _ => rfl⟩, hC⟩
    show ha_RT ext 39 31 _ _ _ _ _
    simp only [hz_cmp, decide_eq_true_eq, Int32.le_iff_toInt_le, show (0 : Int32).toInt = 0 from rfl] at h5
    have e : sp_row σ d t n = (Int32.ofInt 0, hs_u σ d.toNatClampNeg (2, t, n, fun _ => 0)) := (if_neg hg).trans (if_neg (by omega))
    have hd8 : d.toNatClampNeg < 8 := by show d.toInt.toNat < 8; omega
    obtain ⟨vs0, hO, h4⟩ := hm_fld4 hi
    obtain ⟨fr, hR, hf⟩ := hm_row hi
    obtain ⟨vs, fe, s1, s2, s3, s4, s5, s6⟩ := hC d.toNatClampNeg hd8
    have hsp := hs_shp hi hd8 s1
    refine ha_RT_sN [32] (pc' := 32) (L' := [some (.ref 0), some (.int d), some (.int t), some (.int n)]) (st' := [.ref 0]) rfl rfl ?_
    refine ha_RT_mem rfl rfl (hm_rd hO h4 _ _) ?_
    show ha_RT ext 39 35 _ _ _ _ _
    refine ha_RT_sN [36] (pc' := 36) (L' := [some (.ref 0), some (.int d), some (.int t), some (.int n)]) (st' := [.int d, .ref 28]) rfl rfl ?_
    refine ha_RT_mem rfl rfl (hm_aal hR hf h1.1 h1.2 _ _ _) ?_
    show ha_RT ext 39 37 _ _ _ _ _
    refine ha_RT_sN [38, 39] (pc' := 39) (L' := [some (.ref 0), some (.int d), some (.int t), some (.int n)]) (st' := [.int n, .int t, .ref (29 + 2 * d.toNatClampNeg)]) rfl rfl ?_
    obtain ⟨n5, fe2, hz, hc5⟩ := hs_tr172 hn s1 s2 s4 (by omega) s5 t n
    refine ha_RT_call (virt := true) (a := 0) (x := 172) (y := 3) rfl rfl (by decide) (q := _) rfl ⟨by
      show hz_rcv 0 [.ref (29 + 2 * d.toNatClampNeg), .int t, .int n] M = true
      simp [hz_rcv, s1], Nat.le_of_ble_eq_true rfl, Nat.le_of_ble_eq_true rfl, Nat.le_refl 0, Nat.le_of_ble_eq_true rfl⟩ hc5 ?_
    show ha_RT ext 39 42 _ [] _ _ _
    refine ha_RT_sN [43] (pc' := 43) (L' := [some (.ref 0), some (.int d), some (.int t), some (.int n)]) (st' := [.int (Int32.ofInt 0)]) rfl rfl ?_
    refine ha_RT_ret (rv := some (.int (Int32.ofInt 0))) rfl rfl rfl rfl ?_
    rw [e]
    have w1 := hs_wkeep hi hd8 s1 (vs' := ((vs.set 0 (.int 2)).set 3 (.int t)).set 4 (.int n)) (fun sh hsh => by
      cases (hm_Wsh _ hd8).1.symm.trans hsh
      exact hm_shps (hm_shps (hm_shps hsp (y := 0) (lo := 0) (hi := 2) rfl (by decide) (by decide)) (y := 3) (lo := 0) (hi := 2) rfl h2.1 h2.2) (y := 4) (lo := 0) (hi := 100) rfl (by omega) (by omega))
    have hB1 : (M.set (29 + 2 * d.toNatClampNeg) (.inr (0, ((vs.set 0 (.int 2)).set 3 (.int t)).set 4 (.int n))))[30 + 2 * d.toNatClampNeg]? = some (.inl (0, 100, .inl fe)) := by rw [List.getElem?_set_ne (by omega)]; exact s5
    have w2 := ha_wok_set w1 hB1 (e := .inl (0, 100, .inl fe2)) (hm_Wcm _ hd8) (fun sh hsh => by
      cases (hm_Wsh _ hd8).2.symm.trans hsh
      exact ⟨rfl, rfl, fun _ _ => ha_rng _⟩)
    refine ⟨rfl, w2, hs_C_set hC ⟨((vs.set 0 (.int 2)).set 3 (.int t)).set 4 (.int n), fe2, ?_, by simp only [List.length_set]; exact s2, ?_, ?_, hs_gs hB1, fun q => absurd (show (2 : Int32) = 1 from q) (by decide), fun _ => ⟨?_, ?_, hz⟩⟩ (fun j j1 j2 => by rw [List.getElem?_set_ne (fun z => j2 z.symm), List.getElem?_set_ne (fun z => j1 z.symm)])⟩
    · rw [List.getElem?_set_ne (by omega)]; exact hs_gs s1
    · rw [List.getElem?_set_ne (by decide), List.getElem?_set_ne (by decide)]; exact List.getElem?_set_self (by omega)
    · rw [List.getElem?_set_ne (by decide), List.getElem?_set_ne (by decide), List.getElem?_set_ne (by decide)]; exact s4
    · rw [List.getElem?_set_ne (by decide)]; exact List.getElem?_set_self (by simp only [List.length_set]; omega)
    · exact List.getElem?_set_self (by simp only [List.length_set]; omega)
  obtain ⟨n, rv, M', h1, rfl, h2⟩ := key
  exact ⟨n, M', hm_toC hn (q := hzq_39) rfl (by decide) h1, h2⟩
end HS
