section HK
variable {ext : Nat → List Value → hzMem → Option (Option (Option Value × hzMem))}
/-- a Street's object, read -/
theorem hm_str {W : List ha_sh} {M : hzMem} {b : Nat} {fs : List ((Int × Int) ⊕ Nat)} (hi : ha_inv W M) (hW : W[b]? = some (.inl (1, fs))) : ∃ ws, M[b]? = some (.inr (1, ws)) ∧ ws.length = fs.length ∧ ∀ (y : Nat) (I : (Int × Int) ⊕ Nat) (v : Value), fs[y]? = some I → ws[y]? = some v → ha_fld I v := by
  obtain ⟨e, hM, hs⟩ := hi b _ hW
  match e, hM, hs with
  | .inr (c, ws), hM, hs =>
    obtain ⟨rfl, h1, h2⟩ := hs
    exact ⟨ws, hM, h1, h2⟩
  | .inl _, _, hs => exact hs.elim
abbrev hm_fs (b : Nat) : List ((Int × Int) ⊕ Nat) := [.inr (b + 1), .inl ((-2147483648), 2147483647), .inl (0, 23), .inl ((-2147483648), 2147483647), .inl (0, 6), .inr (b + 2), .inr (b + 3), .inr (b + 4), .inl (0, 8), .inr (b + 5), .inr (b + 6), .inr (b + 7), .inr (b + 8)]
theorem hm_any (x : Int32) : (-2147483648 : Int) ≤ x.toInt ∧ x.toInt ≤ 2147483647 := ha_rng x
set_option maxHeartbeats 4000000 in
set_option maxRecDepth 10000 in
theorem hm_clock {W : List ha_sh} (hn : ∀ (x : Nat) (As : List Value) (M : hzMem) (q : hzN), hzM[x]? = some q → q.2.2.2.2.2.2.2.2.1 ≠ 0 → ext x As M = none) (b : Nat) (hW : W[b]? = some (.inl (1, hm_fs b))) : ha_val ext W (202, [.inr (.inl b)], none, [b]) := by
  intro As M hA hi q hq
  have hAs : As = [.ref b] := by
    match As, hA with
    | [x], hA => rw [show x = .ref b from hA.1]
    | [], hA => exact hA.elim
    | _ :: _ :: _, hA => exact hA.2.elim
  subst hAs
  cases hq
  obtain ⟨ws, hM, hlen, hf⟩ := hm_str hi hW
  have hlen : ws.length = 13 := hlen
  have g2 : ws[2]? = some ws[2] := List.getElem?_eq_getElem (by omega)
  have g3 : ws[3]? = some ws[3] := List.getElem?_eq_getElem (by omega)
  obtain ⟨h, eh, h0, h23⟩ := hf 2 _ _ rfl g2
  obtain ⟨d, ed, _, _⟩ := hf 3 _ _ rfl g3
  rw [eh] at g2
  rw [ed] at g3
  have hbl : b < M.length := (List.getElem?_eq_some_iff.mp hM).1
  have pfI : ∀ (z : Int32) (y : Nat), y = 2 ∨ y = 3 → hz_fit 1 y (.int z) = true := fun z y hy => ha_pf_ok (Or.inl (by rcases hy with rfl | rfl <;> decide +kernel))
  -- the field written
  have wr : ∀ (M1 : hzMem) (vs : List Value) (y : Nat) (z : Int32) (i : Nat) (r : List Value), M1[b]? = some (.inr (1, vs)) → vs.length = 13 → (y = 2 ∨ y = 3) → hz_mem (.putfield i) 1 y (.int z :: .ref b :: r) M1 = some (r, M1.set b (.inr (1, vs.set y (.int z)))) := by
    intro M1 vs y z i r h1 h2 hy
    have : y < vs.length := by rcases hy with rfl | rfl <;> omega
    simp only [hz_mem, h1, pfI z y hy, this, and_self, if_true]
  have rd : ∀ (M1 : hzMem) (vs : List Value) (y : Nat) (v : Value) (i : Nat) (r : List Value), M1[b]? = some (.inr (1, vs)) → vs[y]? = some v → hz_mem (.getfield i) 1 y (.ref b :: r) M1 = some (v :: r, M1) := by
    intro M1 vs y v i r h1 h2
    simp only [hz_mem, h1, if_true, h2, Option.map_some]
  have st : ∀ (M1 : hzMem) (e), b < M1.length → (M1.set b e)[b]? = some e := fun M1 e h => List.getElem?_set_self h
  have good : ∀ (x y : Int32), 0 ≤ x.toInt → x.toInt ≤ 23 → ha_wok W [b] M (M.set b (.inr (1, (ws.set 2 (.int x)).set 3 (.int y)))) := by
    intro x y x0 x1
    refine ha_wok_set (⟨hi, rfl, fun j _ => rfl⟩) hM (List.mem_singleton.mpr rfl) (fun sh hsh => ?_)
    cases hW.symm.trans hsh
    refine ⟨rfl, by rw [List.length_set, List.length_set]; exact hlen, fun k I v hI hv => ?_⟩
    by_cases e3 : k = 3
    · subst e3
      cases hI
      rw [List.getElem?_set_self (by rw [List.length_set]; omega)] at hv
      cases hv
      exact ⟨y, rfl, (hm_any y).1, (hm_any y).2⟩
    · rw [List.getElem?_set_ne (fun q => e3 q.symm)] at hv
      by_cases e2 : k = 2
      · subst e2
        cases hI
        rw [List.getElem?_set_self (by omega)] at hv
        cases hv
        exact ⟨x, rfl, x0, x1⟩
      · rw [List.getElem?_set_ne (fun q => e2 q.symm)] at hv
        exact hf k I v hI hv
  have key : ha_RT ext 202 0 [some (.ref b)] [] M 0 (fun rv M' => rv = none ∧ ha_wok W [b] M M') := by
    refine ha_RT_sN [1, 2] (pc' := 2) (L' := [some (.ref b)]) (st' := [.ref b, .ref b]) rfl rfl ?_
    refine ha_RT_mem rfl rfl (rd M ws 2 _ _ _ hM g2) ?_
    show ha_RT ext 202 5 _ _ _ _ _
    refine ha_RT_sN [6, 7] (pc' := 7) (L' := [some (.ref b)]) (st' := [.int (h + Int32.ofInt 1), .ref b]) rfl rfl ?_
    refine ha_RT_mem rfl rfl (wr M ws 2 _ _ _ hM hlen (Or.inl rfl)) ?_
    have hM1 := st M (.inr (1, ws.set 2 (.int (h + Int32.ofInt 1)))) hbl
    have hb1 : b < (M.set b (.inr (1, ws.set 2 (.int (h + Int32.ofInt 1))))).length := by rw [List.length_set]; exact hbl
    have k2 : (ws.set 2 (.int (h + Int32.ofInt 1)))[2]? = some (.int (h + Int32.ofInt 1)) := List.getElem?_set_self (by omega)
    show ha_RT ext 202 10 _ _ _ _ _
    refine ha_RT_sN [11] (pc' := 11) (L' := [some (.ref b)]) (st' := [.ref b]) rfl rfl ?_
    refine ha_RT_mem rfl rfl (rd _ _ 2 _ _ _ hM1 k2) ?_
    show ha_RT ext 202 14 _ _ _ _ _
    refine ha_RT_sN [16] (pc' := 16) (L' := [some (.ref b)]) (st' := [.int (Int32.ofInt 24), .int (h + Int32.ofInt 1)]) rfl rfl ?_
    have hadd : (h + Int32.ofInt 1).toInt = h.toInt + 1 := by
      rw [Int32.toInt_add, show (Int32.ofInt 1).toInt = 1 from rfl]
      exact ha_bm (by unfold ha_lo; omega) (by unfold ha_hi; omega)
    cases hc : hz_cmp .lt (h + Int32.ofInt 1) (Int32.ofInt 24) with
    | true =>
      refine ha_RT_br (pc' := 34) (st' := []) rfl rfl (by simp only [hz_br, hc, if_true]) ?_
      refine ha_RT_ret (rv := none) rfl rfl rfl rfl ⟨rfl, ?_⟩
      have hlt : (h + Int32.ofInt 1).toInt < 24 := by
        simp only [hz_cmp, decide_eq_true_eq, Int32.lt_iff_toInt_lt] at hc
        exact hc
      have := good (h + Int32.ofInt 1) d (by omega) (by omega)
      have e : (ws.set 2 (.int (h + Int32.ofInt 1))).set 3 (.int d) = ws.set 2 (.int (h + Int32.ofInt 1)) := by
        apply List.ext_getElem?
        intro j
        by_cases e3 : j = 3
        · subst e3
          rw [List.getElem?_set_self (by rw [List.length_set]; omega), List.getElem?_set_ne (by decide), g3]
        · rw [List.getElem?_set_ne (fun q => e3 q.symm)]
      rw [e] at this
      exact this
    | false =>
      refine ha_RT_br (pc' := 19) (st' := []) rfl rfl (by simp only [hz_br, hc, Bool.false_eq_true, if_false]) ?_
      show ha_RT ext 202 19 _ _ _ _ _
      refine ha_RT_sN [20, 21] (pc' := 21) (L' := [some (.ref b)]) (st' := [.int (Int32.ofInt 0), .ref b]) rfl rfl ?_
      refine ha_RT_mem rfl rfl (wr _ _ 2 _ _ _ hM1 (by rw [List.length_set]; exact hlen) (Or.inl rfl)) ?_
      rw [List.set_set, List.set_set]
      have hM2 := st M (.inr (1, ws.set 2 (.int (Int32.ofInt 0)))) hbl
      have k3 : (ws.set 2 (.int (Int32.ofInt 0)))[3]? = some (.int d) := by rw [List.getElem?_set_ne (by decide)]; exact g3
      show ha_RT ext 202 24 _ _ _ _ _
      refine ha_RT_sN [25, 26] (pc' := 26) (L' := [some (.ref b)]) (st' := [.ref b, .ref b]) rfl rfl ?_
      refine ha_RT_mem rfl rfl (rd _ _ 3 _ _ _ hM2 k3) ?_
      show ha_RT ext 202 29 _ _ _ _ _
      refine ha_RT_sN [30, 31] (pc' := 31) (L' := [some (.ref b)]) (st' := [.int (d + Int32.ofInt 1), .ref b]) rfl rfl ?_
      refine ha_RT_mem rfl rfl (wr _ _ 3 _ _ _ hM2 (by rw [List.length_set]; exact hlen) (Or.inr rfl)) ?_
      rw [List.set_set]
      show ha_RT ext 202 34 _ _ _ _ _
      exact ha_RT_ret (rv := none) rfl rfl rfl rfl ⟨rfl, good (Int32.ofInt 0) (d + Int32.ofInt 1) (by decide) (by decide)⟩
  obtain ⟨n, rv, M', h1, rfl, hw⟩ := key
  refine ⟨n, none, M', ?_, (show True from trivial), hw⟩
  unfold ha_C
  rw [hn 202 _ _ _ rfl (by decide)]
  exact h1
end HK
