section HR
/-- the ints of a memory -/
def hp_rd (M : hzMem) : hp_S := fun i j => match M[i]? with
  | some (.inl (_, _, .inl f)) => f j
  | some (.inr (_, vs)) => (match vs[j]? with
    | some (.int v) => v
    | _ => 0)
  | _ => 0
theorem hp_rda {M : hzMem} {i n t : Nat} {f : Nat → Int32} (h : M[i]? = some (.inl (t, n, .inl f))) : hp_rd M i = f := by
  funext j
  unfold hp_rd
  rw [h]
theorem hp_rdo {M : hzMem} {i c j : Nat} {vs : List Value} {v : Int32} (h : M[i]? = some (.inr (c, vs))) (hv : vs[j]? = some (.int v)) : hp_rd M i j = v := by
  unfold hp_rd
  rw [h]
  dsimp only
  rw [hv]
theorem hp_rdx {M M' : hzMem} {i : Nat} (h : M'[i]? = M[i]?) : hp_rd M' i = hp_rd M i := by
  funext j
  unfold hp_rd
  rw [h]
/-- a cell of the world is as its ints tell -/
theorem hp_ca {M : hzMem} (hi : ha_inv hw_W M) {k n : Nat} {d : Int × Int} {ex : List (Nat × Int × Int)} (h : hw_W[k]? = some (.inr (.inl (n, d, ex)))) : M[k]? = some (.inl (0, n, .inl (hp_rd M k))) := by
  obtain ⟨e, he, hs⟩ := hi _ _ h
  match e, hs with
  | .inl (t, m, .inl f), ⟨ht, hm, _⟩ =>
    subst ht
    subst hm
    rw [hp_rda he]
    exact he
theorem hp_fi {I : (Int × Int) ⊕ Nat} {v : Value} (h : ha_fld I v) : (match I with | .inl _ => ∃ x : Int32, v = .int x | .inr r => v = .ref r) := by
  match I, h with
  | .inl q, h => obtain ⟨x, hx, _⟩ := h; exact ⟨x, hx⟩
  | .inr r, h => exact h
theorem hp_o0 {M : hzMem} (hi : ha_inv hw_W M) : M[0]? = some (.inr (2, [.ref 1, .ref 10, .ref 19, .int (hp_rd M 0 3), .ref 28, .ref 45, .ref 46])) := by
  obtain ⟨e, he, hs⟩ := hi 0 _ rfl
  match e, hs with
  | .inr (c, vs), ⟨hc, hl, hf⟩ =>
    subst hc
    match vs, hl with
    | [v0, v1, v2, v3, v4, v5, v6], _ =>
      have e0 : v0 = .ref 1 := hp_fi (hf 0 _ v0 rfl rfl)
      have e1 : v1 = .ref 10 := hp_fi (hf 1 _ v1 rfl rfl)
      have e2 : v2 = .ref 19 := hp_fi (hf 2 _ v2 rfl rfl)
      obtain ⟨x3, e3⟩ := hp_fi (hf 3 _ v3 rfl rfl)
      have e4 : v4 = .ref 28 := hp_fi (hf 4 _ v4 rfl rfl)
      have e5 : v5 = .ref 45 := hp_fi (hf 5 _ v5 rfl rfl)
      have e6 : v6 = .ref 46 := hp_fi (hf 6 _ v6 rfl rfl)
      subst e0 e1 e2 e3 e4 e5 e6
      rw [hp_rdo (j := 3) he rfl]
      exact he
theorem hp_o1 {M : hzMem} (hi : ha_inv hw_W M) : M[1]? = some (.inr (1, [.ref 2, .int (hp_rd M 1 1), .int (hp_rd M 1 2), .int (hp_rd M 1 3), .int (hp_rd M 1 4), .ref 3, .ref 4, .ref 5, .int (hp_rd M 1 8), .ref 6, .ref 7, .ref 8, .ref 9])) := by
  obtain ⟨e, he, hs⟩ := hi 1 _ rfl
  match e, hs with
  | .inr (c, vs), ⟨hc, hl, hf⟩ =>
    subst hc
    match vs, hl with
    | [v0, v1, v2, v3, v4, v5, v6, v7, v8, v9, v10, v11, v12], _ =>
      have e0 : v0 = .ref 2 := hp_fi (hf 0 _ v0 rfl rfl)
      obtain ⟨x1, e1⟩ := hp_fi (hf 1 _ v1 rfl rfl)
      obtain ⟨x2, e2⟩ := hp_fi (hf 2 _ v2 rfl rfl)
      obtain ⟨x3, e3⟩ := hp_fi (hf 3 _ v3 rfl rfl)
      obtain ⟨x4, e4⟩ := hp_fi (hf 4 _ v4 rfl rfl)
      have e5 : v5 = .ref 3 := hp_fi (hf 5 _ v5 rfl rfl)
      have e6 : v6 = .ref 4 := hp_fi (hf 6 _ v6 rfl rfl)
      have e7 : v7 = .ref 5 := hp_fi (hf 7 _ v7 rfl rfl)
      obtain ⟨x8, e8⟩ := hp_fi (hf 8 _ v8 rfl rfl)
      have e9 : v9 = .ref 6 := hp_fi (hf 9 _ v9 rfl rfl)
      have e10 : v10 = .ref 7 := hp_fi (hf 10 _ v10 rfl rfl)
      have e11 : v11 = .ref 8 := hp_fi (hf 11 _ v11 rfl rfl)
      have e12 : v12 = .ref 9 := hp_fi (hf 12 _ v12 rfl rfl)
      subst e0 e1 e2 e3 e4 e5 e6 e7 e8 e9 e10 e11 e12
      rw [hp_rdo (j := 1) he rfl]
      rw [hp_rdo (j := 2) he rfl]
      rw [hp_rdo (j := 3) he rfl]
      rw [hp_rdo (j := 4) he rfl]
      rw [hp_rdo (j := 8) he rfl]
      exact he
theorem hp_o10 {M : hzMem} (hi : ha_inv hw_W M) : M[10]? = some (.inr (1, [.ref 11, .int (hp_rd M 10 1), .int (hp_rd M 10 2), .int (hp_rd M 10 3), .int (hp_rd M 10 4), .ref 12, .ref 13, .ref 14, .int (hp_rd M 10 8), .ref 15, .ref 16, .ref 17, .ref 18])) := by
  obtain ⟨e, he, hs⟩ := hi 10 _ rfl
  match e, hs with
  | .inr (c, vs), ⟨hc, hl, hf⟩ =>
    subst hc
    match vs, hl with
    | [v0, v1, v2, v3, v4, v5, v6, v7, v8, v9, v10, v11, v12], _ =>
      have e0 : v0 = .ref 11 := hp_fi (hf 0 _ v0 rfl rfl)
      obtain ⟨x1, e1⟩ := hp_fi (hf 1 _ v1 rfl rfl)
      obtain ⟨x2, e2⟩ := hp_fi (hf 2 _ v2 rfl rfl)
      obtain ⟨x3, e3⟩ := hp_fi (hf 3 _ v3 rfl rfl)
      obtain ⟨x4, e4⟩ := hp_fi (hf 4 _ v4 rfl rfl)
      have e5 : v5 = .ref 12 := hp_fi (hf 5 _ v5 rfl rfl)
      have e6 : v6 = .ref 13 := hp_fi (hf 6 _ v6 rfl rfl)
      have e7 : v7 = .ref 14 := hp_fi (hf 7 _ v7 rfl rfl)
      obtain ⟨x8, e8⟩ := hp_fi (hf 8 _ v8 rfl rfl)
      have e9 : v9 = .ref 15 := hp_fi (hf 9 _ v9 rfl rfl)
      have e10 : v10 = .ref 16 := hp_fi (hf 10 _ v10 rfl rfl)
      have e11 : v11 = .ref 17 := hp_fi (hf 11 _ v11 rfl rfl)
      have e12 : v12 = .ref 18 := hp_fi (hf 12 _ v12 rfl rfl)
      subst e0 e1 e2 e3 e4 e5 e6 e7 e8 e9 e10 e11 e12
      rw [hp_rdo (j := 1) he rfl]
      rw [hp_rdo (j := 2) he rfl]
      rw [hp_rdo (j := 3) he rfl]
      rw [hp_rdo (j := 4) he rfl]
      rw [hp_rdo (j := 8) he rfl]
      exact he
theorem hp_o19 {M : hzMem} (hi : ha_inv hw_W M) : M[19]? = some (.inr (1, [.ref 20, .int (hp_rd M 19 1), .int (hp_rd M 19 2), .int (hp_rd M 19 3), .int (hp_rd M 19 4), .ref 21, .ref 22, .ref 23, .int (hp_rd M 19 8), .ref 24, .ref 25, .ref 26, .ref 27])) := by
  obtain ⟨e, he, hs⟩ := hi 19 _ rfl
  match e, hs with
  | .inr (c, vs), ⟨hc, hl, hf⟩ =>
    subst hc
    match vs, hl with
    | [v0, v1, v2, v3, v4, v5, v6, v7, v8, v9, v10, v11, v12], _ =>
      have e0 : v0 = .ref 20 := hp_fi (hf 0 _ v0 rfl rfl)
      obtain ⟨x1, e1⟩ := hp_fi (hf 1 _ v1 rfl rfl)
      obtain ⟨x2, e2⟩ := hp_fi (hf 2 _ v2 rfl rfl)
      obtain ⟨x3, e3⟩ := hp_fi (hf 3 _ v3 rfl rfl)
      obtain ⟨x4, e4⟩ := hp_fi (hf 4 _ v4 rfl rfl)
      have e5 : v5 = .ref 21 := hp_fi (hf 5 _ v5 rfl rfl)
      have e6 : v6 = .ref 22 := hp_fi (hf 6 _ v6 rfl rfl)
      have e7 : v7 = .ref 23 := hp_fi (hf 7 _ v7 rfl rfl)
      obtain ⟨x8, e8⟩ := hp_fi (hf 8 _ v8 rfl rfl)
      have e9 : v9 = .ref 24 := hp_fi (hf 9 _ v9 rfl rfl)
      have e10 : v10 = .ref 25 := hp_fi (hf 10 _ v10 rfl rfl)
      have e11 : v11 = .ref 26 := hp_fi (hf 11 _ v11 rfl rfl)
      have e12 : v12 = .ref 27 := hp_fi (hf 12 _ v12 rfl rfl)
      subst e0 e1 e2 e3 e4 e5 e6 e7 e8 e9 e10 e11 e12
      rw [hp_rdo (j := 1) he rfl]
      rw [hp_rdo (j := 2) he rfl]
      rw [hp_rdo (j := 3) he rfl]
      rw [hp_rdo (j := 4) he rfl]
      rw [hp_rdo (j := 8) he rfl]
      exact he
theorem hp_o29 {M : hzMem} (hi : ha_inv hw_W M) : M[29]? = some (.inr (0, [.int (hp_rd M 29 0), .int (hp_rd M 29 1), .int (hp_rd M 29 2), .int (hp_rd M 29 3), .int (hp_rd M 29 4), .ref 30])) := by
  obtain ⟨e, he, hs⟩ := hi 29 _ rfl
  match e, hs with
  | .inr (c, vs), ⟨hc, hl, hf⟩ =>
    subst hc
    match vs, hl with
    | [v0, v1, v2, v3, v4, v5], _ =>
      obtain ⟨x0, e0⟩ := hp_fi (hf 0 _ v0 rfl rfl)
      obtain ⟨x1, e1⟩ := hp_fi (hf 1 _ v1 rfl rfl)
      obtain ⟨x2, e2⟩ := hp_fi (hf 2 _ v2 rfl rfl)
      obtain ⟨x3, e3⟩ := hp_fi (hf 3 _ v3 rfl rfl)
      obtain ⟨x4, e4⟩ := hp_fi (hf 4 _ v4 rfl rfl)
      have e5 : v5 = .ref 30 := hp_fi (hf 5 _ v5 rfl rfl)
      subst e0 e1 e2 e3 e4 e5
      rw [hp_rdo (j := 0) he rfl]
      rw [hp_rdo (j := 1) he rfl]
      rw [hp_rdo (j := 2) he rfl]
      rw [hp_rdo (j := 3) he rfl]
      rw [hp_rdo (j := 4) he rfl]
      exact he
theorem hp_o31 {M : hzMem} (hi : ha_inv hw_W M) : M[31]? = some (.inr (0, [.int (hp_rd M 31 0), .int (hp_rd M 31 1), .int (hp_rd M 31 2), .int (hp_rd M 31 3), .int (hp_rd M 31 4), .ref 32])) := by
  obtain ⟨e, he, hs⟩ := hi 31 _ rfl
  match e, hs with
  | .inr (c, vs), ⟨hc, hl, hf⟩ =>
    subst hc
    match vs, hl with
    | [v0, v1, v2, v3, v4, v5], _ =>
      obtain ⟨x0, e0⟩ := hp_fi (hf 0 _ v0 rfl rfl)
      obtain ⟨x1, e1⟩ := hp_fi (hf 1 _ v1 rfl rfl)
      obtain ⟨x2, e2⟩ := hp_fi (hf 2 _ v2 rfl rfl)
      obtain ⟨x3, e3⟩ := hp_fi (hf 3 _ v3 rfl rfl)
      obtain ⟨x4, e4⟩ := hp_fi (hf 4 _ v4 rfl rfl)
      have e5 : v5 = .ref 32 := hp_fi (hf 5 _ v5 rfl rfl)
      subst e0 e1 e2 e3 e4 e5
      rw [hp_rdo (j := 0) he rfl]
      rw [hp_rdo (j := 1) he rfl]
      rw [hp_rdo (j := 2) he rfl]
      rw [hp_rdo (j := 3) he rfl]
      rw [hp_rdo (j := 4) he rfl]
      exact he
theorem hp_o33 {M : hzMem} (hi : ha_inv hw_W M) : M[33]? = some (.inr (0, [.int (hp_rd M 33 0), .int (hp_rd M 33 1), .int (hp_rd M 33 2), .int (hp_rd M 33 3), .int (hp_rd M 33 4), .ref 34])) := by
  obtain ⟨e, he, hs⟩ := hi 33 _ rfl
  match e, hs with
  | .inr (c, vs), ⟨hc, hl, hf⟩ =>
    subst hc
    match vs, hl with
    | [v0, v1, v2, v3, v4, v5], _ =>
      obtain ⟨x0, e0⟩ := hp_fi (hf 0 _ v0 rfl rfl)
      obtain ⟨x1, e1⟩ := hp_fi (hf 1 _ v1 rfl rfl)
      obtain ⟨x2, e2⟩ := hp_fi (hf 2 _ v2 rfl rfl)
      obtain ⟨x3, e3⟩ := hp_fi (hf 3 _ v3 rfl rfl)
      obtain ⟨x4, e4⟩ := hp_fi (hf 4 _ v4 rfl rfl)
      have e5 : v5 = .ref 34 := hp_fi (hf 5 _ v5 rfl rfl)
      subst e0 e1 e2 e3 e4 e5
      rw [hp_rdo (j := 0) he rfl]
      rw [hp_rdo (j := 1) he rfl]
      rw [hp_rdo (j := 2) he rfl]
      rw [hp_rdo (j := 3) he rfl]
      rw [hp_rdo (j := 4) he rfl]
      exact he
theorem hp_o35 {M : hzMem} (hi : ha_inv hw_W M) : M[35]? = some (.inr (0, [.int (hp_rd M 35 0), .int (hp_rd M 35 1), .int (hp_rd M 35 2), .int (hp_rd M 35 3), .int (hp_rd M 35 4), .ref 36])) := by
  obtain ⟨e, he, hs⟩ := hi 35 _ rfl
  match e, hs with
  | .inr (c, vs), ⟨hc, hl, hf⟩ =>
    subst hc
    match vs, hl with
    | [v0, v1, v2, v3, v4, v5], _ =>
      obtain ⟨x0, e0⟩ := hp_fi (hf 0 _ v0 rfl rfl)
      obtain ⟨x1, e1⟩ := hp_fi (hf 1 _ v1 rfl rfl)
      obtain ⟨x2, e2⟩ := hp_fi (hf 2 _ v2 rfl rfl)
      obtain ⟨x3, e3⟩ := hp_fi (hf 3 _ v3 rfl rfl)
      obtain ⟨x4, e4⟩ := hp_fi (hf 4 _ v4 rfl rfl)
      have e5 : v5 = .ref 36 := hp_fi (hf 5 _ v5 rfl rfl)
      subst e0 e1 e2 e3 e4 e5
      rw [hp_rdo (j := 0) he rfl]
      rw [hp_rdo (j := 1) he rfl]
      rw [hp_rdo (j := 2) he rfl]
      rw [hp_rdo (j := 3) he rfl]
      rw [hp_rdo (j := 4) he rfl]
      exact he
theorem hp_o37 {M : hzMem} (hi : ha_inv hw_W M) : M[37]? = some (.inr (0, [.int (hp_rd M 37 0), .int (hp_rd M 37 1), .int (hp_rd M 37 2), .int (hp_rd M 37 3), .int (hp_rd M 37 4), .ref 38])) := by
  obtain ⟨e, he, hs⟩ := hi 37 _ rfl
  match e, hs with
  | .inr (c, vs), ⟨hc, hl, hf⟩ =>
    subst hc
    match vs, hl with
    | [v0, v1, v2, v3, v4, v5], _ =>
      obtain ⟨x0, e0⟩ := hp_fi (hf 0 _ v0 rfl rfl)
      obtain ⟨x1, e1⟩ := hp_fi (hf 1 _ v1 rfl rfl)
      obtain ⟨x2, e2⟩ := hp_fi (hf 2 _ v2 rfl rfl)
      obtain ⟨x3, e3⟩ := hp_fi (hf 3 _ v3 rfl rfl)
      obtain ⟨x4, e4⟩ := hp_fi (hf 4 _ v4 rfl rfl)
      have e5 : v5 = .ref 38 := hp_fi (hf 5 _ v5 rfl rfl)
      subst e0 e1 e2 e3 e4 e5
      rw [hp_rdo (j := 0) he rfl]
      rw [hp_rdo (j := 1) he rfl]
      rw [hp_rdo (j := 2) he rfl]
      rw [hp_rdo (j := 3) he rfl]
      rw [hp_rdo (j := 4) he rfl]
      exact he
theorem hp_o39 {M : hzMem} (hi : ha_inv hw_W M) : M[39]? = some (.inr (0, [.int (hp_rd M 39 0), .int (hp_rd M 39 1), .int (hp_rd M 39 2), .int (hp_rd M 39 3), .int (hp_rd M 39 4), .ref 40])) := by
  obtain ⟨e, he, hs⟩ := hi 39 _ rfl
  match e, hs with
  | .inr (c, vs), ⟨hc, hl, hf⟩ =>
    subst hc
    match vs, hl with
    | [v0, v1, v2, v3, v4, v5], _ =>
      obtain ⟨x0, e0⟩ := hp_fi (hf 0 _ v0 rfl rfl)
      obtain ⟨x1, e1⟩ := hp_fi (hf 1 _ v1 rfl rfl)
      obtain ⟨x2, e2⟩ := hp_fi (hf 2 _ v2 rfl rfl)
      obtain ⟨x3, e3⟩ := hp_fi (hf 3 _ v3 rfl rfl)
      obtain ⟨x4, e4⟩ := hp_fi (hf 4 _ v4 rfl rfl)
      have e5 : v5 = .ref 40 := hp_fi (hf 5 _ v5 rfl rfl)
      subst e0 e1 e2 e3 e4 e5
      rw [hp_rdo (j := 0) he rfl]
      rw [hp_rdo (j := 1) he rfl]
      rw [hp_rdo (j := 2) he rfl]
      rw [hp_rdo (j := 3) he rfl]
      rw [hp_rdo (j := 4) he rfl]
      exact he
theorem hp_o41 {M : hzMem} (hi : ha_inv hw_W M) : M[41]? = some (.inr (0, [.int (hp_rd M 41 0), .int (hp_rd M 41 1), .int (hp_rd M 41 2), .int (hp_rd M 41 3), .int (hp_rd M 41 4), .ref 42])) := by
  obtain ⟨e, he, hs⟩ := hi 41 _ rfl
  match e, hs with
  | .inr (c, vs), ⟨hc, hl, hf⟩ =>
    subst hc
    match vs, hl with
    | [v0, v1, v2, v3, v4, v5], _ =>
      obtain ⟨x0, e0⟩ := hp_fi (hf 0 _ v0 rfl rfl)
      obtain ⟨x1, e1⟩ := hp_fi (hf 1 _ v1 rfl rfl)
      obtain ⟨x2, e2⟩ := hp_fi (hf 2 _ v2 rfl rfl)
      obtain ⟨x3, e3⟩ := hp_fi (hf 3 _ v3 rfl rfl)
      obtain ⟨x4, e4⟩ := hp_fi (hf 4 _ v4 rfl rfl)
      have e5 : v5 = .ref 42 := hp_fi (hf 5 _ v5 rfl rfl)
      subst e0 e1 e2 e3 e4 e5
      rw [hp_rdo (j := 0) he rfl]
      rw [hp_rdo (j := 1) he rfl]
      rw [hp_rdo (j := 2) he rfl]
      rw [hp_rdo (j := 3) he rfl]
      rw [hp_rdo (j := 4) he rfl]
      exact he
theorem hp_o43 {M : hzMem} (hi : ha_inv hw_W M) : M[43]? = some (.inr (0, [.int (hp_rd M 43 0), .int (hp_rd M 43 1), .int (hp_rd M 43 2), .int (hp_rd M 43 3), .int (hp_rd M 43 4), .ref 44])) := by
  obtain ⟨e, he, hs⟩ := hi 43 _ rfl
  match e, hs with
  | .inr (c, vs), ⟨hc, hl, hf⟩ =>
    subst hc
    match vs, hl with
    | [v0, v1, v2, v3, v4, v5], _ =>
      obtain ⟨x0, e0⟩ := hp_fi (hf 0 _ v0 rfl rfl)
      obtain ⟨x1, e1⟩ := hp_fi (hf 1 _ v1 rfl rfl)
      obtain ⟨x2, e2⟩ := hp_fi (hf 2 _ v2 rfl rfl)
      obtain ⟨x3, e3⟩ := hp_fi (hf 3 _ v3 rfl rfl)
      obtain ⟨x4, e4⟩ := hp_fi (hf 4 _ v4 rfl rfl)
      have e5 : v5 = .ref 44 := hp_fi (hf 5 _ v5 rfl rfl)
      subst e0 e1 e2 e3 e4 e5
      rw [hp_rdo (j := 0) he rfl]
      rw [hp_rdo (j := 1) he rfl]
      rw [hp_rdo (j := 2) he rfl]
      rw [hp_rdo (j := 3) he rfl]
      rw [hp_rdo (j := 4) he rfl]
      exact he
theorem hp_o47 {M : hzMem} (hi : ha_inv hw_W M) : M[47]? = some (.inr (3, [.ref 48, .ref 49, .ref 50, .ref 51, .int (hp_rd M 47 4), .int (hp_rd M 47 5), .int (hp_rd M 47 6), .int (hp_rd M 47 7), .ref 52, .int (hp_rd M 47 9), .ref 53, .ref 54, .ref 55, .ref 56, .ref 57, .ref 58, .int (hp_rd M 47 16)])) := by
  obtain ⟨e, he, hs⟩ := hi 47 _ rfl
  match e, hs with
  | .inr (c, vs), ⟨hc, hl, hf⟩ =>
    subst hc
    match vs, hl with
    | [v0, v1, v2, v3, v4, v5, v6, v7, v8, v9, v10, v11, v12, v13, v14, v15, v16], _ =>
      have e0 : v0 = .ref 48 := hp_fi (hf 0 _ v0 rfl rfl)
      have e1 : v1 = .ref 49 := hp_fi (hf 1 _ v1 rfl rfl)
      have e2 : v2 = .ref 50 := hp_fi (hf 2 _ v2 rfl rfl)
      have e3 : v3 = .ref 51 := hp_fi (hf 3 _ v3 rfl rfl)
      obtain ⟨x4, e4⟩ := hp_fi (hf 4 _ v4 rfl rfl)
      obtain ⟨x5, e5⟩ := hp_fi (hf 5 _ v5 rfl rfl)
      obtain ⟨x6, e6⟩ := hp_fi (hf 6 _ v6 rfl rfl)
      obtain ⟨x7, e7⟩ := hp_fi (hf 7 _ v7 rfl rfl)
      have e8 : v8 = .ref 52 := hp_fi (hf 8 _ v8 rfl rfl)
      obtain ⟨x9, e9⟩ := hp_fi (hf 9 _ v9 rfl rfl)
      have e10 : v10 = .ref 53 := hp_fi (hf 10 _ v10 rfl rfl)
      have e11 : v11 = .ref 54 := hp_fi (hf 11 _ v11 rfl rfl)
      have e12 : v12 = .ref 55 := hp_fi (hf 12 _ v12 rfl rfl)
      have e13 : v13 = .ref 56 := hp_fi (hf 13 _ v13 rfl rfl)
      have e14 : v14 = .ref 57 := hp_fi (hf 14 _ v14 rfl rfl)
      have e15 : v15 = .ref 58 := hp_fi (hf 15 _ v15 rfl rfl)
      obtain ⟨x16, e16⟩ := hp_fi (hf 16 _ v16 rfl rfl)
      subst e0 e1 e2 e3 e4 e5 e6 e7 e8 e9 e10 e11 e12 e13 e14 e15 e16
      rw [hp_rdo (j := 4) he rfl]
      rw [hp_rdo (j := 5) he rfl]
      rw [hp_rdo (j := 6) he rfl]
      rw [hp_rdo (j := 7) he rfl]
      rw [hp_rdo (j := 9) he rfl]
      rw [hp_rdo (j := 16) he rfl]
      exact he
/-- the world's memory, by its ints -/
theorem hp_of {M : hzMem} (hi : ha_inv hw_W M) (hl : M.length = 60) (hg : ∃ g : Nat → Int64, M[59]? = some (.inl (1, 1, .inr (.inl g)))) : ∃ X : hp_X, M = hp_mem X (hp_rd M) := by
  obtain ⟨g, hg⟩ := hg
  obtain ⟨f, hf, hf8⟩ := hm_row hi
  refine ⟨⟨(g, f), hf8⟩, List.ext_getElem? fun j => ?_⟩
  by_cases hj : j < 60
  · rw [hp_get _ _ hj]
    have : ∀ j : Nat, j < 60 → M[j]? = some (hp_cell ⟨(g, f), hf8⟩ j (hp_rd M j)) := by
      intro j hj
      match j, hj with
      | 0, _ => exact hp_o0 hi
      | 1, _ => exact hp_o1 hi
      | 2, _ => exact hp_ca hi (k := 2) rfl
      | 3, _ => exact hp_ca hi (k := 3) rfl
      | 4, _ => exact hp_ca hi (k := 4) rfl
      | 5, _ => exact hp_ca hi (k := 5) rfl
      | 6, _ => exact hp_ca hi (k := 6) rfl
      | 7, _ => exact hp_ca hi (k := 7) rfl
      | 8, _ => exact hp_ca hi (k := 8) rfl
      | 9, _ => exact hp_ca hi (k := 9) rfl
      | 10, _ => exact hp_o10 hi
      | 11, _ => exact hp_ca hi (k := 11) rfl
      | 12, _ => exact hp_ca hi (k := 12) rfl
      | 13, _ => exact hp_ca hi (k := 13) rfl
      | 14, _ => exact hp_ca hi (k := 14) rfl
      | 15, _ => exact hp_ca hi (k := 15) rfl
      | 16, _ => exact hp_ca hi (k := 16) rfl
      | 17, _ => exact hp_ca hi (k := 17) rfl
      | 18, _ => exact hp_ca hi (k := 18) rfl
      | 19, _ => exact hp_o19 hi
      | 20, _ => exact hp_ca hi (k := 20) rfl
      | 21, _ => exact hp_ca hi (k := 21) rfl
      | 22, _ => exact hp_ca hi (k := 22) rfl
      | 23, _ => exact hp_ca hi (k := 23) rfl
      | 24, _ => exact hp_ca hi (k := 24) rfl
      | 25, _ => exact hp_ca hi (k := 25) rfl
      | 26, _ => exact hp_ca hi (k := 26) rfl
      | 27, _ => exact hp_ca hi (k := 27) rfl
      | 28, _ => exact hf
      | 29, _ => exact hp_o29 hi
      | 30, _ => exact hp_ca hi (k := 30) rfl
      | 31, _ => exact hp_o31 hi
      | 32, _ => exact hp_ca hi (k := 32) rfl
      | 33, _ => exact hp_o33 hi
      | 34, _ => exact hp_ca hi (k := 34) rfl
      | 35, _ => exact hp_o35 hi
      | 36, _ => exact hp_ca hi (k := 36) rfl
      | 37, _ => exact hp_o37 hi
      | 38, _ => exact hp_ca hi (k := 38) rfl
      | 39, _ => exact hp_o39 hi
      | 40, _ => exact hp_ca hi (k := 40) rfl
      | 41, _ => exact hp_o41 hi
      | 42, _ => exact hp_ca hi (k := 42) rfl
      | 43, _ => exact hp_o43 hi
      | 44, _ => exact hp_ca hi (k := 44) rfl
      | 45, _ => exact hp_ca hi (k := 45) rfl
      | 46, _ => exact hp_ca hi (k := 46) rfl
      | 47, _ => exact hp_o47 hi
      | 48, _ => exact hp_ca hi (k := 48) rfl
      | 49, _ => exact hp_ca hi (k := 49) rfl
      | 50, _ => exact hp_ca hi (k := 50) rfl
      | 51, _ => exact hp_ca hi (k := 51) rfl
      | 52, _ => exact hp_ca hi (k := 52) rfl
      | 53, _ => exact hp_ca hi (k := 53) rfl
      | 54, _ => exact hp_ca hi (k := 54) rfl
      | 55, _ => exact hp_ca hi (k := 55) rfl
      | 56, _ => exact hp_ca hi (k := 56) rfl
      | 57, _ => exact hp_ca hi (k := 57) rfl
      | 58, _ => exact hp_ca hi (k := 58) rfl
      | 59, _ => exact hg
      | j + 60, h => exact absurd h (by omega)
    exact this j hj
  · rw [List.getElem?_eq_none (by omega), List.getElem?_eq_none (by simp [hp_mem]; omega)]
/-- what is read of a memory told by ints -/
theorem hp_ra (X : hp_X) (S : hp_S) {i n : Nat} (hi : i < 60) (h : hp_cell X i (S i) = .inl (0, n, .inl (S i))) : hp_rd (hp_mem X S) i = S i := hp_rda (t := 0) (n := n) (by rw [hp_get X S hi, h])
theorem hp_ro (X : hp_X) (S : hp_S) {i c j : Nat} {vs : List Value} (hi : i < 60) (h : hp_cell X i (S i) = .inr (c, vs)) (hv : vs[j]? = some (.int (S i j))) : hp_rd (hp_mem X S) i j = S i j := hp_rdo (c := c) (vs := vs) (by rw [hp_get X S hi, h]) hv
theorem hp_rb (X : hp_X) (S : hp_S) {b : Nat} (hb : hp_b b) : (hp_rd (hp_mem X S) b 4 = S b 4 ∧ hp_rd (hp_mem X S) b 8 = S b 8 ∧ hp_rd (hp_mem X S) b 2 = S b 2 ∧ hp_rd (hp_mem X S) b 3 = S b 3 ∧ hp_rd (hp_mem X S) b 1 = S b 1) ∧ hp_rd (hp_mem X S) (b + 1) = S (b + 1) ∧ hp_rd (hp_mem X S) (b + 2) = S (b + 2) ∧ hp_rd (hp_mem X S) (b + 3) = S (b + 3) ∧ hp_rd (hp_mem X S) (b + 4) = S (b + 4) ∧ hp_rd (hp_mem X S) (b + 5) = S (b + 5) ∧ hp_rd (hp_mem X S) (b + 6) = S (b + 6) ∧ hp_rd (hp_mem X S) (b + 7) = S (b + 7) ∧ hp_rd (hp_mem X S) (b + 8) = S (b + 8) := by
  have h0 := hp_bl hb 0 (by decide)
  refine ⟨⟨hp_ro X S h0 (hp_b0 hb X _) rfl, hp_ro X S h0 (hp_b0 hb X _) rfl, hp_ro X S h0 (hp_b0 hb X _) rfl, hp_ro X S h0 (hp_b0 hb X _) rfl, hp_ro X S h0 (hp_b0 hb X _) rfl⟩, hp_ra X S (hp_bl hb 1 (by decide)) (hp_b1 hb X _), hp_ra X S (hp_bl hb 2 (by decide)) (hp_b2 hb X _), hp_ra X S (hp_bl hb 3 (by decide)) (hp_b3 hb X _), hp_ra X S (hp_bl hb 4 (by decide)) (hp_b4 hb X _), hp_ra X S (hp_bl hb 5 (by decide)) (hp_b5 hb X _), hp_ra X S (hp_bl hb 6 (by decide)) (hp_b6 hb X _), hp_ra X S (hp_bl hb 7 (by decide)) (hp_b7 hb X _), hp_ra X S (hp_bl hb 8 (by decide)) (hp_b8 hb X _)⟩
theorem hp_rE (X : hp_X) {S : hp_S} {b : Nat} (hb : hp_b b) {f : Nat → Int32} (h : hr_E S b f) : hr_E (hp_rd (hp_mem X S)) b f := by
  obtain ⟨h0, h1, h2, h3, h4, h5, h6, h7, h8⟩ := hp_rb X S hb
  exact hr_Ecg h (fun _ _ => rfl) h0 (fun j _ => by rw [h1]) (fun j _ => by rw [h2, h3, h4]; exact ⟨rfl, rfl, rfl⟩) (fun j _ => by rw [h5, h6, h7, h8]; exact ⟨rfl, rfl, rfl, rfl⟩)
/-- the law's relation of both sides, read off the memory -/
def hl_St (M : hzMem) : Prop := hr_all (hp_rd M) (hp_rd M)
theorem hl_Am (X : hp_X) {S : hp_S} (h : hr_all S S) : hl_St (hp_mem X S) := by
  obtain ⟨⟨a1, a2, a3⟩, k1, k2, k3⟩ := h
  have r48 : hp_rd (hp_mem X S) 48 = S 48 := hp_ra X S (by decide) rfl
  have r50 : hp_rd (hp_mem X S) 50 = S 50 := hp_ra X S (by decide) rfl
  have r0 : hp_rd (hp_mem X S) 0 3 = S 0 3 := hp_ro X S (by decide) (hp_c0 X _) rfl
  have r47 : hp_rd (hp_mem X S) 47 4 = S 47 4 := hp_ro X S (by decide) (hp_c47 X _) rfl
  refine ⟨⟨?_, ?_, ?_⟩, ?_, ?_, ?_⟩
  · rw [r48]; exact hp_rE X (Or.inl rfl) a1
  · rw [r48]; exact a2
  · rw [r48]; exact a3
  · rw [r0, r47]; exact k1
  · rw [r47]; exact k2
  · rw [r47, r50]
    intro q
    obtain ⟨c1, c2, c3⟩ := k3 q
    exact ⟨hp_rE X (Or.inr (Or.inr rfl)) c1, c2, c3⟩
/-- cells of which the relation speaks -/
abbrev hl_ac : List Nat := [0, 1, 2, 3, 4, 5, 6, 7, 8, 9, 19, 20, 21, 22, 23, 24, 25, 26, 27, 48, 50]
def hl_sd (Wr : List Nat) : Bool := hl_ac.all (fun j => !Wr.contains j)
theorem hl_sdo {Wr : List Nat} (h : hl_sd Wr = true) {j : Nat} (hj : j ∈ hl_ac) : j ∉ Wr := by
  have := List.all_eq_true.mp h j hj
  intro hm
  rw [List.contains_iff_mem.mpr hm] at this
  cases this
theorem hl_Ax {M M' : hzMem} (h : hl_St M) (hc : ∀ j ∈ hl_ac, M'[j]? = M[j]?) (h47 : hp_rd M' 47 4 = hp_rd M 47 4) : hl_St M' := by
  obtain ⟨a, k⟩ := h
  have hm : ∀ i : Nat, i < 28 → (i ≤ 9 ∨ 19 ≤ i) → i ∈ hl_ac := by decide
  exact ⟨hr_nowx a (fun i h1 h2 => hp_rdx (hc i (hm i (by omega) (by omega)))) (hp_rdx (hc 48 (by decide))), hr_keptx k (by rw [hp_rdx (hc 0 (by decide))]) (fun i h1 h2 => hp_rdx (hc i (hm i (by omega) (by omega)))) (hp_rdx (hc 50 (by decide))) h47⟩
/-- behind two told calls that leave the street alone -/
theorem hl_Aq {M M1 M2 : hzMem} {W1 W2 : List Nat} (h : hl_St M) (w1 : ha_wok hw_W W1 M M1) (w2 : ha_wok hw_W W2 M1 M2) (d1 : hl_sd W1 = true) (d2 : hl_sd W2 = true) (e1 : 47 ∉ W1) (e2 : 47 ∉ W2) : hl_St M2 := hl_Ax h (fun j hj => (w2.2.2 j (hl_sdo d2 hj)).trans (w1.2.2 j (hl_sdo d1 hj))) (by rw [hp_rdx ((w2.2.2 47 e2).trans (w1.2.2 47 e1))])
end HR

section HR
variable {S T U : hp_S}
/-! what is changed together: each of the class's, and its counterpart -/
theorem hr_shx {S' T' : hp_S} (h : hr_sh S T) (h1 : ∀ j : Nat, 29 ≤ j → j ≤ 44 → S' j = S j) (h2 : ∀ j : Nat, 53 ≤ j → j ≤ 58 → T' j = T j) : hr_sh S' T' := by
  intro d hd
  have := h d hd
  rw [h1 (29 + 2 * d) (by omega) (by omega), h1 (30 + 2 * d) (by omega) (by omega), h2 53 (by omega) (by omega), h2 54 (by omega) (by omega), h2 55 (by omega) (by omega), h2 56 (by omega) (by omega), h2 57 (by omega) (by omega), h2 58 (by omega) (by omega)]
  exact this
theorem hm_s4 (h : hr_all S S) (a s : Int32) : (hq_4 S a s).1 = (hq_110 (hq_4 S a s).2 a s).1 ∧ hr_all (hq_110 (hq_4 S a s).2 a s).2 (hq_110 (hq_4 S a s).2 a s).2 :=
  hr_go (k1 := fun S => hq_4 S a s) (k2 := fun S => hq_110 S a s) (fun S j hj => by rw [hf_4]; all_goals omega) (fun S j hj => hf_110 S a s j (by omega)) (fun S => ⟨hf_110 S a s 50 (by omega), by rw [hf_110 S a s 47 (by omega)]⟩) h (fun hE ho hz => hr_comes hE ho hz a s)
theorem hm_s5 (h : hr_all S S) (hs : hr_sh S S) (d p : Int32) : (hq_5 S d p).1 = (hq_111 (hq_5 S d p).2 d p).1 ∧ hr_all (hq_111 (hq_5 S d p).2 d p).2 (hq_111 (hq_5 S d p).2 d p).2 :=
  hr_go (k1 := fun S => hq_5 S d p) (k2 := fun S => hq_111 S d p) (fun S j hj => by rw [hf_5]; all_goals omega) (fun S j hj => hf_111 S d p j (by omega)) (fun S => ⟨hf_111 S d p 50 (by omega), by rw [hf_111 S d p 47 (by omega)]⟩) h (fun hE ho _ => hr_wears hE ho (hr_shx hs (fun _ _ _ => rfl) (fun j a b => by show (hq_5 S d p).2 j = S j; rw [hf_5]; all_goals omega)) d p)
theorem hm_s6 (h : hr_all S S) (a v : Int32) : (hq_6 S a v).1 = (hq_112 (hq_6 S a v).2 a v).1 ∧ hr_all (hq_112 (hq_6 S a v).2 a v).2 (hq_112 (hq_6 S a v).2 a v).2 :=
  hr_go (k1 := fun S => hq_6 S a v) (k2 := fun S => hq_112 S a v) (fun S j hj => by rw [hf_6]; all_goals omega) (fun S j hj => hf_112 S a v j (by omega)) (fun S => ⟨hf_112 S a v 50 (by omega), by rw [hf_112 S a v 47 (by omega)]⟩) h (fun hE ho _ => hr_194 hE ho a v)
theorem hm_s7 (h : hr_all S S) (a : Int32) : (hq_7 S a).1 = (hq_113 (hq_7 S a).2 a).1 ∧ hr_all (hq_113 (hq_7 S a).2 a).2 (hq_113 (hq_7 S a).2 a).2 :=
  hr_go (k1 := fun S => hq_7 S a) (k2 := fun S => hq_113 S a) (fun S j hj => by rw [hf_7]; all_goals omega) (fun S j hj => hf_113 S a j (by omega)) (fun S => ⟨hf_113 S a 50 (by omega), by rw [hf_113 S a 47 (by omega)]⟩) h (fun hE ho _ => hr_195 hE ho a)
theorem hm_s8 (h : hr_all S S) (a v : Int32) : (hq_8 S a v).1 = (hq_114 (hq_8 S a v).2 a v).1 ∧ hr_all (hq_114 (hq_8 S a v).2 a v).2 (hq_114 (hq_8 S a v).2 a v).2 :=
  hr_go (k1 := fun S => hq_8 S a v) (k2 := fun S => hq_114 S a v) (fun S j hj => by rw [hf_8]; all_goals omega) (fun S j hj => hf_114 S a v j (by omega)) (fun S => ⟨hf_114 S a v 50 (by omega), by rw [hf_114 S a v 47 (by omega)]⟩) h (fun hE ho _ => hr_196 hE ho a v)
theorem hm_s9 (h : hr_all S S) (a v : Int32) : (hq_9 S a v).1 = (hq_115 (hq_9 S a v).2 a v).1 ∧ hr_all (hq_115 (hq_9 S a v).2 a v).2 (hq_115 (hq_9 S a v).2 a v).2 :=
  hr_go (k1 := fun S => hq_9 S a v) (k2 := fun S => hq_115 S a v) (fun S j hj => by rw [hf_9]; all_goals omega) (fun S j hj => hf_115 S a v j (by omega)) (fun S => ⟨hf_115 S a v 50 (by omega), by rw [hf_115 S a v 47 (by omega)]⟩) h (fun hE ho _ => hr_9m hE ho a v)
theorem hm_s10 (h : hr_all S S) (a : Int32) : (hq_10 S a).1 = (hq_116 (hq_10 S a).2 a).1 ∧ hr_all (hq_116 (hq_10 S a).2 a).2 (hq_116 (hq_10 S a).2 a).2 :=
  hr_go (k1 := fun S => hq_10 S a) (k2 := fun S => hq_116 S a) (fun S j hj => by rw [hf_10]; all_goals omega) (fun S j hj => hf_116 S a j (by omega)) (fun S => ⟨hf_116 S a 50 (by omega), by rw [hf_116 S a 47 (by omega)]⟩) h (fun hE ho _ => hr_199 hE ho a)
/-! the flag of the image is left alone -/
theorem hg_101 (a b : Int32) : ∀ (m : Nat) (S : hp_S) (v : Int32), (hq_101_9 a b m S v).2 47 4 = S 47 4 := by
  intro m
  induction m with
  | zero => intros; rfl
  | succ m ih =>
    intro S v
    rw [hq_101_9]
    split
    · rfl
    · split
      · rw [ih, hr_w0' _ _ _ _ _ (by omega), hp_wo _ _ _ _ _ (by omega)]
      · rfl
theorem hg_101' (S : hp_S) (a b : Int32) : (hq_101 S a b).2 47 4 = S 47 4 := by
  unfold hq_101
  rw [hg_101, hp_wo _ _ _ _ _ (by omega)]
theorem hg_208 (S : hp_S) (a b : Int32) : (hq_102_208 S a b).2 47 4 = S 47 4 := by
  unfold hq_102_208
  split
  · rfl
  · split
    · exact hr_w0' S 47 5 (S 47 5 + Int32.ofInt 1) 4 (by omega)
    · rfl
theorem hg_102 (S : hp_S) : (hq_102 S).2 47 4 = S 47 4 := by
  rw [hy_102]
  have w : (hp_w S 47 5 (S 47 5 + Int32.ofInt 1)) 47 4 = S 47 4 := hr_w0' _ _ _ _ _ (by omega)
  generalize hp_w S 47 5 (S 47 5 + Int32.ofInt 1) = U at *
  rw [← w]
  unfold hy_eA hy_eB hy_eC hy_eD
  repeat' split
  all_goals first | (simp only [hg_208, hg_101']; done) | exact hr_w0' U 47 5 (U 47 5 - Int32.ofInt 1) 4 (by omega)
theorem hg_41 (i1 : Int32) : ∀ (m : Nat) (S : hp_S) (a b d : Int32), (hq_106_41 i1 m S a b d).1 47 4 = S 47 4 := by
  intro m
  induction m with
  | zero => intros; rfl
  | succ m ih =>
    intro S a b d
    rw [hq_106_41]
    repeat' split
    all_goals first | exact hg_102 S | (rw [ih]; exact hg_102 S)
theorem hg_93 (i1 : Int32) : ∀ (m : Nat) (S : hp_S) (a b d : Int32), (hq_106_93 i1 m S a b d).1 47 4 = S 47 4 := by
  intro m
  induction m with
  | zero => intros; rfl
  | succ m ih =>
    intro S a b d
    rw [hq_106_93]
    split
    · rfl
    · split
      · rfl
      · split
        · rw [ih, hf_73 _ 47 (by omega), hf_105 _ _ 47 (by omega)]; exact hg_102 S
        · rw [ih, hf_105 _ _ 47 (by omega)]; exact hg_102 S
theorem hg_106 (S : hp_S) (i1 : Int32) : (hq_106 S i1).2 47 4 = S 47 4 := by
  have k161 : ∀ (S : hp_S) (a b d : Int32), (hq_106_161 i1 S a b d).2 = S := by
    intro S a b d
    unfold hq_106_161
    split <;> rfl
  unfold hq_106
  split
  · unfold hq_106_36 hq_106_77
    rw [k161, hg_93, hr_w0' _ _ _ _ _ (by omega), hf_73 _ 47 (by omega), hg_41, hr_w0' _ _ _ _ _ (by omega), hr_w0' _ _ _ _ _ (by omega), hr_w0' _ _ _ _ _ (by omega)]
  · rfl
theorem hm_s0 (h : hr_all S S) (hs : hr_sh S S) (hb : ∀ d : Nat, d < 8 → S 53 d = Int32.ofInt 2 → S 56 d = Int32.ofInt 0 → ∀ j : Nat, j < 100 → hy_by (S (30 + 2 * d) j)) (i1 : Int32) : (hq_0 S i1).1 = (hq_106 (hq_0 S i1).2 i1).1 ∧ hr_all (hq_106 (hq_0 S i1).2 i1).2 (hq_106 (hq_0 S i1).2 i1).2 :=
  hr_go (k1 := fun S => hq_0 S i1) (k2 := fun S => hq_106 S i1) (fun S j hj => by rw [hf_0]; all_goals omega) (fun S j hj => hf_106 S i1 j (by omega) (by omega) (by omega) (by omega)) (fun S => ⟨hf_106 S i1 50 (by omega) (by omega) (by omega) (by omega), hg_106 S i1⟩) h (fun hE ho hz => by
    have fr : ∀ j : Nat, 53 ≤ j → j ≤ 58 → (hq_0 S i1).2 j = S j := fun j a b => by rw [hf_0]; all_goals omega
    have r := hy_street (T := (hq_0 S i1).2) hE ho hz (hr_shx hs (fun _ _ _ => rfl) fr) (fun d hd h2 h0 => hb d hd (by rw [← fr 53 (by omega) (by omega)]; exact h2) (by rw [← fr 56 (by omega) (by omega)]; exact h0)) i1
    exact ⟨r.1, r.2.1, r.2.2.1, r.2.2.2.trans hz.symm⟩)
theorem hg_152 (S : hp_S) (a : Int32) : (hq_152 S a).2 47 4 = S 47 4 := by
  unfold hq_152
  exact hr_w0' S 47 9 (S 47 9 * Int32.ofInt 1103515245 + Int32.ofInt 12345) 4 (by omega)
theorem hg_153a (i1 i2 i3 : Int32) : ∀ (m : Nat) (S : hp_S) (a b d : Int32), (hq_153_52 i1 i2 i3 m S a b d) 47 4 = S 47 4 := by
  intro m
  induction m with
  | zero => intros; rfl
  | succ m ih =>
    intro S a b d
    rw [hq_153_52]
    split
    · rfl
    · rw [ih, hp_wgo _ _ _ _ _ _ (by omega), hg_152]
theorem hg_153b (i1 i2 i3 : Int32) : ∀ (m : Nat) (S : hp_S) (a b : Int32), (hq_153_32 i1 i2 i3 m S a b).1 47 4 = S 47 4 := by
  intro m
  induction m with
  | zero => intros; rfl
  | succ m ih =>
    intro S a b
    rw [hq_153_32]
    split
    · rfl
    · split
      · rw [ih, hf_94 _ _ 47 (by omega), hg_153a, hf_73 _ 47 (by omega)]
      · rw [ih, hf_94 _ _ 47 (by omega), hg_153a, hf_73 _ 47 (by omega)]
theorem hg_153 (S : hp_S) (i1 i2 i3 : Int32) : (hq_153 S i1 i2 i3).2 47 4 = S 47 4 := by
  unfold hq_153
  split
  · rfl
  · split
    · show (hq_153_32 i1 i2 i3 _ _ _ _).1 47 4 = _
      rw [hg_153b, hr_w0' _ _ _ _ _ (by omega)]
    · rfl
/-! the image -/
theorem hm_s35 (h : hr_all S S) : (hq_35 S).1 = (hq_154 (hq_35 S).2).1 ∧ hr_all (hq_154 (hq_35 S).2).2 (hq_154 (hq_35 S).2).2 := by
  obtain ⟨⟨hE, ho, hz⟩, hk⟩ := h
  have c : hq_35 S = (hp_w (hq_180 S 19 1) 0 3 (Int32.ofInt 1) 1 3, hp_w (hq_180 S 19 1) 0 3 (Int32.ofInt 1)) := rfl
  have r : ∀ T : hp_S, hq_154 T = (hp_w (hq_73 T 48 50) 47 4 (Int32.ofInt 1) 48 3, hp_w (hq_73 T 48 50) 47 4 (Int32.ofInt 1)) := fun T => by
    unfold hq_154 hq_154_11 hq_154_16
    rw [hr_n3']
  have f1 : ∀ j : Nat, j < 19 ∨ 27 < j → hq_180 S 19 1 j = S j := fun j hj => by
    rw [hf_180]
    all_goals omega
  have e19 := hr_180 (S := S) (b := 19) (b2 := 1) (Or.inr (Or.inr (Or.inl ⟨rfl, rfl⟩))) hE
  rw [c, r]
  generalize hq_180 S 19 1 = S1 at *
  dsimp only
  have g73 : ∀ j : Nat, j < 80 → hq_73 (hp_w S1 0 3 (Int32.ofInt 1)) 48 50 50 j = S 48 j := fun j hj => by rw [hr_73 (show (48 : Nat) ≠ 50 by omega) _ j hj, hp_wo _ _ _ _ _ (by omega), f1 48 (by omega)]
  have g73' : ∀ j : Nat, j ≠ 50 → hq_73 (hp_w S1 0 3 (Int32.ofInt 1)) 48 50 j = hp_w S1 0 3 (Int32.ofInt 1) j := fun j hj => hf_73 _ j hj
  generalize hq_73 (hp_w S1 0 3 (Int32.ofInt 1)) 48 50 = T1 at *
  have n1 : ∀ j : Nat, 1 ≤ j → j ≤ 9 → hp_w T1 47 4 (Int32.ofInt 1) j = S j := fun j a b => by rw [hp_wo _ _ _ _ _ (by omega), g73' j (by omega), hp_wo _ _ _ _ _ (by omega), f1 j (by omega)]
  have n48 : hp_w T1 47 4 (Int32.ofInt 1) 48 = S 48 := by rw [hp_wo _ _ _ _ _ (by omega), g73' 48 (by omega), hp_wo _ _ _ _ _ (by omega), f1 48 (by omega)]
  have n19 : ∀ j : Nat, 19 ≤ j → j ≤ 27 → hp_w T1 47 4 (Int32.ofInt 1) j = S1 j := fun j a b => by rw [hp_wo _ _ _ _ _ (by omega), g73' j (by omega), hp_wo _ _ _ _ _ (by omega)]
  have n50 : ∀ j : Nat, j < 80 → hp_w T1 47 4 (Int32.ofInt 1) 50 j = S 48 j := fun j hj => by rw [hp_wo _ _ _ _ _ (by omega)]; exact g73 j hj
  have n0 : hp_w T1 47 4 (Int32.ofInt 1) 0 3 = Int32.ofInt 1 := by rw [hp_wo _ _ _ _ _ (by omega), g73' 0 (by omega), hr_w0s]
  have n47 : hp_w T1 47 4 (Int32.ofInt 1) 47 4 = Int32.ofInt 1 := hr_w0s _ _ _ _
  have m13 : hp_w S1 0 3 (Int32.ofInt 1) 1 3 = S 1 3 := by rw [hp_wo _ _ _ _ _ (by omega), f1 1 (by omega)]
  generalize hp_w T1 47 4 (Int32.ofInt 1) = T2 at *
  refine ⟨?_, ⟨hr_Ex hE (fun i hi => n1 (1 + i) (by omega) (by omega)) n48, by rw [n48]; exact ho, by rw [n48]; exact hz⟩, n0.trans n47.symm, Or.inr n47, fun _ => ⟨?_, hr_okcg ho n50, (n50 5 (by omega)).trans hz⟩⟩
  · rw [m13, n48]; exact hE.1.2.2.2.1
  · have g := hr_Ex (S' := T2) e19 (fun i hi => n19 (19 + i) (by omega) (by omega)) rfl
    exact hr_Ecg g n50 ⟨rfl, rfl, rfl, rfl, rfl⟩ (fun _ _ => rfl) (fun _ _ => ⟨rfl, rfl, rfl⟩) (fun _ _ => ⟨rfl, rfl, rfl, rfl⟩)
theorem hm_s36 (h : hr_all S S) : (hq_36 S).1 = (hq_155 (hq_36 S).2).1 ∧ hr_all (hq_155 (hq_36 S).2).2 (hq_155 (hq_36 S).2).2 := by
  obtain ⟨⟨hE, ho, hz⟩, k1, k2, k3⟩ := id h
  have r0 : ∀ T : hp_S, T 47 4 = Int32.ofInt 0 → hq_155 T = (Int32.ofInt (-3), T) := fun T q => by
    unfold hq_155
    rw [q, if_neg (by decide)]
  have r1 : ∀ T : hp_S, T 47 4 = Int32.ofInt 1 → hq_155 T = (hq_73 T 50 48 48 3, hq_73 T 50 48) := fun T q => by
    unfold hq_155 hq_155_21
    rw [q, if_pos (by decide), hr_n3']
  have c : hq_36 S = (if hz_cmp .ne (S 0 3) 0 = true then (hq_180 S 1 19 1 3, hq_180 S 1 19) else (Int32.ofInt (-3), S)) := rfl
  rw [c, k1]
  rcases k2 with q | q
  · rw [q, if_neg (show ¬ (hz_cmp .ne (Int32.ofInt 0) 0 = true) by decide)]
    dsimp only
    rw [r0 S q]
    exact ⟨rfl, h⟩
  · rw [q, if_pos (show hz_cmp .ne (Int32.ofInt 1) 0 = true by decide)]
    obtain ⟨e19, ok50, z50⟩ := k3 q
    have f1 : ∀ j : Nat, j = 0 ∨ 9 < j → hq_180 S 1 19 j = S j := fun j hj => by
      rw [hf_180]
      all_goals omega
    have e1 := hr_180 (S := S) (b := 1) (b2 := 19) (Or.inr (Or.inr (Or.inr ⟨rfl, rfl⟩))) e19
    generalize hq_180 S 1 19 = S1 at *
    dsimp only
    rw [r1 S1 (by rw [f1 47 (by omega)]; exact q)]
    dsimp only
    have g73 : ∀ j : Nat, j < 80 → hq_73 S1 50 48 48 j = S 50 j := fun j hj => by rw [hr_73 (show (50 : Nat) ≠ 48 by omega) _ j hj, f1 50 (by omega)]
    have g73' : ∀ j : Nat, j ≠ 48 → hq_73 S1 50 48 j = S1 j := fun j hj => hf_73 _ j hj
    generalize hq_73 S1 50 48 = T1 at *
    have hE2 : hr_E T1 1 (T1 48) := by
      have g := hr_Ex (S' := T1) e1 (fun i hi => g73' (1 + i) (by omega)) rfl
      exact hr_Ecg g g73 ⟨rfl, rfl, rfl, rfl, rfl⟩ (fun _ _ => rfl) (fun _ _ => ⟨rfl, rfl, rfl⟩) (fun _ _ => ⟨rfl, rfl, rfl, rfl⟩)
    refine ⟨?_, ⟨hE2, hr_okcg ok50 g73, (g73 5 (by omega)).trans z50⟩, hr_keptx ⟨k1, Or.inr q, k3⟩ ?_ (fun i a b => ?_) ?_ ?_⟩
    · rw [g73 3 (by omega)]; exact e1.1.2.2.2.1
    · rw [g73' 0 (by omega), f1 0 (by omega)]
    · rw [g73' i (by omega), f1 i (by omega)]
    · rw [g73' 50 (by omega), f1 50 (by omega)]
    · rw [g73' 47 (by omega), f1 47 (by omega)]
end HR

/-! the shelves' bytes; the shelves as the street reads them -/
section HR
/-- a row of bytes holds bytes -/
def hl_by (σ : Nat → hs_S) : Prop := ∀ d : Nat, d < 8 → (σ d).1 = 2 → (σ d).2.1 = 0 → ∀ j : Nat, j < 100 → hy_by ((σ d).2.2.2 j)
def hl_ok (σ : Nat → hs_S) : Prop := hs_ok σ ∧ hl_by σ
theorem hl_byu {σ : Nat → hs_S} (h : hl_by σ) {d : Nat} {x : hs_S} (hx : x.1 = 2 → x.2.1 = 0 → ∀ j : Nat, j < 100 → hy_by (x.2.2.2 j)) : hl_by (hs_u σ d x) := by
  intro e he
  unfold hs_u
  by_cases q : e = d
  · rw [if_pos q]; exact hx
  · rw [if_neg q]; exact h e he
theorem hl_b0 : hy_by 0 := ⟨by decide, by decide⟩
theorem hl_b8 (v : Int32) : hy_by v.toInt8.toInt32 := by
  unfold hy_by
  rw [Int8.toInt_toInt32]
  have a := Int8.toInt_lt v.toInt8
  have b := Int8.le_toInt v.toInt8
  omega
theorem hl_keep_ok {σ : Nat → hs_S} (h : hl_ok σ) {d w k f : Int32} : hl_ok (sp_keep σ d w k f).2 := by
  refine ⟨sp_keep_ok h.1, ?_⟩
  unfold sp_keep
  split
  · exact h.2
  · split
    · exact hl_byu h.2 (fun q => absurd q hs_02)
    · split
      · exact h.2
      · exact hl_byu h.2 (fun q => absurd q hs_12)
theorem hl_row_ok {σ : Nat → hs_S} (h : hl_ok σ) {d t n : Int32} : hl_ok (sp_row σ d t n).2 := by
  refine ⟨sp_row_ok h.1, ?_⟩
  unfold sp_row
  split
  · exact h.2
  · split
    · exact h.2
    · exact hl_byu h.2 (fun _ _ _ _ => hl_b0)
theorem hl_put_ok {σ : Nat → hs_S} (h : hl_ok σ) {d i v : Int32} : hl_ok (sp_put σ d i v).2 := by
  refine ⟨sp_put_ok h.1, ?_⟩
  unfold sp_put
  split
  · exact h.2
  · rename_i q
    split
    · exact h.2
    · obtain ⟨h1, h2, _⟩ := sp_ref2 (Decidable.not_not.mp q)
      refine hl_byu h.2 (fun _ z j hj => ?_)
      have z : (σ d.toNatClampNeg).2.1 = 0 := z
      show hy_by (upd _ _ _ j)
      unfold upd
      split
      · unfold sp_low
        rw [if_pos z]
        exact hl_b8 v
      · exact h.2 _ (by show d.toInt.toNat < 8; omega) h2 z j hj
theorem hl_copy_ok {σ : Nat → hs_S} (h : hl_ok σ) {d i e j n : Int32} : hl_ok (sp_copy σ d i e j n).2 := by
  refine ⟨sp_copy_ok h.1, ?_⟩
  unfold sp_copy
  split
  · exact h.2
  · rename_i q1
    split
    · exact h.2
    · split
      · exact h.2
      · rename_i q3
        split
        · exact h.2
        · rename_i q4
          have h1 : (σ d.toNatClampNeg).1 = 2 := Decidable.not_not.mp (fun z => q3 (Or.inl z))
          have h2 : (σ e.toNatClampNeg).1 = 2 := Decidable.not_not.mp (fun z => q3 (Or.inr (Or.inl z)))
          have h3 : (σ d.toNatClampNeg).2.1 = (σ e.toNatClampNeg).2.1 := Decidable.not_not.mp (fun z => q3 (Or.inr (Or.inr z)))
          have d8 : d.toNatClampNeg < 8 := by show d.toInt.toNat < 8; omega
          have e8 : e.toNatClampNeg < 8 := by show e.toInt.toNat < 8; omega
          have h5 := (h.1 _ d8).2.2 h1
          refine hl_byu h.2 (fun _ z k hk => ?_)
          have z : (σ e.toNatClampNeg).2.1 = 0 := z
          show hy_by (va_cpy _ _ _ _ _ k)
          unfold va_cpy
          split
          · rename_i q5
            refine h.2 _ d8 h1 (h3.trans z) _ ?_
            have n1 : n.toNatClampNeg = n.toInt.toNat := rfl
            have n2 : i.toNatClampNeg = i.toInt.toNat := rfl
            rw [n1] at q5
            rw [n2]
            omega
          · exact h.2 _ e8 h2 z k hk
/-- the shelves, as the street reads them -/
theorem hl_sh {σ : Nat → hs_S} {M : hzMem} (h0 : hl_ok σ) (hC : hs_C σ M) (hM : hs_M σ M) : hr_sh (hp_rd M) (hp_rd M) ∧ ∀ d : Nat, d < 8 → hp_rd M 53 d = Int32.ofInt 2 → hp_rd M 56 d = Int32.ofInt 0 → ∀ j : Nat, j < 100 → hy_by (hp_rd M (30 + 2 * d) j) := by
  obtain ⟨K, KK, KF, T, Z, E, m1, m2, m3, m4, m5, m6, ho⟩ := hM
  have e0 : Int32.ofInt 0 = (0 : Int32) := rfl
  have e1 : Int32.ofInt 1 = (1 : Int32) := rfl
  have e2 : Int32.ofInt 2 = (2 : Int32) := rfl
  rw [← hp_rda m1] at ho
  rw [← hp_rda m2] at ho
  rw [← hp_rda m3] at ho
  rw [← hp_rda m4] at ho
  rw [← hp_rda m5] at ho
  rw [← hp_rda m6] at ho
  refine ⟨fun d hd => ?_, fun d hd c2 c0 j hj => ?_⟩
  · obtain ⟨vs, fe, v1, v2, v3, v4, v5, v6, v7⟩ := hC d hd
    obtain ⟨b1, b2, b3⟩ := h0.1 d hd
    obtain ⟨o1, o2, o3⟩ := ho d hd
    rw [o1, hp_rdo v1 v3, hp_rda v5]
    refine ⟨⟨rfl, b1⟩, fun q => ?_, fun q => ?_⟩
    · have q : (σ d).1 = 1 := q
      obtain ⟨w1, w2⟩ := v6 q
      obtain ⟨w3, w4⟩ := o2 q
      rw [w3, w4, hp_rdo v1 w1, hp_rdo v1 w2]
      exact ⟨⟨rfl, rfl⟩, b2 q⟩
    · have q : (σ d).1 = 2 := q
      obtain ⟨w1, w2, w5⟩ := v7 q
      obtain ⟨w3, w4, w6⟩ := o3 q
      rw [w3, w4, hp_rdo v1 w1, hp_rdo v1 w2]
      exact ⟨⟨rfl, rfl⟩, (b3 q).1, (b3 q).2, fun j hj => (w5 j hj).trans (w6 j hj).symm⟩
  · obtain ⟨vs, fe, v1, v2, v3, v4, v5, v6, v7⟩ := hC d hd
    obtain ⟨o1, o2, o3⟩ := ho d hd
    have q : (σ d).1 = 2 := o1.symm.trans c2
    obtain ⟨w1, w2, w5⟩ := v7 q
    obtain ⟨w3, w4, w6⟩ := o3 q
    rw [hp_rda v5, w5 j hj]
    exact h0.2 d hd q (w3.symm.trans c0) j hj
/-- the call's answer and memory, of a told call -/
theorem hp_Ko {α : Type} {x : Nat} {As : List Value} {M : hzMem} {φ : α → Option Value × hzMem} {R : α} (h : hp_K x As M φ R) {q : hzN} (hq : hzM[x]? = some q) {n b : Nat} {r : Option Value × hzMem} (hr : hz_run hx_ext n x 0 (hz_ent q.2.2.1 As) [] M b = some r) : r = φ R := by
  obtain ⟨q', h1, _, h3⟩ := h
  rw [hq] at h1
  cases h1
  exact h3 n n (Nat.le_refl n) b r hr
end HR

/-! 163: HatsOfTheWindModel.element(II)J -/
def hq_163 (S : hp_S) (i1 : Int32) (i2 : Int32) : Int64 × hp_S := (if hz_cmp .ne (hq_157 S i1) 0 = true then (if hz_cmp .ne (S 53 i1.toNatClampNeg) (Int32.ofInt 2) = true then (if hz_cmp .ne (hp_w S 47 16 (Int32.ofInt 2) 47 16) 0 = true then ((Int64.ofInt 0), hp_w S 47 16 (Int32.ofInt 2)) else ((hp_w S 47 16 (Int32.ofInt 2) 58 (((Int32.ofInt 100) * i1) + i2).toNatClampNeg).toInt64, hp_w S 47 16 (Int32.ofInt 2))) else (if hz_cmp .ne (hq_70 S i2 (Int32.ofInt 0) ((S 57 i1.toNatClampNeg) - (Int32.ofInt 1))) 0 = true then (if hz_cmp .ne (hp_w S 47 16 (Int32.ofInt 0) 47 16) 0 = true then ((Int64.ofInt 0), hp_w S 47 16 (Int32.ofInt 0)) else ((hp_w S 47 16 (Int32.ofInt 0) 58 (((Int32.ofInt 100) * i1) + i2).toNatClampNeg).toInt64, hp_w S 47 16 (Int32.ofInt 0))) else (if hz_cmp .ne (hp_w S 47 16 (Int32.ofInt 2) 47 16) 0 = true then ((Int64.ofInt 0), hp_w S 47 16 (Int32.ofInt 2)) else ((hp_w S 47 16 (Int32.ofInt 2) 58 (((Int32.ofInt 100) * i1) + i2).toNatClampNeg).toInt64, hp_w S 47 16 (Int32.ofInt 2))))) else (if hz_cmp .ne (hp_w S 47 16 (Int32.ofInt 1) 47 16) 0 = true then ((Int64.ofInt 0), hp_w S 47 16 (Int32.ofInt 1)) else ((hp_w S 47 16 (Int32.ofInt 1) 58 (((Int32.ofInt 100) * i1) + i2).toNatClampNeg).toInt64, hp_w S 47 16 (Int32.ofInt 1))))
theorem hf_163 (S : hp_S) (i1 : Int32) (i2 : Int32) (j : Nat) (z0 : j ≠ 47) : (hq_163 S i1 i2).2 j = S j := by
  unfold hq_163
  repeat' split
  all_goals simp [hp_wo, hp_wgo, hp_cpo, z0]
set_option maxRecDepth 10000 in
theorem ht_163 {X : hp_X} (S : hp_S) (i1 : Int32) (i2 : Int32) (n : Nat) : hp_T n 163 0 [some (.ref 47), some (.int i1), some (.int i2)] [] (hp_mem X S) (hp_ls X) (hq_163 S i1 i2) := by
  unfold hq_163
  refine hp_sN [1, 2] (pc' := 2) (L' := [some (.ref 47), some (.int i1), some (.int i2)]) (st' := [.int i1, .ref 47]) rfl rfl ?_
  refine hp_iv (virt := false) (pc' := 5) (rv := some (.int (hq_157 S i1))) (M1 := hp_mem X (S)) rfl rfl (by decide) (hk_157 S (i1)) rfl rfl ?_
  show hp_T _ 163 5 _ [.int (hq_157 S i1), .ref 47] _ _ _
  refine hp_if (pc' := 8) rfl rfl (fun h1 => ?_) (fun h1 => ?_)
  · refine hp_sN [13] (pc' := 13) (L' := [some (.ref 47), some (.int i1), some (.int i2)]) (st' := [.ref 47, .ref 47]) rfl rfl ?_
    refine hp_gf (pc' := 16) rfl (by decide) (hp_c47 X _) rfl rfl ?_
    refine hp_sN [17] (pc' := 17) (L' := [some (.ref 47), some (.int i1), some (.int i2)]) (st' := [.int i1, .ref 53, .ref 47]) rfl rfl ?_
    refine hp_al (pc' := 18) rfl (by decide) rfl rfl ?_
    refine hp_sN [19] (pc' := 19) (L' := [some (.ref 47), some (.int i1), some (.int i2)]) (st' := [.int (Int32.ofInt 2), .int (S 53 i1.toNatClampNeg), .ref 47]) rfl rfl ?_
    refine hp_ic (pc' := 22) rfl rfl (fun h2 => ?_) (fun h2 => ?_)
    · refine hp_sN [39, 43] (pc' := 43) (L' := [some (.ref 47), some (.int i1), some (.int i2)]) (st' := [.int (Int32.ofInt 2), .ref 47]) rfl rfl ?_
      refine hp_pf (pc' := 46) rfl (by decide) (hp_c47 X _) (hp_w47 X _ _ _ (by decide)) rfl ?_
      refine hp_sN [47] (pc' := 47) (L' := [some (.ref 47), some (.int i1), some (.int i2)]) (st' := [.ref 47]) rfl rfl ?_
      refine hp_gf (pc' := 50) rfl (by decide) (hp_c47 X _) rfl rfl ?_
      refine hp_if (pc' := 53) rfl rfl (fun h3 => ?_) (fun h3 => ?_)
      · refine hp_sN [69] (pc' := 69) (L' := [some (.ref 47), some (.int i1), some (.int i2)]) (st' := [.long (Int64.ofInt 0)]) rfl rfl ?_
        exact hp_Rls rfl
      · refine hp_sN [54] (pc' := 54) (L' := [some (.ref 47), some (.int i1), some (.int i2)]) (st' := [.ref 47]) rfl rfl ?_
        refine hp_gf (pc' := 57) rfl (by decide) (hp_c47 X _) rfl rfl ?_
        refine hp_sN [59, 60, 61, 62, 63] (pc' := 63) (L' := [some (.ref 47), some (.int i1), some (.int i2)]) (st' := [.int (((Int32.ofInt 100) * i1) + i2), .ref 58]) rfl rfl ?_
        refine hp_al (pc' := 64) rfl (by decide) rfl rfl ?_
        refine hp_sN [65, 69] (pc' := 69) (L' := [some (.ref 47), some (.int i1), some (.int i2)]) (st' := [.long (hp_w S 47 16 (Int32.ofInt 2) 58 (((Int32.ofInt 100) * i1) + i2).toNatClampNeg).toInt64]) rfl rfl ?_
        exact hp_Rls rfl
    · refine hp_sN [23, 24, 25] (pc' := 25) (L' := [some (.ref 47), some (.int i1), some (.int i2)]) (st' := [.ref 47, .int (Int32.ofInt 0), .int i2, .ref 47]) rfl rfl ?_
      refine hp_gf (pc' := 28) rfl (by decide) (hp_c47 X _) rfl rfl ?_
      refine hp_sN [29] (pc' := 29) (L' := [some (.ref 47), some (.int i1), some (.int i2)]) (st' := [.int i1, .ref 57, .int (Int32.ofInt 0), .int i2, .ref 47]) rfl rfl ?_
      refine hp_al (pc' := 30) rfl (by decide) rfl rfl ?_
      refine hp_sN [31, 32] (pc' := 32) (L' := [some (.ref 47), some (.int i1), some (.int i2)]) (st' := [.int ((S 57 i1.toNatClampNeg) - (Int32.ofInt 1)), .int (Int32.ofInt 0), .int i2, .ref 47]) rfl rfl ?_
      refine hp_iv (virt := false) (pc' := 35) (rv := some (.int (hq_70 S i2 (Int32.ofInt 0) ((S 57 i1.toNatClampNeg) - (Int32.ofInt 1))))) (M1 := hp_mem X (S)) rfl rfl (by decide) (hk_70 S (i2) ((Int32.ofInt 0)) (((S 57 i1.toNatClampNeg) - (Int32.ofInt 1)))) rfl rfl ?_
      show hp_T _ 163 35 _ [.int (hq_70 S i2 (Int32.ofInt 0) ((S 57 i1.toNatClampNeg) - (Int32.ofInt 1))), .ref 47] _ _ _
      refine hp_if (pc' := 38) rfl rfl (fun h4 => ?_) (fun h4 => ?_)
      · refine hp_sN [43] (pc' := 43) (L' := [some (.ref 47), some (.int i1), some (.int i2)]) (st' := [.int (Int32.ofInt 0), .ref 47]) rfl rfl ?_
        refine hp_pf (pc' := 46) rfl (by decide) (hp_c47 X _) (hp_w47 X _ _ _ (by decide)) rfl ?_
        refine hp_sN [47] (pc' := 47) (L' := [some (.ref 47), some (.int i1), some (.int i2)]) (st' := [.ref 47]) rfl rfl ?_
        refine hp_gf (pc' := 50) rfl (by decide) (hp_c47 X _) rfl rfl ?_
        refine hp_if (pc' := 53) rfl rfl (fun h5 => ?_) (fun h5 => ?_)
        · refine hp_sN [69] (pc' := 69) (L' := [some (.ref 47), some (.int i1), some (.int i2)]) (st' := [.long (Int64.ofInt 0)]) rfl rfl ?_
          exact hp_Rls rfl
        · refine hp_sN [54] (pc' := 54) (L' := [some (.ref 47), some (.int i1), some (.int i2)]) (st' := [.ref 47]) rfl rfl ?_
          refine hp_gf (pc' := 57) rfl (by decide) (hp_c47 X _) rfl rfl ?_
          refine hp_sN [59, 60, 61, 62, 63] (pc' := 63) (L' := [some (.ref 47), some (.int i1), some (.int i2)]) (st' := [.int (((Int32.ofInt 100) * i1) + i2), .ref 58]) rfl rfl ?_
          refine hp_al (pc' := 64) rfl (by decide) rfl rfl ?_
          refine hp_sN [65, 69] (pc' := 69) (L' := [some (.ref 47), some (.int i1), some (.int i2)]) (st' := [.long (hp_w S 47 16 (Int32.ofInt 0) 58 (((Int32.ofInt 100) * i1) + i2).toNatClampNeg).toInt64]) rfl rfl ?_
          exact hp_Rls rfl
      · refine hp_sN [39, 43] (pc' := 43) (L' := [some (.ref 47), some (.int i1), some (.int i2)]) (st' := [.int (Int32.ofInt 2), .ref 47]) rfl rfl ?_
        refine hp_pf (pc' := 46) rfl (by decide) (hp_c47 X _) (hp_w47 X _ _ _ (by decide)) rfl ?_
        refine hp_sN [47] (pc' := 47) (L' := [some (.ref 47), some (.int i1), some (.int i2)]) (st' := [.ref 47]) rfl rfl ?_
        refine hp_gf (pc' := 50) rfl (by decide) (hp_c47 X _) rfl rfl ?_
        refine hp_if (pc' := 53) rfl rfl (fun h6 => ?_) (fun h6 => ?_)
        · refine hp_sN [69] (pc' := 69) (L' := [some (.ref 47), some (.int i1), some (.int i2)]) (st' := [.long (Int64.ofInt 0)]) rfl rfl ?_
          exact hp_Rls rfl
        · refine hp_sN [54] (pc' := 54) (L' := [some (.ref 47), some (.int i1), some (.int i2)]) (st' := [.ref 47]) rfl rfl ?_
          refine hp_gf (pc' := 57) rfl (by decide) (hp_c47 X _) rfl rfl ?_
          refine hp_sN [59, 60, 61, 62, 63] (pc' := 63) (L' := [some (.ref 47), some (.int i1), some (.int i2)]) (st' := [.int (((Int32.ofInt 100) * i1) + i2), .ref 58]) rfl rfl ?_
          refine hp_al (pc' := 64) rfl (by decide) rfl rfl ?_
          refine hp_sN [65, 69] (pc' := 69) (L' := [some (.ref 47), some (.int i1), some (.int i2)]) (st' := [.long (hp_w S 47 16 (Int32.ofInt 2) 58 (((Int32.ofInt 100) * i1) + i2).toNatClampNeg).toInt64]) rfl rfl ?_
          exact hp_Rls rfl
  · refine hp_sN [9, 43] (pc' := 43) (L' := [some (.ref 47), some (.int i1), some (.int i2)]) (st' := [.int (Int32.ofInt 1), .ref 47]) rfl rfl ?_
    refine hp_pf (pc' := 46) rfl (by decide) (hp_c47 X _) (hp_w47 X _ _ _ (by decide)) rfl ?_
    refine hp_sN [47] (pc' := 47) (L' := [some (.ref 47), some (.int i1), some (.int i2)]) (st' := [.ref 47]) rfl rfl ?_
    refine hp_gf (pc' := 50) rfl (by decide) (hp_c47 X _) rfl rfl ?_
    refine hp_if (pc' := 53) rfl rfl (fun h7 => ?_) (fun h7 => ?_)
    · refine hp_sN [69] (pc' := 69) (L' := [some (.ref 47), some (.int i1), some (.int i2)]) (st' := [.long (Int64.ofInt 0)]) rfl rfl ?_
      exact hp_Rls rfl
    · refine hp_sN [54] (pc' := 54) (L' := [some (.ref 47), some (.int i1), some (.int i2)]) (st' := [.ref 47]) rfl rfl ?_
      refine hp_gf (pc' := 57) rfl (by decide) (hp_c47 X _) rfl rfl ?_
      refine hp_sN [59, 60, 61, 62, 63] (pc' := 63) (L' := [some (.ref 47), some (.int i1), some (.int i2)]) (st' := [.int (((Int32.ofInt 100) * i1) + i2), .ref 58]) rfl rfl ?_
      refine hp_al (pc' := 64) rfl (by decide) rfl rfl ?_
      refine hp_sN [65, 69] (pc' := 69) (L' := [some (.ref 47), some (.int i1), some (.int i2)]) (st' := [.long (hp_w S 47 16 (Int32.ofInt 1) 58 (((Int32.ofInt 100) * i1) + i2).toNatClampNeg).toInt64]) rfl rfl ?_
      exact hp_Rls rfl
theorem hk_163 {X : hp_X} (S : hp_S) (i1 : Int32) (i2 : Int32) : hp_K 163 [.ref 47, .int i1, .int i2] (hp_mem X S) (hp_ls X) (hq_163 S i1 i2) := by
  refine hp_mk (q := hzq_163) rfl (by decide) (L := [some (.ref 47), some (.int i1), some (.int i2)]) rfl (fun n => ?_)
  exact ht_163 S i1 i2 n
section HR
variable {S T : hp_S}
theorem hg_163 (S : hp_S) (i1 i2 : Int32) : (hq_163 S i1 i2).2 47 4 = S 47 4 := by
  unfold hq_163
  repeat' split
  all_goals first | exact hr_w0' S 47 16 (Int32.ofInt 2) 4 (by omega) | exact hr_w0' S 47 16 (Int32.ofInt 0) 4 (by omega) | exact hr_w0' S 47 16 (Int32.ofInt 1) 4 (by omega)
theorem hm_zb (hs : hr_sh S T) (d : Int32) (h : hq_158 T d (Int32.ofInt 0) = Int32.ofInt 0) : 0 ≤ (T 57 d.toNatClampNeg).toInt ∧ (T 57 d.toNatClampNeg).toInt ≤ 100 := by
  rcases hy_ref hs d with ⟨_, hd, h2, _, _⟩ | ⟨h1, h2⟩
  · exact ((hs d.toNatClampNeg (by show d.toInt.toNat < 8; omega)).2.2 h2).2.2.1
  · exact absurd (h2.symm.trans h) h1
theorem hm_z0 (hs : hr_sh S S) (d : Int32) : hq_158 (hq_0 S d).2 d (Int32.ofInt 0) = Int32.ofInt 0 → 0 ≤ ((hq_0 S d).2 57 d.toNatClampNeg).toInt ∧ ((hq_0 S d).2 57 d.toNatClampNeg).toInt ≤ 100 := by
  have fr : ∀ j : Nat, 53 ≤ j → j ≤ 58 → (hq_0 S d).2 j = S j := fun j a b => by rw [hf_0]; all_goals omega
  exact hm_zb (hr_shx hs (fun _ _ _ => rfl) fr) d
theorem hm_q37 (h : hr_all S S) (v : Int32) : hq_37 S v = hq_156 S v := by
  obtain ⟨⟨hE, ho, hz⟩, _⟩ := h
  unfold hq_37 hq_156
  obtain ⟨e0, e1, e2, e3, e4⟩ := hE.1
  split
  · rename_i q; subst q; exact e0
  · split
    · rename_i q; subst q; exact e1
    · split
      · rename_i q; subst q; exact e2
      · split
        · rename_i q; subst q; exact e3
        · split
          · exact hr_189 hE ho
          · split
            · exact hr_190 hE ho
            · split
              · exact e4
              · rfl
end HR

/-! hat, person, wind: both sides answer the same -/
section HR
variable {S T : hp_S}
theorem hm_e3 {i : Int32} : (0 ≤ i.toInt ∧ i.toInt ≤ 3) ↔ (i = Int32.ofInt 0 ∨ i = Int32.ofInt 1 ∨ i = Int32.ofInt 2 ∨ i = Int32.ofInt 3) := by
  have e2 : (Int32.ofInt 2).toInt = 2 := by decide
  have e3 : (Int32.ofInt 3).toInt = 3 := by decide
  rw [← hr_ti, ← hr_ti, ← hr_ti, ← hr_ti, hr_o0, hr_o1, e2, e3]
  omega
theorem hm_e5 {i : Int32} : (0 ≤ i.toInt ∧ i.toInt ≤ 5) ↔ (i = Int32.ofInt 0 ∨ i = Int32.ofInt 1 ∨ i = Int32.ofInt 2 ∨ i = Int32.ofInt 3 ∨ i = Int32.ofInt 4 ∨ i = Int32.ofInt 5) := by
  have e2 : (Int32.ofInt 2).toInt = 2 := by decide
  have e3 : (Int32.ofInt 3).toInt = 3 := by decide
  have e4 : (Int32.ofInt 4).toInt = 4 := by decide
  have e5 : (Int32.ofInt 5).toInt = 5 := by decide
  rw [← hr_ti, ← hr_ti, ← hr_ti, ← hr_ti, ← hr_ti, ← hr_ti, hr_o0, hr_o1, e2, e3, e4, e5]
  omega
theorem hm_q3 (h : hr_all S S) (v : Int32) : hq_3 S v = hq_109 S v := by
  obtain ⟨⟨hE, ho, hz⟩, _⟩ := h
  have e23 : (Int32.ofInt 23).toInt = 23 := by decide
  have e6 : (Int32.ofInt 6).toInt = 6 := by decide
  unfold hq_3 hq_109 hq_47
  rw [hr_44, hr_70]
  simp only [hr_e0]
  by_cases p : (Int32.ofInt 0).toInt ≤ v.toInt ∧ v.toInt ≤ (Int32.ofInt 23).toInt
  · have pn : ¬ ¬ _ := fun q => q p
    rw [if_neg pn, if_neg pn]
    rw [hr_o0, e23] at p
    have e : (Int32.ofInt 6 + v).toNatClampNeg = 6 + v.toInt.toNat := hr_nat (by rw [hp_add (by rw [e6]; omega) (by rw [e6]; omega), e6]; omega)
    rw [e]
    exact hE.2.1 v.toInt.toNat (by omega)
  · rw [if_pos p, if_pos p]
theorem hm_q2 (h : hr_all S S) (a v : Int32) : hq_2 S a v = hq_108 S a v := by
  obtain ⟨⟨hE, ho, hz⟩, _⟩ := h
  have e3 : (Int32.ofInt 3).toInt = 3 := by decide
  have n0 := ho.1.1
  unfold hq_2 hq_108
  rw [hr_181, hr_76 S a (by omega), hr_70, hE.1.1, hr_o0, e3]
  simp only [hr_e0, hr_n0]
  by_cases p : 0 ≤ a.toInt ∧ a.toInt < (S 48 0).toInt
  · have pn : ¬ ¬ _ := fun q => q p
    rw [if_pos p, if_neg pn]
    have hk : a.toInt = (a.toInt.toNat : Nat) := by omega
    have hn : a.toNatClampNeg = a.toInt.toNat := rfl
    obtain ⟨g1, _, g2, g3⟩ := hE.2.2.1 a.toInt.toNat (by omega) (by omega)
    rw [hz] at g2
    have g2 := g2 (hr_nh _)
    rw [hn]
    by_cases q : v = Int32.ofInt 0 ∨ v = Int32.ofInt 1 ∨ v = Int32.ofInt 2 ∨ v = Int32.ofInt 3
    · rw [if_pos (hm_e3.mpr q)]
      rcases q with rfl | rfl | rfl | rfl
      · rw [if_pos rfl, if_pos (by decide), hr_P0 S hk (by omega)]
        exact g1
      · rw [if_neg (by decide), if_pos rfl, if_pos (by decide), hr_P1 S hk (by omega)]
        exact g2
      · rw [if_neg (by decide), if_neg (by decide), if_pos rfl, if_pos (by decide), hr_P2 S hk (by omega)]
        exact g3
      · rw [if_neg (by decide), if_neg (by decide), if_neg (by decide), if_pos rfl, if_neg (by decide)]
        exact hr_187 hE ho a
    · rw [if_neg (fun z => q (hm_e3.mp z)), if_neg (fun z => q (Or.inl z)), if_neg (fun z => q (Or.inr (Or.inl z))), if_neg (fun z => q (Or.inr (Or.inr (Or.inl z)))), if_neg (fun z => q (Or.inr (Or.inr (Or.inr z))))]
  · rw [if_neg p, if_pos p]
/-- where a hat is -/
theorem hm_186 (hE : hr_E S 1 (T 48)) (ho : hr_ok (T 48)) {a : Int32} {k : Nat} (hk : a.toInt = k) (k8 : k < 8) (hn : (k : Int) < (T 48 1).toInt) : hq_186 S 1 a = hq_87 T 48 a := by
  obtain ⟨_, _, g3, g4⟩ := hE.2.2.2 k k8 hn
  obtain ⟨_, _, o3, _⟩ := ho.2.2.2 k k8 hn
  have e9 : (Int32.ofInt 9).toInt = 9 := by decide
  have n0 := ho.1.1
  unfold hq_186 hq_87
  rw [hr_181, hr_85 hk k8, hr_nat hk, g3, hE.1.1, hr_H3 T hk k8, hr_H2 T hk k8]
  simp only [hr_e0]
  rcases o3 with q | q
  · rw [if_pos (by rw [q, e9]; omega), if_pos (fun z => z q)]
    exact g4 q
  · rw [if_neg (fun z => z q), if_neg (fun z => z (fun w => by rw [w, e9] at q; omega))]
    have e : (T 48 (50 + 4 * k)).toInt = ((T 48 (50 + 4 * k)).toInt.toNat : Nat) := by omega
    rw [hr_P0 T e (by omega), hr_nat e]
    exact (hE.2.2.1 _ (by omega) (by omega)).1
theorem hm_q1 (h : hr_all S S) (a v : Int32) : hq_1 S a v = hq_107 S a v := by
  obtain ⟨⟨hE, ho, hz⟩, _⟩ := h
  have e5 : (Int32.ofInt 5).toInt = 5 := by decide
  have n1 := ho.1.2.1
  unfold hq_1 hq_107
  rw [hr_182, hr_77 S a (by omega), hr_70, hE.1.2.1, hr_o0, e5]
  simp only [hr_e0, hr_n0]
  by_cases p : 0 ≤ a.toInt ∧ a.toInt < (S 48 1).toInt
  · have pn : ¬ ¬ _ := fun q => q p
    rw [if_pos p, if_neg pn]
    have hk : a.toInt = (a.toInt.toNat : Nat) := by omega
    have hn : a.toNatClampNeg = a.toInt.toNat := rfl
    obtain ⟨g1, g2, g3, _⟩ := hE.2.2.2 a.toInt.toNat (by omega) (by omega)
    obtain ⟨o1, o2, _, _⟩ := ho.2.2.2 a.toInt.toNat (by omega) (by omega)
    have g1 : S (1 + 5) a.toInt.toNat = _ := g1
    have g2 : S (1 + 6) a.toInt.toNat = _ := g2
    have g3 : S (1 + 7) a.toInt.toNat = _ := g3
    rw [hn]
    by_cases q : v = Int32.ofInt 0 ∨ v = Int32.ofInt 1 ∨ v = Int32.ofInt 2 ∨ v = Int32.ofInt 3 ∨ v = Int32.ofInt 4 ∨ v = Int32.ofInt 5
    · rw [if_pos (hm_e5.mpr q)]
      rcases q with rfl | rfl | rfl | rfl | rfl | rfl
      · rw [if_pos rfl, if_neg (by decide), if_neg (by decide), if_neg (by decide), hr_H0 S hk (by omega)]
        exact g1
      · rw [if_neg (by decide), if_pos rfl, if_neg (by decide), if_neg (by decide), if_neg (by decide), hr_H1 S hk (by omega)]
        exact g2
      · rw [if_neg (by decide), if_neg (by decide), if_pos rfl, if_neg (by decide), if_neg (by decide), if_neg (by decide), hr_H2 S hk (by omega)]
        exact g3
      · rw [if_neg (by decide), if_neg (by decide), if_neg (by decide), if_pos rfl, if_pos rfl]
        exact hm_186 hE ho hk (by omega) (by omega)
      · rw [if_neg (by decide), if_neg (by decide), if_neg (by decide), if_neg (by decide), if_pos rfl, if_neg (by decide), if_pos rfl, hr_H0 S hk (by omega), hr_H1 S hk (by omega), g1, g2]
        exact hr_167 S S _ _ o2.1 o2.2
      · rw [if_neg (by decide), if_neg (by decide), if_neg (by decide), if_neg (by decide), if_neg (by decide), if_pos rfl, if_neg (by decide), if_neg (by decide), if_pos rfl, g1, g2]
        unfold hq_99
        rw [hr_H0 S hk (by omega), hr_H1 S hk (by omega)]
        exact hr_169 S S _ _ o2.1 o2.2
    · rw [if_neg (fun z => q (hm_e5.mp z)), if_neg (fun z => q (Or.inl z)), if_neg (fun z => q (Or.inr (Or.inl z))), if_neg (fun z => q (Or.inr (Or.inr (Or.inl z)))), if_neg (fun z => q (Or.inr (Or.inr (Or.inr (Or.inl z))))), if_neg (fun z => q (Or.inr (Or.inr (Or.inr (Or.inr (Or.inl z)))))), if_neg (fun z => q (Or.inr (Or.inr (Or.inr (Or.inr (Or.inr z))))))]
  · rw [if_neg p, if_pos p]
end HR

