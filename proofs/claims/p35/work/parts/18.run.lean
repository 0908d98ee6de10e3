/-! RUNS: more fuel does no harm; a run's steps as rules -/
section HR
variable {ext : Nat → List Value → hzMem → Option (Option (Option Value × hzMem))}
theorem hz_inv_mono {rec1 rec2 : Nat → Nat → List (Option Value) → List Value → hzMem → Nat → Option (Option Value × hzMem)} (h : ∀ k pc L st M b r, rec1 k pc L st M b = some r → rec2 k pc L st M b = some r) {virt : Bool} {k pc : Nat} {a : Int} {x y : Nat} {L : List (Option Value)} {st : List Value} {M : hzMem} {b : Nat} {r : Option Value × hzMem}
    (hr : hz_inv rec1 ext virt k pc a x y L st M b = some r) : hz_inv rec2 ext virt k pc a x y L st M b = some r := by
  unfold hz_inv at hr ⊢
  by_cases ha : a = -3
  · rw [if_pos ha] at hr ⊢
    cases hs : hz_acp st M with
    | none => rw [hs] at hr; cases hr
    | some q =>
      obtain ⟨st', M'⟩ := q
      rw [hs] at hr
      exact h _ _ _ _ _ _ _ hr
  · rw [if_neg ha] at hr ⊢
    cases hz : hzM[x]? with
    | none => rw [hz] at hr; cases hr
    | some q =>
      obtain ⟨z, zb, nL, zr, rc, zf, zl, cs, zh⟩ := q
      rw [hz] at hr
      dsimp only at hr ⊢
      by_cases hc : (if virt = true then hz_rcv rc (st.take y).reverse M else decide (rc = 99)) = true ∧ y ≤ st.length ∧ ((st.drop y).map fun v => v.category).sum ≤ 8 ∧ cs ≤ b ∧ (hz_lay (st.take y)).length ≤ nL
      · rw [if_pos hc] at hr ⊢
        have key : ∀ (o1 o2 : Option (Option Value × hzMem)), (∀ z, o1 = some z → o2 = some z) → (match o1 with
            | some (rv, M') => rec1 k (pc + 3) L (rv.toList ++ st.drop y) M' (b - cs)
            | none => none) = some r → (match o2 with
            | some (rv, M') => rec2 k (pc + 3) L (rv.toList ++ st.drop y) M' (b - cs)
            | none => none) = some r := by
          intro o1 o2 h12 h1
          cases o1 with
          | none => cases h1
          | some z =>
            rw [h12 z rfl]
            exact h _ _ _ _ _ _ _ h1
        refine key _ _ (fun z hz => ?_) hr
        cases he : ext x (st.take y).reverse M with
        | some o =>
          rw [he] at hz
          exact hz
        | none =>
          rw [he] at hz
          exact h _ _ _ _ _ _ _ hz
      · rw [if_neg hc] at hr
        cases hr
theorem hz_mono1 : ∀ (n k pc : Nat) (L : List (Option Value)) (st : List Value) (M : hzMem) (b : Nat) (r : Option Value × hzMem), hz_run ext n k pc L st M b = some r → hz_run ext (n + 1) k pc L st M b = some r := by
  intro n
  induction n with
  | zero => intro k pc L st M b r h; cases h
  | succ n ih =>
    intro k pc L st M b r h
    rw [hz_run] at h ⊢
    split at h
    · cases h
    · rename_i i a x y q hf
      try rw [hf]
      try dsimp only
      split at h
      · rename_i hk
        try rw [hk]
        try dsimp only
        split at h
        · rename_i st' hs
          try rw [hs]
          exact ih _ _ _ _ _ _ _ h
        · cases h
      · rename_i hk
        try rw [hk]
        try dsimp only
        split at h
        · rename_i L' st' hs
          try rw [hs]
          exact ih _ _ _ _ _ _ _ h
        · cases h
      · rename_i hk
        try rw [hk]
        try dsimp only
        split at h
        · rename_i L' st' hs
          try rw [hs]
          exact ih _ _ _ _ _ _ _ h
        · cases h
      · rename_i hk
        try rw [hk]
        try dsimp only
        split at h
        · rename_i L' st' hs
          try rw [hs]
          exact ih _ _ _ _ _ _ _ h
        · cases h
      · rename_i hk
        try rw [hk]
        exact h
      · rename_i hk
        try rw [hk]
        exact hz_inv_mono (fun k pc L st M b r h => ih k pc L st M b r h) h
      · rename_i hk
        try rw [hk]
        exact hz_inv_mono (fun k pc L st M b r h => ih k pc L st M b r h) h
      · cases h
theorem hz_mono {n m : Nat} (h : n ≤ m) {k pc : Nat} {L : List (Option Value)} {st : List Value} {M : hzMem} {b : Nat} {r : Option Value × hzMem} (hr : hz_run ext n k pc L st M b = some r) : hz_run ext m k pc L st M b = some r := by
  obtain ⟨d, rfl⟩ := Nat.exists_eq_add_of_le h
  clear h
  induction d with
  | zero => exact hr
  | succ d ih => exact hz_mono1 _ _ _ _ _ _ _ _ ih
/-- it runs to an end of which Post holds -/
def ha_RT (ext : Nat → List Value → hzMem → Option (Option (Option Value × hzMem))) (k pc : Nat) (L : List (Option Value)) (st : List Value) (M : hzMem) (b : Nat) (Post : Option Value → hzMem → Prop) : Prop := ∃ n rv M', hz_run ext n k pc L st M b = some (rv, M') ∧ Post rv M'
/-- a call runs to an end -/
def ha_C (ext : Nat → List Value → hzMem → Option (Option (Option Value × hzMem))) (n x : Nat) (As : List Value) (M : hzMem) (nL cs : Nat) : Option (Option Value × hzMem) := match ext x As M with
  | some o => o
  | none => hz_run ext n x 0 (hz_ent nL As) [] M cs
variable {k pc : Nat} {L : List (Option Value)} {st : List Value} {M : hzMem} {b : Nat} {Post : Option Value → hzMem → Prop} {i : Instr} {a : Int} {x y h : Nat}
theorem ha_RT_stk (hf : hz_fetch k pc = some (i, a, x, y, h)) (hk : hz_kind i = 0) {st' : List Value} (hs : hz_stk i a st = some st') (kk : ha_RT ext k (pc + hz_len i) L st' M b Post) : ha_RT ext k pc L st M b Post := by
  obtain ⟨n, rv, M', hr, hp⟩ := kk
  refine ⟨n + 1, rv, M', ?_, hp⟩
  rw [hz_run, hf]
  try dsimp only
  rw [hk]
  try dsimp only
  rw [hs]
  exact hr
theorem ha_RT_loc (hf : hz_fetch k pc = some (i, a, x, y, h)) (hk : hz_kind i = 1) {L' : List (Option Value)} {st' : List Value} (hs : hz_loc i L st = some (L', st')) (kk : ha_RT ext k (pc + hz_len i) L' st' M b Post) : ha_RT ext k pc L st M b Post := by
  obtain ⟨n, rv, M', hr, hp⟩ := kk
  refine ⟨n + 1, rv, M', ?_, hp⟩
  rw [hz_run, hf]
  try dsimp only
  rw [hk]
  try dsimp only
  rw [hs]
  exact hr
theorem ha_RT_br (hf : hz_fetch k pc = some (i, a, x, y, h)) (hk : hz_kind i = 2) {pc' : Nat} {st' : List Value} (hs : hz_br i pc x st = some (pc', st')) (kk : ha_RT ext k pc' L st' M b Post) : ha_RT ext k pc L st M b Post := by
  obtain ⟨n, rv, M', hr, hp⟩ := kk
  refine ⟨n + 1, rv, M', ?_, hp⟩
  rw [hz_run, hf]
  try dsimp only
  rw [hk]
  try dsimp only
  rw [hs]
  exact hr
theorem ha_RT_mem (hf : hz_fetch k pc = some (i, a, x, y, h)) (hk : hz_kind i = 3) {M1 : hzMem} {st' : List Value} (hs : hz_mem i x y st M = some (st', M1)) (kk : ha_RT ext k (pc + hz_len i) L st' M1 b Post) : ha_RT ext k pc L st M b Post := by
  obtain ⟨n, rv, M', hr, hp⟩ := kk
  refine ⟨n + 1, rv, M', ?_, hp⟩
  rw [hz_run, hf]
  try dsimp only
  rw [hk]
  try dsimp only
  rw [hs]
  exact hr
theorem ha_RT_ret (hf : hz_fetch k pc = some (i, a, x, y, h)) (hk : hz_kind i = 4) {q : hzN} (hq : hzM[k]? = some q) {rv : Option Value} (hs : hz_ret i q.2.2.2.1 st = some rv) (kk : Post rv M) : ha_RT ext k pc L st M b Post := by
  refine ⟨1, rv, M, ?_, kk⟩
  rw [hz_run, hf]
  try dsimp only
  rw [hk]
  try dsimp only
  rw [hq]
  try dsimp only
  rw [hs]
  rfl
theorem hz_run5 {n : Nat} (hf : hz_fetch k pc = some (i, a, x, y, h)) (hk : hz_kind i = 5) : hz_run ext (n + 1) k pc L st M b = hz_inv (fun k pc L st M b => hz_run ext n k pc L st M b) ext true k pc a x y L st M b := by
  rw [hz_run, hf]
  simp only [hk]
theorem hz_run6 {n : Nat} (hf : hz_fetch k pc = some (i, a, x, y, h)) (hk : hz_kind i = 6) : hz_run ext (n + 1) k pc L st M b = hz_inv (fun k pc L st M b => hz_run ext n k pc L st M b) ext false k pc a x y L st M b := by
  rw [hz_run, hf]
  simp only [hk]
theorem ha_RT_acp (hf : hz_fetch k pc = some (i, a, x, y, h)) (hk : hz_kind i = 5 ∨ hz_kind i = 6) (ha : a = -3) {M1 : hzMem} {st' : List Value} (hs : hz_acp st M = some (st', M1)) (kk : ha_RT ext k (pc + 3) L st' M1 b Post) : ha_RT ext k pc L st M b Post := by
  obtain ⟨n, rv, M', hr, hp⟩ := kk
  refine ⟨n + 1, rv, M', ?_, hp⟩
  rcases hk with hk | hk
  · rw [hz_run5 hf hk]
    unfold hz_inv
    rw [if_pos ha, hs]
    exact hr
  · rw [hz_run6 hf hk]
    unfold hz_inv
    rw [if_pos ha, hs]
    exact hr
theorem ha_RT_call {virt : Bool} (hf : hz_fetch k pc = some (i, a, x, y, h)) (hk : hz_kind i = (if virt = true then 5 else 6)) (ha : a ≠ -3) {q : hzN} (hq : hzM[x]? = some q)
    (hc : (if virt = true then hz_rcv q.2.2.2.2.1 (st.take y).reverse M else decide (q.2.2.2.2.1 = 99)) = true ∧ y ≤ st.length ∧ ((st.drop y).map fun v => v.category).sum ≤ 8 ∧ q.2.2.2.2.2.2.2.1 ≤ b ∧ (hz_lay (st.take y)).length ≤ q.2.2.1)
    {n1 : Nat} {rv1 : Option Value} {M1 : hzMem} (hs : ha_C ext n1 x (st.take y).reverse M q.2.2.1 q.2.2.2.2.2.2.2.1 = some (rv1, M1)) (kk : ha_RT ext k (pc + 3) L (rv1.toList ++ st.drop y) M1 (b - q.2.2.2.2.2.2.2.1) Post) : ha_RT ext k pc L st M b Post := by
  obtain ⟨n2, rv, M', hr, hp⟩ := kk
  refine ⟨max n1 n2 + 1, rv, M', ?_, hp⟩
  have hr' := hz_mono (Nat.le_max_right n1 n2) hr
  obtain ⟨z, zb, nL, zr, rc, zf, zl, cs, zh⟩ := q
  have hs' : (match ext x (st.take y).reverse M with
      | some o => o
      | none => hz_run ext (max n1 n2) x 0 (hz_ent nL (st.take y).reverse) [] M cs) = some (rv1, M1) := by
    unfold ha_C at hs
    cases he : ext x (st.take y).reverse M with
    | some o =>
      rw [he] at hs
      exact hs
    | none =>
      rw [he] at hs
      exact hz_mono (Nat.le_max_left n1 n2) hs
  have key : ∀ (o : Option (Option Value × hzMem)), o = some (rv1, M1) → (match o with
      | some (rv, M') => hz_run ext (max n1 n2) k (pc + 3) L (rv.toList ++ st.drop y) M' (b - cs)
      | none => none) = some (rv, M') := by
    intro o ho
    rw [ho]
    exact hr'
  cases virt with
  | true =>
    rw [hz_run5 hf hk]
    unfold hz_inv
    rw [if_neg ha, hq]
    dsimp only
    rw [if_pos hc]
    exact key _ hs'
  | false =>
    rw [hz_run6 hf hk]
    unfold hz_inv
    rw [if_neg ha, hq]
    dsimp only
    rw [if_pos hc]
    exact key _ hs'
end HR
