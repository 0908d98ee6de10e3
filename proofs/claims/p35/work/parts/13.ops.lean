/-! ARITHMETIC ON WHAT IS KNOWN -/
def ha_i32 (q : Int × Int) : Bool := decide (ha_lo ≤ q.1) && decide (q.2 ≤ ha_hi)
def ha_any (S : ha_S) : ha_S × ha_V := ha_mk S (ha_lo, ha_hi)
theorem ha_any_ok {ρ : Nat → Int32} {M : hzMem} {S : ha_S} (h : ha_ok ρ M S) (x : Int32) : ∃ ρ', ha_ex S.1 ρ ρ' ∧ S.1 ≤ (ha_any S).1.1 ∧ ha_i ρ' (ha_any S).1.1 (ha_any S).2 x ∧ ha_ok ρ' M (ha_any S).1 := ha_mk_ok h _ x (ha_rng x).1 (ha_rng x).2
/-- the affine form of an int: (a, p, c): a times the symbol p plus c -/
def ha_af (S : ha_S) (s : Nat) : Int × Nat × Int := match S.2.2.2.1.lookup s with
  | some q => q
  | none => (1, s, 0)
theorem ha_af_ok {ρ : Nat → Int32} {M : hzMem} {S : ha_S} (h : ha_ok ρ M S) {s : Nat} (hs : s < S.1) : (ha_af S s).2.1 < S.1 ∧ (ρ s).toInt = (ha_af S s).1 * (ρ (ha_af S s).2.1).toInt + (ha_af S s).2.2 := by
  unfold ha_af
  split
  · rename_i q hq
    have := h.2.2.2.1 (s, q) (hz_lookup_mem _ hq)
    exact ⟨this.2.1, this.2.2⟩
  · exact ⟨hs, by show (ρ s).toInt = 1 * (ρ s).toInt + 0; omega⟩
/-- a fact more: the affine form of the newest symbol -/
def ha_addF (S : ha_S) (f : Nat × Int × Nat × Int) : ha_S := (S.1, S.2.1, S.2.2.1, f :: S.2.2.2.1, S.2.2.2.2)
theorem ha_addF_ok {ρ : Nat → Int32} {M : hzMem} {S : ha_S} (h : ha_ok ρ M S) {f : Nat × Int × Nat × Int} (h1 : f.1 < S.1) (h2 : f.2.2.1 < S.1) (h3 : (ρ f.1).toInt = f.2.1 * (ρ f.2.2.1).toInt + f.2.2.2) : ha_ok ρ M (ha_addF S f) := by
  obtain ⟨hl, hE, hG, hF, hC⟩ := h
  refine ⟨hl, hE, hG, fun z hz => ?_, hC⟩
  rcases List.mem_cons.mp hz with rfl | hz
  · exact ⟨h1, h2, h3⟩
  · exact hF z hz
def ha_addG (S : ha_S) (gs : List (Nat × Nat)) : ha_S := (S.1, S.2.1, gs ++ S.2.2.1, S.2.2.2)
theorem ha_addG_ok {ρ : Nat → Int32} {M : hzMem} {S : ha_S} (h : ha_ok ρ M S) {gs : List (Nat × Nat)} (h1 : ∀ g ∈ gs, g.1 < S.1 ∧ g.2 < S.1 ∧ (ρ g.2).toInt < (ρ g.1).toInt) : ha_ok ρ M (ha_addG S gs) := by
  obtain ⟨hl, hE, hG, hF, hC⟩ := h
  refine ⟨hl, hE, fun z hz => ?_, hF, hC⟩
  rcases List.mem_append.mp hz with hz | hz
  · exact h1 z hz
  · exact hG z hz
/-- all that s is above -/
def ha_below (S : ha_S) (s : Nat) : List Nat := s :: ((S.2.2.1.filter (fun g => g.1 == s)).map (fun g => g.2))
theorem ha_below_ok {ρ : Nat → Int32} {M : hzMem} {S : ha_S} (h : ha_ok ρ M S) {s : Nat} (hs : s < S.1) : ∀ t ∈ ha_below S s, t < S.1 ∧ (ρ t).toInt ≤ (ρ s).toInt := by
  intro t ht
  rcases List.mem_cons.mp ht with rfl | ht
  · exact ⟨hs, Int.le_refl _⟩
  · obtain ⟨g, hg, rfl⟩ := List.mem_map.mp ht
    obtain ⟨h1, h2⟩ := List.mem_filter.mp hg
    rw [beq_iff_eq] at h2
    obtain ⟨_, a, b⟩ := h.2.2.1 g h1
    rw [h2] at b
    exact ⟨a, by omega⟩
def ha_up (S : ha_S) (a : ha_V) (q : Int × Int) : List Nat := match a with
  | .inl s => if 1 ≤ q.1 then ha_below S s else []
  | _ => []
/-- facts about the newest symbol n = a + b -/
def ha_sumF (S : ha_S) (a b : ha_V) : List (Nat × Int × Nat × Int) := match a, b with
  | .inl s, .inr (.inl c) => [(S.1, (ha_af S s).1, (ha_af S s).2.1, (ha_af S s).2.2 + c)]
  | .inr (.inl c), .inl s => [(S.1, (ha_af S s).1, (ha_af S s).2.1, (ha_af S s).2.2 + c)]
  | _, _ => []
def ha_subF (S : ha_S) (a b : ha_V) : List (Nat × Int × Nat × Int) := match a, b with
  | .inl s, .inr (.inl c) => [(S.1, (ha_af S s).1, (ha_af S s).2.1, (ha_af S s).2.2 - c)]
  | _, _ => []
def ha_mulF (S : ha_S) (a b : ha_V) : List (Nat × Int × Nat × Int) := match a, b with
  | .inl s, .inr (.inl c) => [(S.1, c * (ha_af S s).1, (ha_af S s).2.1, c * (ha_af S s).2.2)]
  | .inr (.inl c), .inl s => [(S.1, c * (ha_af S s).1, (ha_af S s).2.1, c * (ha_af S s).2.2)]
  | _, _ => []
def ha_putF (S : ha_S) (fs : List (Nat × Int × Nat × Int)) : ha_S := (S.1, S.2.1, S.2.2.1, fs ++ S.2.2.2.1, S.2.2.2.2)
/-- an int of an interval, with facts (told of the symbol S.1) where it is a new symbol -/
def ha_res (S : ha_S) (q : Int × Int) (fs : List (Nat × Int × Nat × Int)) (ups : List Nat) : ha_S × ha_V :=
  if ha_i32 q = true then (if q.1 = q.2 then (S, .inr (.inl q.1)) else (ha_addG (ha_putF (ha_new S q) fs) (ups.map (fun u => (S.1, u))), .inl S.1)) else ha_any S
theorem ha_res_ok {ρ : Nat → Int32} {M : hzMem} {S : ha_S} (h : ha_ok ρ M S) {q : Int × Int} {fs : List (Nat × Int × Nat × Int)} {ups : List Nat} {x : Int32}
    (hq : ha_i32 q = true → q.1 ≤ x.toInt ∧ x.toInt ≤ q.2) (hf : ha_i32 q = true → ∀ f ∈ fs, f.1 = S.1 ∧ f.2.2.1 < S.1 ∧ x.toInt = f.2.1 * (ρ f.2.2.1).toInt + f.2.2.2) (hu : ha_i32 q = true → ∀ u ∈ ups, u < S.1 ∧ (ρ u).toInt < x.toInt) :
    ∃ ρ', ha_ex S.1 ρ ρ' ∧ S.1 ≤ (ha_res S q fs ups).1.1 ∧ ha_i ρ' (ha_res S q fs ups).1.1 (ha_res S q fs ups).2 x ∧ ha_ok ρ' M (ha_res S q fs ups).1 := by
  unfold ha_res
  split
  · rename_i hr
    obtain ⟨h1, h2⟩ := hq hr
    split
    · rename_i e
      exact ⟨ρ, ha_ex.rf, Nat.le_refl _, by show x.toInt = q.1; omega, h⟩
    · obtain ⟨ρ', ex, hx, ho⟩ := ha_new_ok h q x h1 h2
      refine ⟨ρ', ex, Nat.le_succ _, ⟨Nat.lt_succ_self _, hx.symm⟩, ?_⟩
      refine ha_addG_ok ?_ ?_
      · obtain ⟨hl, hE, hG, hF, hC⟩ := ho
        refine ⟨hl, hE, hG, fun z hz => ?_, hC⟩
        rcases List.mem_append.mp hz with hz | hz
        · obtain ⟨a, b, c⟩ := hf hr z hz
          refine ⟨by rw [a]; exact Nat.lt_succ_self _, Nat.lt_succ_of_lt b, ?_⟩
          rw [a, hx, ex _ b]
          exact c
        · exact hF z hz
      · intro g hg
        obtain ⟨u, hu1, rfl⟩ := List.mem_map.mp hg
        obtain ⟨a, b⟩ := hu hr u hu1
        exact ⟨Nat.lt_succ_self _, Nat.lt_succ_of_lt a, by show (ρ' u).toInt < (ρ' S.1).toInt; rw [hx, ex _ a]; exact b⟩
  · exact ha_any_ok h x
theorem ha_bm {n : Int} (h1 : ha_lo ≤ n) (h2 : n ≤ ha_hi) : n.bmod (2 ^ 32) = n := by
  unfold ha_lo at h1
  unfold ha_hi at h2
  rw [Int.bmod_def]
  omega
theorem ha_i32_of {q : Int × Int} (h : ha_i32 q = true) : ha_lo ≤ q.1 ∧ q.2 ≤ ha_hi := by
  simpa [ha_i32] using h
def ha_add (S : ha_S) (a b : ha_V) : Option (ha_S × ha_V) := match ha_itv S a, ha_itv S b with
  | some p, some q => some (ha_res S (p.1 + q.1, p.2 + q.2) (ha_sumF S a b) (ha_up S a q ++ ha_up S b p))
  | _, _ => none
theorem ha_up_ok {ρ : Nat → Int32} {M : hzMem} {S : ha_S} (h : ha_ok ρ M S) {a : ha_V} {x : Int32} (ha : ha_i ρ S.1 a x) (q : Int × Int) : ∀ u ∈ ha_up S a q, u < S.1 ∧ (ρ u).toInt ≤ x.toInt ∧ 1 ≤ q.1 := by
  intro u hu
  unfold ha_up at hu
  split at hu
  · split at hu
    · rename_i h1
      obtain ⟨a1, a2⟩ := ha_below_ok h ha.1 u hu
      exact ⟨a1, by rw [ha.2]; exact a2, h1⟩
    · cases hu
  · cases hu
theorem ha_add_ok {ρ : Nat → Int32} {M : hzMem} {S : ha_S} (h : ha_ok ρ M S) {a b : ha_V} {x y : Int32} (ha : ha_i ρ S.1 a x) (hb : ha_i ρ S.1 b y) :
    ∃ R, ha_add S a b = some R ∧ ∃ ρ', ha_ex S.1 ρ ρ' ∧ S.1 ≤ R.1.1 ∧ ha_i ρ' R.1.1 R.2 (x + y) ∧ ha_ok ρ' M R.1 := by
  obtain ⟨p, e1, p1, p2⟩ := ha_itv_ok h ha
  obtain ⟨q, e2, q1, q2⟩ := ha_itv_ok h hb
  unfold ha_add
  rw [e1, e2]
  refine ⟨_, rfl, ?_⟩
  have key : ha_i32 (p.1 + q.1, p.2 + q.2) = true → (x + y).toInt = x.toInt + y.toInt := fun hr => by
    obtain ⟨g1, g2⟩ := ha_i32_of hr
    rw [Int32.toInt_add]
    exact ha_bm (by dsimp only at g1; omega) (by dsimp only at g2; omega)
  refine ha_res_ok h (fun hr => by rw [key hr]; exact ⟨by dsimp only; omega, by dsimp only; omega⟩) (fun hr f hf => ?_) (fun hr u hu => ?_)
  · rw [key hr]
    unfold ha_sumF at hf
    split at hf
    · rw [List.mem_singleton] at hf
      subst hf
      obtain ⟨a1, a2⟩ := ha_af_ok h ha.1
      exact ⟨rfl, a1, by rw [ha.2, a2, show y.toInt = _ from hb]; dsimp only; omega⟩
    · rw [List.mem_singleton] at hf
      subst hf
      obtain ⟨a1, a2⟩ := ha_af_ok h hb.1
      exact ⟨rfl, a1, by rw [hb.2, a2, show x.toInt = _ from ha]; dsimp only; omega⟩
    · cases hf
  · rw [key hr]
    rcases List.mem_append.mp hu with hu | hu
    · obtain ⟨u1, u2, u3⟩ := ha_up_ok h ha q u hu
      exact ⟨u1, by omega⟩
    · obtain ⟨u1, u2, u3⟩ := ha_up_ok h hb p u hu
      exact ⟨u1, by omega⟩
def ha_sub (S : ha_S) (a b : ha_V) : Option (ha_S × ha_V) := match ha_itv S a, ha_itv S b with
  | some p, some q => some (ha_res S (p.1 - q.2, p.2 - q.1) (ha_subF S a b) [])
  | _, _ => none
theorem ha_sub_ok {ρ : Nat → Int32} {M : hzMem} {S : ha_S} (h : ha_ok ρ M S) {a b : ha_V} {x y : Int32} (ha : ha_i ρ S.1 a x) (hb : ha_i ρ S.1 b y) :
    ∃ R, ha_sub S a b = some R ∧ ∃ ρ', ha_ex S.1 ρ ρ' ∧ S.1 ≤ R.1.1 ∧ ha_i ρ' R.1.1 R.2 (x - y) ∧ ha_ok ρ' M R.1 := by
  obtain ⟨p, e1, p1, p2⟩ := ha_itv_ok h ha
  obtain ⟨q, e2, q1, q2⟩ := ha_itv_ok h hb
  unfold ha_sub
  rw [e1, e2]
  refine ⟨_, rfl, ?_⟩
  have key : ha_i32 (p.1 - q.2, p.2 - q.1) = true → (x - y).toInt = x.toInt - y.toInt := fun hr => by
    obtain ⟨g1, g2⟩ := ha_i32_of hr
    rw [Int32.toInt_sub]
    exact ha_bm (by dsimp only at g1; omega) (by dsimp only at g2; omega)
  refine ha_res_ok h (fun hr => by rw [key hr]; exact ⟨by dsimp only; omega, by dsimp only; omega⟩) (fun hr f hf => ?_) (fun hr u hu => absurd hu List.not_mem_nil)
  rw [key hr]
  unfold ha_subF at hf
  split at hf
  · rw [List.mem_singleton] at hf
    subst hf
    obtain ⟨a1, a2⟩ := ha_af_ok h ha.1
    exact ⟨rfl, a1, by rw [ha.2, a2, show y.toInt = _ from hb]; dsimp only; omega⟩
  · cases hf
/-- a product by a known int that isn't below 0 -/
def ha_mul (S : ha_S) (a b : ha_V) : Option (ha_S × ha_V) := match ha_itv S a, ha_itv S b with
  | some p, some q => if q.1 = q.2 ∧ 0 ≤ q.1 then some (ha_res S (p.1 * q.1, p.2 * q.1) (ha_mulF S a b) [])
    else if p.1 = p.2 ∧ 0 ≤ p.1 then some (ha_res S (p.1 * q.1, p.1 * q.2) (ha_mulF S a b) []) else some (ha_any S)
  | _, _ => none
theorem ha_mulF_ok {ρ : Nat → Int32} {M : hzMem} {S : ha_S} (h : ha_ok ρ M S) {a b : ha_V} {x y : Int32} (ha : ha_i ρ S.1 a x) (hb : ha_i ρ S.1 b y) : ∀ f ∈ ha_mulF S a b, f.1 = S.1 ∧ f.2.2.1 < S.1 ∧ x.toInt * y.toInt = f.2.1 * (ρ f.2.2.1).toInt + f.2.2.2 := by
  intro f hf
  unfold ha_mulF at hf
  split at hf
  · rw [List.mem_singleton] at hf
    subst hf
    obtain ⟨a1, a2⟩ := ha_af_ok h ha.1
    refine ⟨rfl, a1, ?_⟩
    rw [ha.2, a2, show y.toInt = _ from hb]
    dsimp only
    rw [Int.mul_comm, Int.mul_add, Int.mul_assoc]
  · rw [List.mem_singleton] at hf
    subst hf
    obtain ⟨a1, a2⟩ := ha_af_ok h hb.1
    refine ⟨rfl, a1, ?_⟩
    rw [hb.2, a2, show x.toInt = _ from ha]
    dsimp only
    rw [Int.mul_add, Int.mul_assoc]
  · cases hf
theorem ha_mul_ok {ρ : Nat → Int32} {M : hzMem} {S : ha_S} (h : ha_ok ρ M S) {a b : ha_V} {x y : Int32} (ha : ha_i ρ S.1 a x) (hb : ha_i ρ S.1 b y) :
    ∃ R, ha_mul S a b = some R ∧ ∃ ρ', ha_ex S.1 ρ ρ' ∧ S.1 ≤ R.1.1 ∧ ha_i ρ' R.1.1 R.2 (x * y) ∧ ha_ok ρ' M R.1 := by
  obtain ⟨p, e1, p1, p2⟩ := ha_itv_ok h ha
  obtain ⟨q, e2, q1, q2⟩ := ha_itv_ok h hb
  have hF := ha_mulF_ok h ha hb
  unfold ha_mul
  rw [e1, e2]
  dsimp only
  split
  · rename_i hc
    refine ⟨_, rfl, ?_⟩
    have hy : y.toInt = q.1 := by omega
    have m1 : p.1 * q.1 ≤ x.toInt * q.1 := Int.mul_le_mul_of_nonneg_right p1 hc.2
    have m2 : x.toInt * q.1 ≤ p.2 * q.1 := Int.mul_le_mul_of_nonneg_right p2 hc.2
    have key : ha_i32 (p.1 * q.1, p.2 * q.1) = true → (x * y).toInt = x.toInt * y.toInt := fun hr => by
      obtain ⟨g1, g2⟩ := ha_i32_of hr
      rw [Int32.toInt_mul, hy]
      exact ha_bm (Int.le_trans g1 m1) (Int.le_trans m2 g2)
    exact ha_res_ok h (fun hr => by rw [key hr, hy]; exact ⟨m1, m2⟩) (fun hr f hf => by rw [key hr]; exact hF f hf) (fun hr u hu => absurd hu List.not_mem_nil)
  · split
    · rename_i hc
      refine ⟨_, rfl, ?_⟩
      have hx : x.toInt = p.1 := by omega
      have m1 : p.1 * q.1 ≤ p.1 * y.toInt := Int.mul_le_mul_of_nonneg_left q1 hc.2
      have m2 : p.1 * y.toInt ≤ p.1 * q.2 := Int.mul_le_mul_of_nonneg_left q2 hc.2
      have key : ha_i32 (p.1 * q.1, p.1 * q.2) = true → (x * y).toInt = x.toInt * y.toInt := fun hr => by
        obtain ⟨g1, g2⟩ := ha_i32_of hr
        rw [Int32.toInt_mul, hx]
        exact ha_bm (Int.le_trans g1 m1) (Int.le_trans m2 g2)
      exact ha_res_ok h (fun hr => by rw [key hr, hx]; exact ⟨m1, m2⟩) (fun hr f hf => by rw [key hr]; exact hF f hf) (fun hr u hu => absurd hu List.not_mem_nil)
    · exact ⟨_, rfl, ha_any_ok h _⟩
/-- a known int above 0 divides one that isn't below 0 -/
def ha_div (S : ha_S) (a b : ha_V) : Option (ha_S × ha_V) := match ha_itv S a, ha_itv S b with
  | some p, some q => if q.1 = q.2 ∧ 0 < q.1 then (if 0 ≤ p.1 then some (ha_res S (p.1 / q.1, p.2 / q.1) [] []) else some (ha_any S)) else none
  | _, _ => none
def ha_rem (S : ha_S) (a b : ha_V) : Option (ha_S × ha_V) := match ha_itv S a, ha_itv S b with
  | some p, some q => if q.1 = q.2 ∧ 0 < q.1 then (if 0 ≤ p.1 then some (ha_res S (0, q.1 - 1) [] []) else some (ha_any S)) else none
  | _, _ => none
theorem ha_nat {x : Int32} (h : 0 ≤ x.toInt) : ∃ j : Nat, j < 2 ^ 31 ∧ x = nI j ∧ x.toInt = j := by
  obtain ⟨j, h1, h2⟩ := nI_of (x := x) (by rw [Int32.lt_iff_toInt_lt, Int32.toInt_zero]; omega)
  exact ⟨j, h1, h2, by rw [h2, nI_toInt h1]⟩
theorem ha_div_ok {ρ : Nat → Int32} {M : hzMem} {S : ha_S} (h : ha_ok ρ M S) {a b : ha_V} {x y : Int32} (ha : ha_i ρ S.1 a x) (hb : ha_i ρ S.1 b y) {R : ha_S × ha_V} (hR : ha_div S a b = some R) :
    y ≠ 0 ∧ ∃ ρ', ha_ex S.1 ρ ρ' ∧ S.1 ≤ R.1.1 ∧ ha_i ρ' R.1.1 R.2 (x / y) ∧ ha_ok ρ' M R.1 := by
  obtain ⟨p, e1, p1, p2⟩ := ha_itv_ok h ha
  obtain ⟨q, e2, q1, q2⟩ := ha_itv_ok h hb
  unfold ha_div at hR
  rw [e1, e2] at hR
  dsimp only at hR
  split at hR
  · rename_i hc
    have hy : y.toInt = q.1 := by omega
    have hy0 : y ≠ 0 := fun e => by rw [e, Int32.toInt_zero] at hy; omega
    refine ⟨hy0, ?_⟩
    split at hR
    · rename_i h0
      cases hR
      obtain ⟨j, hj, ej, tj⟩ := ha_nat (x := x) (by omega)
      obtain ⟨d, hd, ed, td⟩ := ha_nat (x := y) (by omega)
      have e : (x / y).toInt = x.toInt / q.1 := by
        rw [ej, ed, pk_div hj (by omega) hd, nI_toInt (Nat.lt_of_le_of_lt (Nat.div_le_self _ _) hj), nI_toInt hj, ← hy, td]
        exact Int.natCast_ediv j d
      refine ha_res_ok h (fun _ => ?_) (fun _ f hf => absurd hf List.not_mem_nil) (fun _ u hu => absurd hu List.not_mem_nil)
      rw [e]
      exact ⟨Int.ediv_le_ediv hc.2 p1, Int.ediv_le_ediv hc.2 p2⟩
    · cases hR
      exact ha_any_ok h _
  · cases hR
theorem ha_rem_ok {ρ : Nat → Int32} {M : hzMem} {S : ha_S} (h : ha_ok ρ M S) {a b : ha_V} {x y : Int32} (ha : ha_i ρ S.1 a x) (hb : ha_i ρ S.1 b y) {R : ha_S × ha_V} (hR : ha_rem S a b = some R) :
    y ≠ 0 ∧ ∃ ρ', ha_ex S.1 ρ ρ' ∧ S.1 ≤ R.1.1 ∧ ha_i ρ' R.1.1 R.2 (x - x / y * y) ∧ ha_ok ρ' M R.1 := by
  obtain ⟨p, e1, p1, p2⟩ := ha_itv_ok h ha
  obtain ⟨q, e2, q1, q2⟩ := ha_itv_ok h hb
  unfold ha_rem at hR
  rw [e1, e2] at hR
  dsimp only at hR
  split at hR
  · rename_i hc
    have hy : y.toInt = q.1 := by omega
    have hy0 : y ≠ 0 := fun e => by rw [e, Int32.toInt_zero] at hy; omega
    refine ⟨hy0, ?_⟩
    split at hR
    · rename_i h0
      cases hR
      obtain ⟨j, hj, ej, tj⟩ := ha_nat (x := x) (by omega)
      obtain ⟨d, hd, ed, td⟩ := ha_nat (x := y) (by omega)
      have e : (x - x / y * y).toInt = ((j % d : Nat) : Int) := by
        rw [ej, ed, pk_rem hj (by omega) hd, nI_toInt (Nat.lt_of_le_of_lt (Nat.mod_le _ _) hj)]
      have hm : j % d < d := Nat.mod_lt _ (by omega)
      refine ha_res_ok h (fun _ => ?_) (fun _ f hf => absurd hf List.not_mem_nil) (fun _ u hu => absurd hu List.not_mem_nil)
      rw [e]
      exact ⟨by dsimp only; omega, by dsimp only; omega⟩
    · cases hR
      exact ha_any_ok h _
  · cases hR
/-- bits of a known int that isn't below 0 -/
def ha_and (S : ha_S) (a b : ha_V) : Option (ha_S × ha_V) := match ha_itv S a, ha_itv S b with
  | some p, some q => if q.1 = q.2 ∧ 0 ≤ q.1 then some (ha_res S (0, q.1) [] []) else if p.1 = p.2 ∧ 0 ≤ p.1 then some (ha_res S (0, p.1) [] []) else some (ha_any S)
  | _, _ => none
theorem ha_and_r (x y : Int32) (h : 0 ≤ y.toInt) : 0 ≤ (x &&& y).toInt ∧ (x &&& y).toInt ≤ y.toInt := by
  obtain ⟨d, hd, ed, td⟩ := ha_nat h
  have e1 : y.toBitVec.toNat = d := by rw [ed]; exact pk_tn (by omega)
  have e2 : (x &&& y).toBitVec.toNat ≤ d := by
    rw [Int32.toBitVec_and, BitVec.toNat_and, e1]
    exact Nat.and_le_right
  have e3 : (x &&& y).toInt = ((x &&& y).toBitVec.toNat : Int) := by
    rw [← Int32.toInt_toBitVec, BitVec.toInt_eq_toNat_cond]
    split
    · rfl
    · omega
  rw [e3, td]
  omega
theorem ha_and_ok {ρ : Nat → Int32} {M : hzMem} {S : ha_S} (h : ha_ok ρ M S) {a b : ha_V} {x y : Int32} (ha : ha_i ρ S.1 a x) (hb : ha_i ρ S.1 b y) :
    ∃ R, ha_and S a b = some R ∧ ∃ ρ', ha_ex S.1 ρ ρ' ∧ S.1 ≤ R.1.1 ∧ ha_i ρ' R.1.1 R.2 (x &&& y) ∧ ha_ok ρ' M R.1 := by
  obtain ⟨p, e1, p1, p2⟩ := ha_itv_ok h ha
  obtain ⟨q, e2, q1, q2⟩ := ha_itv_ok h hb
  unfold ha_and
  rw [e1, e2]
  dsimp only
  split
  · rename_i hc
    refine ⟨_, rfl, ha_res_ok h (fun _ => ?_) (fun _ f hf => absurd hf List.not_mem_nil) (fun _ u hu => absurd hu List.not_mem_nil)⟩
    have := ha_and_r x y (by omega)
    exact ⟨this.1, by dsimp only; omega⟩
  · split
    · rename_i hc
      refine ⟨_, rfl, ha_res_ok h (fun _ => ?_) (fun _ f hf => absurd hf List.not_mem_nil) (fun _ u hu => absurd hu List.not_mem_nil)⟩
      have := ha_and_r y x (by omega)
      rw [Int32.and_comm] at this
      exact ⟨this.1, by dsimp only; omega⟩
    · exact ⟨_, rfl, ha_any_ok h _⟩
/-- the exclusive or of two known ints -/
def ha_xor (S : ha_S) (a b : ha_V) : ha_S × ha_V := match a, b with
  | .inr (.inl c), .inr (.inl d) => (S, .inr (.inl (Int32.ofInt c ^^^ Int32.ofInt d).toInt))
  | _, _ => ha_any S
theorem ha_xor_ok {ρ : Nat → Int32} {M : hzMem} {S : ha_S} (h : ha_ok ρ M S) {a b : ha_V} {x y : Int32} (ha : ha_i ρ S.1 a x) (hb : ha_i ρ S.1 b y) :
    ∃ ρ', ha_ex S.1 ρ ρ' ∧ S.1 ≤ (ha_xor S a b).1.1 ∧ ha_i ρ' (ha_xor S a b).1.1 (ha_xor S a b).2 (x ^^^ y) ∧ ha_ok ρ' M (ha_xor S a b).1 := by
  unfold ha_xor
  split
  · refine ⟨ρ, ha_ex.rf, Nat.le_refl _, ?_, h⟩
    show (x ^^^ y).toInt = _
    rw [← show x.toInt = _ from ha, ← show y.toInt = _ from hb, Int32.ofInt_toInt, Int32.ofInt_toInt]
  · exact ha_any_ok h _
