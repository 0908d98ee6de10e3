/-! THE FIRST WORLD; THE LAW, from its entry -/
abbrev hl_ia (n : Nat) : (Nat × vp_A) ⊕ (Nat × List Value) := .inl (0, n, .inl (fun _ => 0))
def hl_M0 : hzMem := [.inr (2, [.ref 1, .ref 10, .ref 19, .int 0, .ref 28, .ref 45, .ref 46]), .inr (1, [.ref 2, .int 0, .int 9, .int 0, .int 0, .ref 3, .ref 4, .ref 5, .int 0, .ref 6, .ref 7, .ref 8, .ref 9]), hl_ia 24, hl_ia 6, hl_ia 6, hl_ia 6, hl_ia 8, hl_ia 8, hl_ia 8, hl_ia 8, .inr (1, [.ref 11, .int 0, .int 9, .int 0, .int 0, .ref 12, .ref 13, .ref 14, .int 0, .ref 15, .ref 16, .ref 17, .ref 18]), hl_ia 24, hl_ia 6, hl_ia 6, hl_ia 6, hl_ia 8, hl_ia 8, hl_ia 8, hl_ia 8, .inr (1, [.ref 20, .int 0, .int 9, .int 0, .int 0, .ref 21, .ref 22, .ref 23, .int 0, .ref 24, .ref 25, .ref 26, .ref 27]), hl_ia 24, hl_ia 6, hl_ia 6, hl_ia 6, hl_ia 8, hl_ia 8, hl_ia 8, hl_ia 8, .inl (2, 8, .inr (.inr (.inr (.inr (fun j => if j < 8 then some (29 + 2 * j) else none))))), .inr (0, [.int 0, .int 0, .int 0, .int 0, .int 0, .ref 30]), hl_ia 100, .inr (0, [.int 0, .int 0, .int 0, .int 0, .int 0, .ref 32]), hl_ia 100, .inr (0, [.int 0, .int 0, .int 0, .int 0, .int 0, .ref 34]), hl_ia 100, .inr (0, [.int 0, .int 0, .int 0, .int 0, .int 0, .ref 36]), hl_ia 100, .inr (0, [.int 0, .int 0, .int 0, .int 0, .int 0, .ref 38]), hl_ia 100, .inr (0, [.int 0, .int 0, .int 0, .int 0, .int 0, .ref 40]), hl_ia 100, .inr (0, [.int 0, .int 0, .int 0, .int 0, .int 0, .ref 42]), hl_ia 100, .inr (0, [.int 0, .int 0, .int 0, .int 0, .int 0, .ref 44]), hl_ia 100, hl_ia 4, hl_ia 4, .inr (3, [.ref 48, .ref 49, .ref 50, .ref 51, .int 0, .int 0, .int 0, .int 0, .ref 52, .int 0, .ref 53, .ref 54, .ref 55, .ref 56, .ref 57, .ref 58, .int 0]), .inl (0, 80, .inl (upd (fun _ => 0) (2 : Int32).toNatClampNeg 9)), hl_ia 80, hl_ia 80, hl_ia 80, hl_ia 3, hl_ia 8, hl_ia 8, hl_ia 8, hl_ia 8, hl_ia 8, hl_ia 800, .inl (1, 1, .inr (.inl (fun _ => 0)))]
def hc_shpB (sh : ha_sh) (e : (Nat × vp_A) ⊕ (Nat × List Value)) : Bool := match sh, e with
  | .inl (c, fs), .inr (c', vs) => decide (c' = c) && decide (vs.length = fs.length) && (List.range fs.length).all (fun y => match fs[y]?, vs[y]? with
    | some (.inl q), some (.int x) => decide (q.1 ≤ x.toInt) && decide (x.toInt ≤ q.2)
    | some (.inr r), some (.ref r') => decide (r' = r)
    | _, _ => false)
  | .inr (.inl (n, d, ex)), .inl (t, n', .inl f) => decide (t = 0) && decide (n' = n) && (List.range n).all (fun j => decide ((ha_ai d ex j).1 ≤ (f j).toInt) && decide ((f j).toInt ≤ (ha_ai d ex j).2))
  | .inr (.inr l), .inl (t, n', .inr (.inr (.inr (.inr f)))) => decide (t = 2) && decide (n' = l.length) && (List.range l.length).all (fun j => decide (l[j]? = f j))
  | _, _ => false
theorem hc_shpB_ok {sh : ha_sh} {e : (Nat × vp_A) ⊕ (Nat × List Value)} (h : hc_shpB sh e = true) : ha_shp sh e := by
  unfold hc_shpB at h
  split at h
  · rename_i c fs c' vs
    simp only [Bool.and_eq_true, decide_eq_true_eq, List.all_eq_true, List.mem_range] at h
    obtain ⟨⟨h1, h2⟩, h3⟩ := h
    refine ⟨h1, h2, fun y I v hI hv => ?_⟩
    have h4 := h3 y (List.getElem?_eq_some_iff.mp hI).1
    rw [hI, hv] at h4
    match I, v, h4 with
    | .inl q, .int x, h4 =>
      simp only [Bool.and_eq_true, decide_eq_true_eq] at h4
      exact ⟨x, rfl, h4.1, h4.2⟩
    | .inr r, .ref r', h4 =>
      have := of_decide_eq_true h4
      subst this
      exact rfl
  · rename_i n d ex t n' f
    simp only [Bool.and_eq_true, decide_eq_true_eq, List.all_eq_true, List.mem_range] at h
    exact ⟨h.1.1, h.1.2, fun j hj => h.2 j hj⟩
  · rename_i l t n' f
    simp only [Bool.and_eq_true, decide_eq_true_eq, List.all_eq_true, List.mem_range] at h
    refine ⟨h.1.1, h.1.2, fun j r hj => ?_⟩
    rw [← h.2 j (List.getElem?_eq_some_iff.mp hj).1, hj]
  · cases h
theorem hc_inv0c : (List.range 59).all (fun k => match hw_W[k]?, hl_M0[k]? with
  | some sh, some e => hc_shpB sh e
  | _, _ => false) = true := by decide +kernel
theorem hl_inv0 : ha_inv hw_W hl_M0 := by
  intro k sh hk
  have hlt : k < 59 := (List.getElem?_eq_some_iff.mp hk).1
  have h := List.all_eq_true.mp hc_inv0c k (List.mem_range.mpr hlt)
  rw [hk] at h
  cases he : hl_M0[k]? with
  | none => rw [he] at h; cases h
  | some e =>
    rw [he] at h
    exact ⟨e, rfl, hc_shpB_ok h⟩
theorem hl_I0 : hl_I hl_M0 := by
  refine ⟨hl_inv0, rfl, ⟨fun _ => 0, rfl⟩, fun _ => (0, 0, 0, fun _ => 0), ⟨fun d hd => ⟨Or.inl rfl, fun h => absurd (show (0 : Int32) = 1 from h) (by decide), fun h => absurd (show (0 : Int32) = 2 from h) (by decide)⟩, fun d hd h => absurd (show (0 : Int32) = 2 from h) (by decide)⟩, fun d hd => ?_, ⟨_, _, _, _, _, _, rfl, rfl, rfl, rfl, rfl, rfl, fun d hd => ⟨rfl, fun h => absurd (show (0 : Int32) = 1 from h) (by decide), fun h => absurd (show (0 : Int32) = 2 from h) (by decide)⟩⟩⟩
  match d, hd with
    | 0, _ => exact ⟨_, _, rfl, rfl, rfl, rfl, rfl, fun h => absurd h (by decide), fun h => absurd h (by decide)⟩
    | 1, _ => exact ⟨_, _, rfl, rfl, rfl, rfl, rfl, fun h => absurd h (by decide), fun h => absurd h (by decide)⟩
    | 2, _ => exact ⟨_, _, rfl, rfl, rfl, rfl, rfl, fun h => absurd h (by decide), fun h => absurd h (by decide)⟩
    | 3, _ => exact ⟨_, _, rfl, rfl, rfl, rfl, rfl, fun h => absurd h (by decide), fun h => absurd h (by decide)⟩
    | 4, _ => exact ⟨_, _, rfl, rfl, rfl, rfl, rfl, fun h => absurd h (by decide), fun h => absurd h (by decide)⟩
    | 5, _ => exact ⟨_, _, rfl, rfl, rfl, rfl, rfl, fun h => absurd h (by decide), fun h => absurd h (by decide)⟩
    | 6, _ => exact ⟨_, _, rfl, rfl, rfl, rfl, rfl, fun h => absurd h (by decide), fun h => absurd h (by decide)⟩
    | 7, _ => exact ⟨_, _, rfl, rfl, rfl, rfl, rfl, fun h => absurd h (by decide), fun h => absurd h (by decide)⟩
    | d + 8, hd => exact absurd hd (by omega)
/-- the streets of the first world: both empty, the hour nine -/
theorem hl_A0 : hl_St hl_M0 := by
  have c48 : hp_rd hl_M0 48 = upd (fun _ => 0) (2 : Int32).toNatClampNeg 9 := hp_rda (t := 0) (n := 80) rfl
  have c2 : hp_rd hl_M0 2 = fun _ => 0 := hp_rda (t := 0) (n := 24) rfl
  have u2 : ∀ j : Nat, j ≠ 2 → upd (fun _ => (0 : Int32)) (2 : Int32).toNatClampNeg 9 j = 0 := fun j hj => if_neg (show ¬ j = (2 : Int32).toNatClampNeg from hj)
  have o1 : ∀ j : Nat, ∀ v : Int32, ([.ref 2, .int 0, .int 9, .int 0, .int 0, .ref 3, .ref 4, .ref 5, .int 0, .ref 6, .ref 7, .ref 8, .ref 9] : List Value)[j]? = some (.int v) → hp_rd hl_M0 1 j = v := fun j v h => hp_rdo (c := 1) (vs := [.ref 2, .int 0, .int 9, .int 0, .int 0, .ref 3, .ref 4, .ref 5, .int 0, .ref 6, .ref 7, .ref 8, .ref 9]) rfl h
  have r03 : hp_rd hl_M0 0 3 = 0 := hp_rdo (c := 2) (vs := [.ref 1, .ref 10, .ref 19, .int 0, .ref 28, .ref 45, .ref 46]) rfl rfl
  have r474 : hp_rd hl_M0 47 4 = 0 := hp_rdo (c := 3) (vs := [.ref 48, .ref 49, .ref 50, .ref 51, .int 0, .int 0, .int 0, .int 0, .ref 52, .int 0, .ref 53, .ref 54, .ref 55, .ref 56, .ref 57, .ref 58, .int 0]) rfl rfl
  have z0 : (0 : Int32).toInt = 0 := rfl
  unfold hl_St hr_all hr_now hr_kept
  rw [c48, r03, r474]
  refine ⟨⟨⟨⟨?_, ?_, ?_, ?_, ?_⟩, ?_, ?_, ?_⟩, ⟨⟨?_, ?_, ?_, trivial⟩, ?_, ?_, ?_⟩, u2 5 (by decide)⟩, rfl, Or.inl rfl, fun h => absurd (show (0 : Int32) = 1 from h) (by decide)⟩
  · rw [o1 4 0 rfl, u2 0 (by decide)]
  · rw [o1 8 0 rfl, u2 1 (by decide)]
  · rw [o1 2 9 rfl]; rfl
  · rw [o1 3 0 rfl, u2 3 (by decide)]
  · rw [o1 1 0 rfl, u2 4 (by decide)]
  · intro h _
    rw [show (1 : Nat) + 1 = 2 from rfl, c2, u2 _ (by omega)]
  · intro p _ h
    rw [u2 0 (by decide), z0] at h
    omega
  · intro p _ h
    rw [u2 1 (by decide), z0] at h
    omega
  · rw [u2 0 (by decide), z0]; omega
  · rw [u2 1 (by decide), z0]; omega
  · exact ⟨by decide, by decide⟩
  · intro h _
    rw [u2 _ (by omega), z0]; omega
  · intro p _ h
    rw [u2 0 (by decide), z0] at h
    omega
  · intro p _ h
    rw [u2 1 (by decide), z0] at h
    omega
def hl_ad (h0 : Nat) (u : Nat → Nat) (h1 : Nat) (v : Nat → Nat) (q b : Nat) (k : Nat) : Nat := if k = 0 then h0 else if k < 47 then u (k - 1) else if k = 47 then h1 else if k < 59 then v (k - 48) else if k = 59 then q else b
set_option maxRecDepth 100000 in
theorem hl_wl0 {t0 t1 t2 : ClassId} {h0 : Nat} {u : Nat → Nat} {h1 : Nat} {v : Nat → Nat} {q b : Nat} : hz_wl (hl_ad h0 u h1 v q b) (hz_tys t0 t1 t2) hl_M0 = hc_w2 t0 t2 h0 u ++ hc_w3 t0 h1 v ++ [(q, .inl (t1, 1, .inr (.inl (fun _ => 0))))] := by
  have e : hc_row u = fun j => (if j < 8 then some (29 + 2 * j) else none : Option Nat).map (hl_ad h0 u h1 v q b) := by
    funext j
    unfold hc_row
    split
    · rename_i hj
      show some (u (28 + 2 * j)) = some (hl_ad h0 u h1 v q b (29 + 2 * j))
      unfold hl_ad
      rw [if_neg (by omega), if_pos (by omega), show 29 + 2 * j - 1 = 28 + 2 * j by omega]
    · rfl
  unfold hc_w2
  rw [e]
  rfl
theorem hl_d0 : decode code 0 = .ok (.new 8, 3) := by decide +kernel
theorem hl_d3 : decode code 3 = .ok (.dup, 1) := by decide +kernel
theorem hl_d4 : decode code 4 = .ok (.invokespecial 17, 3) := by decide +kernel
theorem hl_d7 : decode code 7 = .ok (.astore_n 1, 1) := by decide +kernel
theorem hl_d8 : decode code 8 = .ok (.new 18, 3) := by decide +kernel
theorem hl_d11 : decode code 11 = .ok (.dup, 1) := by decide +kernel
theorem hl_d12 : decode code 12 = .ok (.invokespecial 20, 3) := by decide +kernel
theorem hl_d15 : decode code 15 = .ok (.astore_n 2, 1) := by decide +kernel
theorem hl_d16 : decode code 16 = .ok (.iconst 1, 1) := by decide +kernel
theorem hl_d17 : decode code 17 = .ok (.newarray .long, 2) := by decide +kernel
theorem hl_d19 : decode code 19 = .ok (.astore_n 3, 1) := by decide +kernel
set_option maxRecDepth 100000 in
theorem hl_strs {s : State} {b : Nat} (hts : ∀ w ∈ lw_tbl, w.before #[Value.ref b] s = true) (hgv : (Jvm.Cond.and given_1 narrow_1).before #[Value.ref b] s = true) : ∀ q ∈ hzSTR, ∃ a, vk_R q.1 q.2.1 q.2.2 a s := by
  have hs := flat_of_before _ hgv
  have key : ∀ (own : String) (k : Nat) (tx : String), Cond.stringRef own k tx ∈ lw_tbl → (Cond.exactly (.string own k) "java/lang/String") ∈ flatC (Jvm.Cond.and given_1 narrow_1) → ∃ a, vk_R own k tx a s := by
    intro own k tx h1 h2
    obtain ⟨a, _, _, _, ha, _⟩ := Cond.exactly_spec (hs _ h2)
    exact ⟨a, vk_R.of (hts _ h1) ha⟩
  intro q hq
  unfold hzSTR at hq
  rcases List.mem_cons.mp hq with rfl | hq
  · exact key _ _ _ (List.mem_of_getElem? (i := 728) rfl) (by decide +kernel)
  rcases List.mem_cons.mp hq with rfl | hq
  · exact key _ _ _ (List.mem_of_getElem? (i := 764) rfl) (by decide +kernel)
  rcases List.mem_cons.mp hq with rfl | hq
  · exact key _ _ _ (List.mem_of_getElem? (i := 780) rfl) (by decide +kernel)
  rcases List.mem_cons.mp hq with rfl | hq
  · exact key _ _ _ (List.mem_of_getElem? (i := 796) rfl) (by decide +kernel)
  rcases List.mem_cons.mp hq with rfl | hq
  · exact key _ _ _ (List.mem_of_getElem? (i := 798) rfl) (by decide +kernel)
  rcases List.mem_cons.mp hq with rfl | hq
  · exact key _ _ _ (List.mem_of_getElem? (i := 800) rfl) (by decide +kernel)
  exact absurd hq List.not_mem_nil
theorem hl_ncs {s : State} {b : Nat} (hgv : (Jvm.Cond.and given_1 narrow_1).before #[Value.ref b] s = true) : ∀ q ∈ hzNC, va_Nc q.1 q.2 s := by
  have hs := flat_of_before _ hgv
  intro q hq
  unfold hzNC at hq
  rcases List.mem_cons.mp hq with rfl | hq
  · exact va_Nc.of (hs _ (by decide +kernel))
  rcases List.mem_cons.mp hq with rfl | hq
  · exact va_Nc.of (hs _ (by decide +kernel))
  rcases List.mem_cons.mp hq with rfl | hq
  · exact va_Nc.of (hs _ (by decide +kernel))
  exact absurd hq List.not_mem_nil
set_option maxHeartbeats 16000000 in
set_option maxRecDepth 100000 in
theorem whole_start {p : Program} {e : Env} {s : State} {m : MethodId} {below : List Frame} {meth : Method} {c : Code} (l : Launch) (hflags : l.flags = flags0) {b L : Nat} {xs : Nat → Int32} (hL : L ≤ 3072) (C0 : lw_At p s m meth c b L xs) : W p l e room_1 s m #[Value.ref b] below meth c s.heap [] 0 0 (lw_Z below #[Value.ref b] s) (entryFrame m ([Value.ref b] : List Value).toArray 8) := by
  obtain ⟨hx, hb, hr, hml, hown, hts, hX, hbl, hlocks, hgv⟩ := id C0
  have hfl : l.stackTraces = false := by
    unfold Launch.stackTraces
    rw [hflags]
    decide
  have htb : ∀ w ∈ hzTB, w.before #[Value.ref b] s = true := fun w hw => hts w (List.mem_filter.mp hw).1
  have hV : hz_VS s := ⟨fun w hw => va_Nw.of (hz_NW_on hw) (hts w (List.mem_filter.mp hw).1), fun w hw => va_Nw.of (hz_OW_on hw) (hts w (List.mem_filter.mp hw).1), hl_strs hts hgv, hl_ncs hgv⟩
  have hA : ∀ q : Nat, s.heap.size ≤ q → hl_A s q := fun q h => h
  have hN : hz_NS (hl_A s) s.heap s := by
    have hs := flat_of_before _ hgv
    exact ⟨hV, vx_Zqof (hts _ (List.mem_of_getElem? (i := 714) rfl)) (hts _ (List.mem_of_getElem? (i := 48) rfl)) (hs _ (by decide +kernel)) (fun a h => Nat.not_le.mpr h), vx_Zqof (hts _ (List.mem_of_getElem? (i := 716) rfl)) (hts _ (List.mem_of_getElem? (i := 48) rfl)) (hs _ (by decide +kernel)) (fun a h => Nat.not_le.mpr h)⟩
  obtain ⟨t0, ka0, co0, a1, a2, a3⟩ := Cond.arrayClass_spec (hts (.arrayClass .int) (List.mem_of_getElem? (i := 120) rfl))
  obtain ⟨t1, ka1, co1, b1, b2, b3⟩ := Cond.arrayClass_spec (hts (.arrayClass .long) (List.mem_of_getElem? (i := 1219) rfl))
  obtain ⟨co2, t2, ka2, o1, o2, o3, o4, o5⟩ := Cond.arrayOver_spec (hts (.arrayOver (.object "HatsOfTheWind$Shelf")) (List.mem_of_getElem? (i := 122) rfl))
  have hAO : va_AO hzR0 s := va_AO.of (hts (.arrayOver (.object "HatsOfTheWind$Shelf")) (List.mem_of_getElem? (i := 122) rfl))
  obtain ⟨k01, k02, k03⟩ := hz_cls (ci := 0) rfl
  obtain ⟨k11, k12, k13⟩ := hz_cls (ci := 1) rfl
  obtain ⟨k21, k22, k23⟩ := hz_cls (ci := 2) rfl
  obtain ⟨k31, k32, k33⟩ := hz_cls (ci := 3) rfl
  obtain ⟨c0, i0, hKn0⟩ := u_known (C := hzR0) (T := hzT0) (N := 6) (n := 6) htb k01 (hts (.instantiable hzR0 6) (List.mem_of_getElem? (i := 123) rfl))
  obtain ⟨c1, i1, hKn1⟩ := u_known (C := hzR1) (T := hzT1) (N := 13) (n := 13) htb k11 (hts (.instantiable hzR1 13) (List.mem_of_getElem? (i := 63) rfl))
  obtain ⟨c2, i2, hKn2⟩ := u_known (C := hzR2) (T := hzT2) (N := 7) (n := 7) htb k21 (hts (.instantiable hzR2 7) (List.mem_of_getElem? (i := 55) rfl))
  obtain ⟨c3, i3, hKn3⟩ := u_known (C := hzR3) (T := hzT3) (N := 17) (n := 17) htb k31 (hts (.instantiable hzR3 17) (List.mem_of_getElem? (i := 802) rfl))
  obtain ⟨dC, dI, hKc⟩ : ∃ (dC : Nat → ClassId) (dI : Nat → Nat → Nat), ∀ (k : Nat) (q : vw_C), hzCl[k]? = some q → u_Kn s q.1 q.2.1 q.2.2 (dC k) (dI k) := by
    refine ⟨fun k => if k = 0 then c0 else if k = 1 then c1 else if k = 2 then c2 else c3, fun k => if k = 0 then i0 else if k = 1 then i1 else if k = 2 then i2 else i3, ?_⟩
    intro k q hq
    match k, hq with
    | 0, hq => cases hq; exact hKn0
    | 1, hq => cases hq; exact hKn1
    | 2, hq => cases hq; exact hKn2
    | 3, hq => cases hq; exact hKn3
    | k + 4, hq => simp [hzCl] at hq
  have hK : va_K (dC, dI) hzCl (hz_tys t0 t1 t2) s := by
    refine ⟨hKc, fun k q hq => ?_⟩
    match k, hq with
    | 0, hq => cases hq; exact ⟨fun N z => ⟨(fun k h => by cases h), ka0, a2, co0, a3⟩, a1⟩
    | 1, hq => cases hq; exact ⟨fun N z => ⟨(fun k h => by cases h), ka1, b2, co1, b3⟩, b1⟩
    | 2, hq => cases hq; exact ⟨fun N z => ⟨(fun k h => by cases h), ka2, o3, co2, o4⟩, ka2, co2, o3, o4, o1, o5⟩
    | k + 3, hq => simp [hz_tys] at hq
  have hS : va_S (hl_A s) s.heap s.heap [] := va_S.rf
  have hP : va_P (dC, dI) hzCl [] s.heap := fun k q h => by simp at h
  have hD : va_D (hl_A s) [] := ⟨fun i j p q h => by simp at h, fun k q h => by simp at h⟩
  have hl := lv_entry ([.ref b]) (n := 8) (Nat.le_of_ble_eq_true rfl)
  rw [lg_entry_eq]
  generalize (lg_sl ([.ref b]) ++ List.replicate (8 - (lg_sl ([.ref b])).length) Slot.unset).toArray = ls at hl ⊢
  have hl : lv_has ls 8 [(0, .ref b)] := hl
  refine va_new (ci := 2) (fs := hc_f2) (C := hzR2) (T := hzT2) (N := 7) hx hb htb k21 _ k22 hown (hts _ (List.mem_of_getElem? (i := 54) rfl)) (hts _ (List.mem_of_getElem? (i := 55) rfl)) (hts _ (List.mem_of_getElem? (i := 39) rfl)) hK hP hD hS hA rfl hc_df2 (Nat.le_of_ble_eq_true rfl) (Nat.le_of_ble_eq_true rfl) hl_d0 (fun h0 H hP hD hS => ?_)
  have hP : va_P (dC, dI) hzCl [(h0, .inr (2, hc_f2))] H := hP
  have hD : va_D (hl_A s) [(h0, .inr (2, hc_f2))] := hD
  refine lv_dup hx hb hl_d3 rfl ?_
  have hFc := va_free (wc := [(h0, .inr (2, hc_f2))]) hD hS hA [0] rfl
  have gd2 : GoodIn hzTB (hz_ws hc_y2 prog_1_method_1_code 2 none) := hz_good _ _ _ _ (hx_tb 58 rfl (by decide +kernel))
  have gd3 : GoodIn hzTB (hz_ws hc_y3 prog_7_method_1_code 1 none) := hz_good _ _ _ _ (hx_tb 805 rfl (by decide +kernel))
  refine va_callv (va_runI (As := []) (rest := [.ref h0]) ⟨hx, hb, hml, hown, htb⟩ (hc_M2 (l := l) (D := (dC, dI)) (t0 := t0) (t1 := t1) (t2 := t2) h0 H.size) ⟨callB_of 0 htb gd2 rfl rfl rfl (hts _ (List.mem_of_getElem? (i := 39) rfl)) (hts _ (List.mem_of_getElem? (i := 56) rfl)) ⟨by decide, by decide, by decide +kernel⟩ ⟨Nat.le_of_ble_eq_true rfl, Nat.le_of_ble_eq_true rfl⟩, rfl, hts _ (List.mem_of_getElem? (i := 57) rfl)⟩ ⟨fun a U g mk q => by obtain ⟨q0, q1, qP, qK, qD, qV, qA⟩ := q; exact ⟨q0, q1, qP, va_K.moved (u := U) (U := U.calling g mk a) (Vm.Alike.refl U.vm) qK, qD, hz_VS_same (u := U) (U := U.calling g mk a) rfl qV, va_AO.moved (u := U) (U := U.calling g mk a) (Vm.Alike.refl U.vm) qA⟩, fun U hU hW => ⟨rfl, by rw [hU], by rw [hU]; exact hP, va_K.moved hW.alike hK, hD.weaken (fun _ _ _ _ => trivial), hz_VS_warm hW hV, va_AO.moved hW.alike hAO⟩⟩ rfl rfl hl.1 rfl (lv_room (Nat.le_of_ble_eq_true rfl)) hl_d4 ⟨Nat.le_of_ble_eq_true rfl, Nat.le_of_ble_eq_true rfl⟩) hS (fun q _ h => hFc q h) hFc (fun u t H1 locs1 ht hvm hw hB hz1 hk1 hS => ?_)
  obtain ⟨hP1, hD1⟩ := hB
  rw [ht] at hP1
  obtain ⟨hP, hD⟩ := va_join (wr := []) (w1 := hc_w2 t0 t2 h0 u) hP hD [0] [] rfl rfl (by decide) (by decide) hk1 hFc hP1 hD1
  generalize H1 = H at hP hS ⊢
  have hP : va_P (dC, dI) hzCl (hc_w2 t0 t2 h0 u) H := hP
  have hD : va_D (hl_A s) (hc_w2 t0 t2 h0 u) := hD
  refine W.widen (k := 47) (n := 1132) (Nat.le_of_ble_eq_true rfl) (Nat.le_of_ble_eq_true rfl) ?_
  refine lv_astore_n (lv' := [(1, .ref h0), (0, .ref b)]) hx hb hl_d7 rfl hl (by decide) rfl (fun ls hl => ?_)
  refine va_new (ci := 3) (fs := hc_f3) (C := hzR3) (T := hzT3) (N := 17) hx hb htb k31 _ k32 hown (hts _ (List.mem_of_getElem? (i := 801) rfl)) (hts _ (List.mem_of_getElem? (i := 802) rfl)) (hts _ (List.mem_of_getElem? (i := 42) rfl)) hK hP hD hS hA rfl hc_df3 (Nat.le_of_ble_eq_true rfl) (Nat.le_of_ble_eq_true rfl) hl_d8 (fun h1 H hP hD hS => ?_)
  refine lv_dup hx hb hl_d11 rfl ?_
  have hPc := hP.sub (ws' := [(h1, .inr (3, hc_f3))]) [47] rfl
  have hDc := hD.sub (ws' := [(h1, .inr (3, hc_f3))]) [47] (by decide) rfl
  have hFc := va_free (wc := [(h1, .inr (3, hc_f3))]) hD hS hA [47] rfl
  refine va_callv (va_runI (As := []) (rest := [.ref h1]) ⟨hx, hb, hml, hown, htb⟩ (hc_M3 (l := l) (D := (dC, dI)) (t0 := t0) (t1 := t1) (t2 := t2) h1 H.size) ⟨callB_of 0 htb gd3 rfl rfl rfl (hts _ (List.mem_of_getElem? (i := 42) rfl)) (hts _ (List.mem_of_getElem? (i := 803) rfl)) ⟨by decide, by decide, by decide +kernel⟩ ⟨Nat.le_of_ble_eq_true rfl, Nat.le_of_ble_eq_true rfl⟩, rfl, hts _ (List.mem_of_getElem? (i := 804) rfl)⟩ ⟨fun a U g mk q => by obtain ⟨q0, q1, qP, qK, qD⟩ := q; exact ⟨q0, q1, qP, va_K.moved (u := U) (U := U.calling g mk a) (Vm.Alike.refl U.vm) qK, qD⟩, fun U hU hW => ⟨rfl, by rw [hU], by rw [hU]; exact hPc, va_K.moved hW.alike hK, hDc.weaken (fun _ _ _ _ => trivial)⟩⟩ rfl rfl hl.1 rfl (lv_room (Nat.le_of_ble_eq_true rfl)) hl_d12 ⟨Nat.le_of_ble_eq_true rfl, Nat.le_of_ble_eq_true rfl⟩) hS (fun q _ h => hFc q h) hFc (fun v t H1 locs1 ht hvm hw hB hz1 hk1 hS => ?_)
  obtain ⟨hP1, hD1⟩ := hB
  rw [ht] at hP1
  obtain ⟨hP, hD⟩ := va_join (wr := hc_w2 t0 t2 h0 u) (w1 := hc_w3 t0 h1 v) hP hD [47] (List.range 47) rfl rfl (by decide) (by decide) hk1 hFc hP1 hD1
  generalize H1 = H at hP hS ⊢
  refine W.widen (k := 59) (n := 2312) (Nat.le_of_ble_eq_true rfl) (Nat.le_of_ble_eq_true rfl) ?_
  refine lv_astore_n (lv' := [(2, .ref h1), (1, .ref h0), (0, .ref b)]) hx hb hl_d15 rfl hl (by decide) rfl (fun ls hl => ?_)
  refine lv_iconst (v := 1) hx hb hl_d16 (by decide) ?_
  refine hc_newL hx hb (hts (.arrayClass .long) (List.mem_of_getElem? (i := 1219) rfl)) hK hP hD hS hA 1 (by decide) rfl (Nat.le_of_ble_eq_true rfl) (Nat.le_of_ble_eq_true rfl) (Nat.le_of_ble_eq_true rfl) hl_d17 (fun q H hP hD hS => ?_)
  refine lv_astore_n (lv' := [(3, .ref q), (2, .ref h1), (1, .ref h0), (0, .ref b)]) hx hb hl_d19 rfl hl (by decide) rfl (fun ls hl => ?_)
  have C : hl_C p l s m meth c b L xs (dC, dI) (hl_ad h0 u h1 v q b) t0 t1 t2 := ⟨hfl, hx, hb, hr, hml, hown, htb, hX, hbl, hlocks, hN, hK, rfl, hL⟩
  have hWo : hz_Wo (dC, dI) (hl_ad h0 u h1 v q b) (hz_tys t0 t1 t2) (hl_A s) s.heap hl_M0 H locs1 := by
    refine ⟨?_, ?_, hS⟩
    · rw [hl_wl0]; exact hP
    · rw [hl_wl0]; exact hD
  have hLH : hz_lH (hl_ad h0 u h1 v q b) ls 8 [some (.ref 60), some (.ref 0), some (.ref 47), some (.ref 59), none, none, none, none] := by
    refine ⟨hl.1, hl.2.1, rfl, fun i w hw => ?_⟩
    match i, hw with
    | 0, hw => cases hw; exact hl.2.2 (0, .ref b) (by simp)
    | 1, hw => cases hw; exact hl.2.2 (1, .ref h0) (by simp)
    | 2, hw => cases hw; exact hl.2.2 (2, .ref h1) (by simp)
    | 3, hw => cases hw; exact hl.2.2 (3, .ref q) (by simp)
    | 4, hw => cases hw
    | 5, hw => cases hw
    | 6, hw => cases hw
    | 7, hw => cases hw
    | i + 8, hw => simp at hw
  have main : hl_R p l e s m below meth c b (dC, dI) (hl_ad h0 u h1 v q b) t0 t1 t2 20 [some (.ref 60), some (.ref 0), some (.ref 47), some (.ref 59), none, none, none, none] [] hl_M0 600 := by
    refine hl_sN C [21, 23] (pc' := 23) (L' := hl_L (Int32.ofNat 0) none none none) (st' := []) rfl rfl ?_
    exact hl_loop C 600 0 hl_M0 none none none 600 hl_I0 hl_A0 (Nat.zero_le _) (by omega) (Nat.le_refl _)
  exact main ls H locs1 _ _ hLH hWo (Nat.le_of_ble_eq_true rfl) (Nat.le_of_ble_eq_true rfl)
