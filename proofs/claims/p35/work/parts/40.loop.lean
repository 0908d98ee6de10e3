/-! THE LAW's LOOP -/
section HL
variable {p : Program} {l : Launch} {e : Env} {s : State} {m : MethodId} {below : List Frame} {meth : Method} {c : Code} {b : Nat} {D : va_G} {ad : Nat → Nat} {t0 t1 t2 : ClassId} {N : Nat} {xs : Nat → Int32}
abbrev hl_of : Array Int := #[196, 221, 258, 295, 320, 357, 394, 431, 456, 493, 530, 555, 604, 641, 678, 703, 728, 765, 790, 815, 864, 901, 926, 963, 988, 1013, 1026, 1051, 1100, 1149, 1210, 1235, 1272, 1309, 1334, 1383, 1396, 1409, 1434, 1495, 1544, 1593, 1633, 1706, 1731]
abbrev hl_tg : List Nat := [236, 261, 298, 335, 360, 397, 434, 471, 496, 533, 570, 595, 644, 681, 718, 743, 768, 805, 830, 855, 904, 941, 966, 1003, 1028, 1053, 1066, 1091, 1140, 1189, 1250, 1275, 1312, 1349, 1374, 1423, 1436, 1449, 1474, 1535, 1584, 1633, 1673, 1746, 1771]
theorem hl_tgk : ∀ k : Nat, k < 45 → (hl_of[k]?).bind (fun o => hz_tgt 40 o) = some (hl_tg.getD k 0) := by decide +kernel
theorem hl_sw (C : hl_C p l s m meth c b N xs D ad t0 t1 t2) {v : Int32} {L : List (Option Value)} {M : hzMem} {n : Nat} (k0 : ∀ k : Nat, k < 45 → hl_R p l e s m below meth c b D ad t0 t1 t2 (hl_tg.getD k 0) L [] M n) (kd : hl_R p l e s m below meth c b D ad t0 t1 t2 1796 L [] M n) : hl_R p l e s m below meth c b D ad t0 t1 t2 40 L [.int v] M n := by
  by_cases h : v.toInt < 0 ∨ 44 < v.toInt
  · have hb : hz_br (.tableswitch 1756 0 44 hl_of) 40 0 [.int v] = some (1796, []) := by
      show (if v.toInt < 0 ∨ (44 : Int) < v.toInt then (hz_tgt 40 1756).map (fun t => (t, ([] : List Value))) else _) = _
      rw [if_pos h]
      rfl
    refine hl_s1 C (pc' := 1796) (L' := L) (st' := []) ?_ kd
    show (hz_br (.tableswitch 1756 0 44 hl_of) 40 0 [.int v]).map _ = _
    rw [hb]
    rfl
  · have hk : (v.toInt - 0).toNat < 45 := by omega
    have h1 := hl_tgk _ hk
    obtain ⟨q, h2, h3⟩ := Option.bind_eq_some_iff.mp h1
    have hb : hz_br (.tableswitch 1756 0 44 hl_of) 40 0 [.int v] = some (hl_tg.getD (v.toInt - 0).toNat 0, []) := by
      show (if v.toInt < 0 ∨ (44 : Int) < v.toInt then _ else (hl_of[(v.toInt - 0).toNat]?).bind (fun o => (hz_tgt 40 o).map (fun t => (t, ([] : List Value))))) = _
      rw [if_neg h, h2]
      show (hz_tgt 40 q).map _ = _
      rw [h3]
      rfl
    refine hl_s1 C (pc' := hl_tg.getD (v.toInt - 0).toNat 0) (L' := L) (st' := []) ?_ (k0 _ hk)
    show (hz_br (.tableswitch 1756 0 44 hl_of) 40 0 [.int v]).map _ = _
    rw [hb]
    rfl
theorem hl_ret (C : hl_C p l s m meth c b N xs D ad t0 t1 t2) {L : List (Option Value)} {M : hzMem} {n : Nat} : hl_R p l e s m below meth c b D ad t0 t1 t2 1803 L [.int (Int32.ofInt 1)] M n := by
  intro ls H locs cells slots hL hW hc hs
  obtain ⟨hfl, hx, hb, hr, hml, hown, hts, hX, hbl, hlocks, hN, hK, had, hN3⟩ := C
  refine va_forget (fun q hq => hW.2.2.2.2 q hq) ?_
  refine W.widen (k := 601024) (n := 7293034) (by omega) (by omega) ?_
  exact lw_ret hx hb hr hlocks (show decode code 1803 = .ok (.ireturn, 1) by decide +kernel)
theorem hl_in {i k N : Nat} (h : i + k < N) (hN : N ≤ 3072) : vp_in (Int32.ofNat i + Int32.ofInt (k : Int)) N := by
  have e1 : (Int32.ofNat i).toInt = (i : Int) := Int32.toInt_ofNat_of_lt (by omega)
  have e2 : (Int32.ofInt (k : Int)).toInt = (k : Int) := Int32.toInt_ofInt_of_le (by omega) (by omega)
  have e3 : (Int32.ofNat i + Int32.ofInt (k : Int)).toInt = (i : Int) + k := by
    rw [Int32.toInt_add, e1, e2]
    exact ha_bm (by unfold ha_lo; omega) (by unfold ha_hi; omega)
  refine hz_in_ok ?_
  unfold hz_in
  rw [e3, decide_eq_true (by omega), decide_eq_true (by omega)]
  rfl
set_option maxRecDepth 10000 in
theorem hl_loop (C : hl_C p l s m meth c b N xs D ad t0 t1 t2) : ∀ (r i : Nat) (M : hzMem) (x5 x6 x7 : Option Value) (n : Nat), hl_I M → hl_St M → i ≤ N → N + 1 ≤ i + 6 * r → r ≤ n → hl_R p l e s m below meth c b D ad t0 t1 t2 23 (hl_L (Int32.ofNat i) x5 x6 x7) [] M n := by
  intro r
  induction r with
  | zero => intro i M x5 x6 x7 n hI hA hi hr; omega
  | succ r ih =>
    intro i M x5 x6 x7 n hI hA hi hr hn
    have hN3 : N ≤ 3072 := C.2.2.2.2.2.2.2.2.2.2.2.2.2
    have e1 : (Int32.ofNat i).toInt = (i : Int) := Int32.toInt_ofNat_of_lt (by omega)
    have e2 : (Int32.ofNat N - Int32.ofInt 6).toInt = (N : Int) - 6 := by
      rw [Int32.toInt_sub, Int32.toInt_ofNat_of_lt (by omega), show (Int32.ofInt 6).toInt = 6 from rfl]
      exact ha_bm (by unfold ha_lo; omega) (by unfold ha_hi; omega)
    refine hl_sN C [25, 26] (pc' := 26) (L' := hl_L (Int32.ofNat i) x5 x6 x7) (st' := [.ref 60, .int (Int32.ofNat i)]) rfl rfl ?_
    refine hl_len C rfl ?_
    show hl_R p l e s m below meth c b D ad t0 t1 t2 27 _ [.int (Int32.ofNat N), .int (Int32.ofNat i)] _ _
    refine hl_sN C [29, 30] (pc' := 30) (L' := hl_L (Int32.ofNat i) x5 x6 x7) (st' := [.int (Int32.ofNat N - Int32.ofInt 6), .int (Int32.ofNat i)]) rfl rfl ?_
    refine hl_ic C rfl (fun _ => ?_) (fun h1 => ?_)
    · show hl_R p l e s m below meth c b D ad t0 t1 t2 1802 _ _ _ _
      refine hl_sN C [1803] (pc' := 1803) (L' := hl_L (Int32.ofNat i) x5 x6 x7) (st' := [.int (Int32.ofInt 1)]) rfl rfl ?_
      exact hl_ret C
    simp only [hz_cmp, decide_eq_false_iff_not, Int32.lt_iff_toInt_lt, e1, e2] at h1
    have hi6 : i + 6 ≤ N := by omega
    show hl_R p l e s m below meth c b D ad t0 t1 t2 33 _ _ _ _
    refine hl_sN C [34, 36] (pc' := 36) (L' := hl_L (Int32.ofNat i) x5 x6 x7) (st' := [.int (Int32.ofNat i), .ref 60]) rfl rfl ?_
    refine hl_ld C rfl (hz_in_ok (by unfold hz_in; rw [e1, decide_eq_true (by omega), decide_eq_true (by omega)]; rfl)) ?_
    show hl_R p l e s m below meth c b D ad t0 t1 t2 37 _ [.int (xs (Int32.ofNat i).toNatClampNeg)] _ _
    refine hl_sN C [39, 40] (pc' := 40) (L' := hl_L (Int32.ofNat i) x5 x6 x7) (st' := [.int (xs (Int32.ofNat i).toNatClampNeg &&& Int32.ofInt 63)]) rfl rfl ?_
    have nx : ∀ (M' : hzMem) (y5 y6 y7 : Option Value), hl_I M' → hl_St M' → hl_R p l e s m below meth c b D ad t0 t1 t2 1796 (hl_L (Int32.ofNat i) y5 y6 y7) [] M' (n - 1) := by
      intro M' y5 y6 y7 hI' hA'
      refine hl_sN C [1799, 23] (pc' := 23) (L' := hl_L (Int32.ofNat i + Int32.ofInt 6) y5 y6 y7) (st' := []) rfl rfl ?_
      have e : Int32.ofNat i + Int32.ofInt 6 = Int32.ofNat (i + 6) := by
        apply Int32.toInt_inj.mp
        rw [Int32.toInt_add, e1, show (Int32.ofInt 6).toInt = 6 from rfl, Int32.toInt_ofNat_of_lt (by omega)]
        exact (ha_bm (by unfold ha_lo; omega) (by unfold ha_hi; omega)).trans (by omega)
      rw [e]
      exact ih (i + 6) M' y5 y6 y7 (n - 1) hI' hA' hi6 (by omega) (by omega)
    have h1 := hl_in (i := i) (k := 1) (N := N) (by omega) hN3
    have h2 := hl_in (i := i) (k := 2) (N := N) (by omega) hN3
    have h3 := hl_in (i := i) (k := 3) (N := N) (by omega) hN3
    have h4 := hl_in (i := i) (k := 4) (N := N) (by omega) hN3
    have h5 := hl_in (i := i) (k := 5) (N := N) (by omega) hN3
    refine hl_sw C (fun k hk => ?_) (hl_mono (by omega) (nx M x5 x6 x7 hI hA))
    match k, hk with
    | 0, _ => exact hl_k0 C hI hA h1 h2 h3 h4 h5 (by omega) nx
    | 1, _ => exact hl_k1 C hI hA h1 h2 h3 h4 h5 (by omega) nx
    | 2, _ => exact hl_k2 C hI hA h1 h2 h3 h4 h5 (by omega) nx
    | 3, _ => exact hl_k3 C hI hA h1 h2 h3 h4 h5 (by omega) nx
    | 4, _ => exact hl_k4 C hI hA h1 h2 h3 h4 h5 (by omega) nx
    | 5, _ => exact hl_k5 C hI hA h1 h2 h3 h4 h5 (by omega) nx
    | 6, _ => exact hl_k6 C hI hA h1 h2 h3 h4 h5 (by omega) nx
    | 7, _ => exact hl_k7 C hI hA h1 h2 h3 h4 h5 (by omega) nx
    | 8, _ => exact hl_k8 C hI hA h1 h2 h3 h4 h5 (by omega) nx
    | 9, _ => exact hl_k9 C hI hA h1 h2 h3 h4 h5 (by omega) nx
    | 10, _ => exact hl_k10 C hI hA h1 h2 h3 h4 h5 (by omega) nx
    | 11, _ => exact hl_k11 C hI hA h1 h2 h3 h4 h5 (by omega) nx
    | 12, _ => exact hl_k12 C hI hA h1 h2 h3 h4 h5 (by omega) nx
    | 13, _ => exact hl_k13 C hI hA h1 h2 h3 h4 h5 (by omega) nx
    | 14, _ => exact hl_k14 C hI hA h1 h2 h3 h4 h5 (by omega) nx
    | 15, _ => exact hl_k15 C hI hA h1 h2 h3 h4 h5 (by omega) nx
    | 16, _ => exact hl_k16 C hI hA h1 h2 h3 h4 h5 (by omega) nx
    | 17, _ => exact hl_k17 C hI hA h1 h2 h3 h4 h5 (by omega) nx
    | 18, _ => exact hl_k18 C hI hA h1 h2 h3 h4 h5 (by omega) nx
    | 19, _ => exact hl_k19 C hI hA h1 h2 h3 h4 h5 (by omega) nx
    | 20, _ => exact hl_k20 C hI hA h1 h2 h3 h4 h5 (by omega) nx
    | 21, _ => exact hl_k21 C hI hA h1 h2 h3 h4 h5 (by omega) nx
    | 22, _ => exact hl_k22 C hI hA h1 h2 h3 h4 h5 (by omega) nx
    | 23, _ => exact hl_k23 C hI hA h1 h2 h3 h4 h5 (by omega) nx
    | 24, _ => exact hl_k24 C hI hA h1 h2 h3 h4 h5 (by omega) nx
    | 25, _ => exact hl_k25 C hI hA h1 h2 h3 h4 h5 (by omega) nx
    | 26, _ => exact hl_k26 C hI hA h1 h2 h3 h4 h5 (by omega) nx
    | 27, _ => exact hl_k27 C hI hA h1 h2 h3 h4 h5 (by omega) nx
    | 28, _ => exact hl_k28 C hI hA h1 h2 h3 h4 h5 (by omega) nx
    | 29, _ => exact hl_k29 C hI hA h1 h2 h3 h4 h5 (by omega) nx
    | 30, _ => exact hl_k30 C hI hA h1 h2 h3 h4 h5 (by omega) nx
    | 31, _ => exact hl_k31 C hI hA h1 h2 h3 h4 h5 (by omega) nx
    | 32, _ => exact hl_k32 C hI hA h1 h2 h3 h4 h5 (by omega) nx
    | 33, _ => exact hl_k33 C hI hA h1 h2 h3 h4 h5 (by omega) nx
    | 34, _ => exact hl_k34 C hI hA h1 h2 h3 h4 h5 (by omega) nx
    | 35, _ => exact hl_k35 C hI hA h1 h2 h3 h4 h5 (by omega) nx
    | 36, _ => exact hl_k36 C hI hA h1 h2 h3 h4 h5 (by omega) nx
    | 37, _ => exact hl_k37 C hI hA h1 h2 h3 h4 h5 (by omega) nx
    | 38, _ => exact hl_k38 C hI hA h1 h2 h3 h4 h5 (by omega) nx
    | 39, _ => exact hl_k39 C hI hA h1 h2 h3 h4 h5 (by omega) nx
    | 40, _ => exact hl_k40 C hI hA h1 h2 h3 h4 h5 (by omega) nx
    | 41, _ => exact hl_k41 C hI hA h1 h2 h3 h4 h5 (by omega) nx
    | 42, _ => exact hl_k42 C hI hA h1 h2 h3 h4 h5 (by omega) nx
    | 43, _ => exact hl_k43 C hI hA h1 h2 h3 h4 h5 (by omega) nx
    | 44, _ => exact hl_k44 C hI hA h1 h2 h3 h4 h5 (by omega) nx
    | k + 45, hk => exact absurd hk (by omega)
end HL
