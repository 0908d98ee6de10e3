/-! THE LAW's CASES -/
section HL
variable {p : Program} {l : Launch} {e : Env} {s : State} {m : MethodId} {below : List Frame} {meth : Method} {c : Code} {b : Nat} {D : va_G} {ad : Nat → Nat} {t0 t1 t2 : ClassId} {N : Nat} {xs : Nat → Int32}
abbrev hl_L (i : Int32) (x5 x6 x7 : Option Value) : List (Option Value) := [some (.ref 60), some (.ref 0), some (.ref 47), some (.ref 59), some (.int i), x5, x6, x7]
theorem hl_ic (C : hl_C p l s m meth c b N xs D ad t0 t1 t2) {pc : Nat} {k : Jvm.ClassFile.Cond} {o a : Int} {x y h : Nat} {L : List (Option Value)} {st : List Value} {M : hzMem} {n : Nat} {v w : Int32} (hf : hz_fetch 215 pc = some (.if_icmp k o, a, x, y, h)) (k1 : hz_cmp k v w = true → hl_R p l e s m below meth c b D ad t0 t1 t2 x L st M n) (k2 : hz_cmp k v w = false → hl_R p l e s m below meth c b D ad t0 t1 t2 (pc + 3) L st M n) : hl_R p l e s m below meth c b D ad t0 t1 t2 pc L (.int w :: .int v :: st) M n := by
  cases hc : hz_cmp k v w with
  | true => exact hl_s1 C (pc' := x) (L' := L) (st' := st) (by simp [hz_s1, hf, hz_kind, hz_br, hc]) (k1 hc)
  | false => exact hl_s1 C (pc' := pc + 3) (L' := L) (st' := st) (by simp [hz_s1, hf, hz_kind, hz_br, hc]) (k2 hc)
set_option maxRecDepth 10000 in
theorem hl_k0 (C : hl_C p l s m meth c b N xs D ad t0 t1 t2) {M : hzMem} {n : Nat} {i : Int32} {x5 x6 x7 : Option Value} (hI : hl_I M) (hA : hl_St M) (h1 : vp_in (i + Int32.ofInt 1) N) (h2 : vp_in (i + Int32.ofInt 2) N) (h3 : vp_in (i + Int32.ofInt 3) N) (h4 : vp_in (i + Int32.ofInt 4) N) (h5 : vp_in (i + Int32.ofInt 5) N) (hn : 1 ≤ n) (kk : ∀ (M' : hzMem) (y5 y6 y7 : Option Value), hl_I M' → hl_St M' → hl_R p l e s m below meth c b D ad t0 t1 t2 1796 (hl_L i y5 y6 y7) [] M' (n - 1)) : hl_R p l e s m below meth c b D ad t0 t1 t2 236 (hl_L i x5 x6 x7) [] M n := by
  obtain ⟨X, S, hX, hS⟩ := hp_of2 hI
  obtain ⟨σ, h0, hC, hM⟩ := hI.2.2.2
  have hsh := hl_sh h0 hC hM
  have hA0 := hA
  unfold hl_St at hA0
  rw [← hS] at hA0 hsh
  subst hX
  have hK1 := hk_0 (X := X) S (xs (i + Int32.ofInt 1).toNatClampNeg)
  have hK2 := hk_106 (X := X) (hq_0 S (xs (i + Int32.ofInt 1).toNatClampNeg)).2 (xs (i + Int32.ofInt 1).toNatClampNeg) (hm_z0 hsh.1 _)
  have key := hm_s0 hA0 hsh.1 hsh.2 (xs (i + Int32.ofInt 1).toNatClampNeg)
  generalize hq_0 S (xs (i + Int32.ofInt 1).toNatClampNeg) = R1 at hK1 hK2 key
  generalize hq_106 R1.2 (xs (i + Int32.ofInt 1).toNatClampNeg) = R2 at hK2 key
  refine hl_sN C [237, 238, 240, 241, 242] (pc' := 242) (L' := (hl_L i x5 x6 x7)) (st' := [.int (i + (Int32.ofInt 1)), .ref 60, .ref 0]) rfl rfl ?_
  refine hl_ld C rfl h1 ?_
  show hl_R p l e s m below meth c b D ad t0 t1 t2 243 (hl_L i x5 x6 x7) [.int (xs (i + Int32.ofInt 1).toNatClampNeg), .ref 0] (hp_mem X S) (n)
  refine hl_cx C 131 rfl rfl rfl rfl (by decide) hI (hl_r0 hI [.int (xs (i + Int32.ofInt 1).toNatClampNeg)]) (Nat.le_of_ble_eq_true rfl) (Nat.le_of_ble_eq_true rfl) (Nat.le_of_ble_eq_true rfl) ⟨rfl, ⟨_, rfl, ha_rng _⟩, trivial⟩ rfl (by omega) hK1 (fun hI1 hw1 => ?_)
  show hl_R p l e s m below meth c b D ad t0 t1 t2 246 (hl_L i x5 x6 x7) [.int R1.1] (hp_mem X R1.2) (n - 0)
  refine hl_sN C [247, 248, 249, 251, 252, 253] (pc' := 253) (L' := (hl_L i x5 x6 x7)) (st' := [.int (i + (Int32.ofInt 1)), .ref 60, .ref 47]) rfl rfl ?_
  refine hl_ld C rfl h1 ?_
  show hl_R p l e s m below meth c b D ad t0 t1 t2 254 (hl_L i x5 x6 x7) [.int (xs (i + Int32.ofInt 1).toNatClampNeg), .ref 47] (hp_mem X R1.2) (n - 0)
  refine hl_cx C 6 rfl rfl rfl rfl (by decide) hI1 (hl_r47 hI1 [.int (xs (i + Int32.ofInt 1).toNatClampNeg)]) (Nat.le_of_ble_eq_true rfl) (Nat.le_of_ble_eq_true rfl) (Nat.le_of_ble_eq_true rfl) ⟨rfl, ⟨_, rfl, ha_rng _⟩, trivial⟩ rfl (by omega) hK2 (fun hI2 hw2 => ?_)
  show hl_R p l e s m below meth c b D ad t0 t1 t2 257 (hl_L i x5 x6 x7) [.int R2.1] (hp_mem X R2.2) (n - 0 - 0)
  refine hl_sN C [258, 1796] (pc' := 1796) (L' := (hl_L i x5 x6 x7)) (st' := []) rfl rfl ?_
  exact hl_mono (by omega) (kk (hp_mem X R2.2) _ _ _ hI2 (hl_Am X key.2))
set_option maxRecDepth 10000 in
theorem hl_k1 (C : hl_C p l s m meth c b N xs D ad t0 t1 t2) {M : hzMem} {n : Nat} {i : Int32} {x5 x6 x7 : Option Value} (hI : hl_I M) (hA : hl_St M) (h1 : vp_in (i + Int32.ofInt 1) N) (h2 : vp_in (i + Int32.ofInt 2) N) (h3 : vp_in (i + Int32.ofInt 3) N) (h4 : vp_in (i + Int32.ofInt 4) N) (h5 : vp_in (i + Int32.ofInt 5) N) (hn : 1 ≤ n) (kk : ∀ (M' : hzMem) (y5 y6 y7 : Option Value), hl_I M' → hl_St M' → hl_R p l e s m below meth c b D ad t0 t1 t2 1796 (hl_L i y5 y6 y7) [] M' (n - 1)) : hl_R p l e s m below meth c b D ad t0 t1 t2 261 (hl_L i x5 x6 x7) [] M n := by
  refine hl_sN C [262, 263, 265, 266, 267] (pc' := 267) (L' := (hl_L i x5 x6 x7)) (st' := [.int (i + (Int32.ofInt 1)), .ref 60, .ref 0]) rfl rfl ?_
  refine hl_ld C rfl h1 ?_
  show hl_R p l e s m below meth c b D ad t0 t1 t2 268 (hl_L i x5 x6 x7) [.int (xs (i + Int32.ofInt 1).toNatClampNeg), .ref 0] M (n)
  refine hl_sN C [269, 271, 272, 273] (pc' := 273) (L' := (hl_L i x5 x6 x7)) (st' := [.int (i + (Int32.ofInt 2)), .ref 60, .int (xs (i + Int32.ofInt 1).toNatClampNeg), .ref 0]) rfl rfl ?_
  refine hl_ld C rfl h2 ?_
  show hl_R p l e s m below meth c b D ad t0 t1 t2 274 (hl_L i x5 x6 x7) [.int (xs (i + Int32.ofInt 2).toNatClampNeg), .int (xs (i + Int32.ofInt 1).toNatClampNeg), .ref 0] M (n)
  refine hl_cv C 132 rfl rfl rfl rfl (by decide) hI (hl_r0 hI [.int (xs (i + Int32.ofInt 1).toNatClampNeg), .int (xs (i + Int32.ofInt 2).toNatClampNeg)]) (Nat.le_of_ble_eq_true rfl) (Nat.le_of_ble_eq_true rfl) (Nat.le_of_ble_eq_true rfl) ⟨rfl, ⟨_, rfl, ha_rng _⟩, ⟨_, rfl, ha_rng _⟩, trivial⟩ rfl (by omega) (fun rv1 M1 hr1 hI1 hw1 => ?_)
  obtain ⟨z1, rfl⟩ := hl_ri hr1
  show hl_R p l e s m below meth c b D ad t0 t1 t2 277 (hl_L i x5 x6 x7) [.int z1] M1 (n - 0)
  refine hl_sN C [278, 279, 280, 282, 283, 284] (pc' := 284) (L' := (hl_L i x5 x6 x7)) (st' := [.int (i + (Int32.ofInt 1)), .ref 60, .ref 47]) rfl rfl ?_
  refine hl_ld C rfl h1 ?_
  show hl_R p l e s m below meth c b D ad t0 t1 t2 285 (hl_L i x5 x6 x7) [.int (xs (i + Int32.ofInt 1).toNatClampNeg), .ref 47] M1 (n - 0)
  refine hl_sN C [286, 288, 289, 290] (pc' := 290) (L' := (hl_L i x5 x6 x7)) (st' := [.int (i + (Int32.ofInt 2)), .ref 60, .int (xs (i + Int32.ofInt 1).toNatClampNeg), .ref 47]) rfl rfl ?_
  refine hl_ld C rfl h2 ?_
  show hl_R p l e s m below meth c b D ad t0 t1 t2 291 (hl_L i x5 x6 x7) [.int (xs (i + Int32.ofInt 2).toNatClampNeg), .int (xs (i + Int32.ofInt 1).toNatClampNeg), .ref 47] M1 (n - 0)
  refine hl_cv C 202 rfl rfl rfl rfl (by decide) hI1 (hl_r47 hI1 [.int (xs (i + Int32.ofInt 1).toNatClampNeg), .int (xs (i + Int32.ofInt 2).toNatClampNeg)]) (Nat.le_of_ble_eq_true rfl) (Nat.le_of_ble_eq_true rfl) (Nat.le_of_ble_eq_true rfl) ⟨rfl, ⟨_, rfl, ha_rng _⟩, ⟨_, rfl, ha_rng _⟩, trivial⟩ rfl (by omega) (fun rv2 M2 hr2 hI2 hw2 => ?_)
  obtain ⟨z2, rfl⟩ := hl_ri hr2
  show hl_R p l e s m below meth c b D ad t0 t1 t2 294 (hl_L i x5 x6 x7) [.int z2] M2 (n - 0 - 0)
  refine hl_sN C [295, 1796] (pc' := 1796) (L' := (hl_L i x5 x6 x7)) (st' := []) rfl rfl ?_
  exact hl_mono (by omega) (kk M2 _ _ _ hI2 (hl_Aq hA hw1 hw2 rfl rfl (by decide) (by decide)))
set_option maxRecDepth 10000 in
theorem hl_k2 (C : hl_C p l s m meth c b N xs D ad t0 t1 t2) {M : hzMem} {n : Nat} {i : Int32} {x5 x6 x7 : Option Value} (hI : hl_I M) (hA : hl_St M) (h1 : vp_in (i + Int32.ofInt 1) N) (h2 : vp_in (i + Int32.ofInt 2) N) (h3 : vp_in (i + Int32.ofInt 3) N) (h4 : vp_in (i + Int32.ofInt 4) N) (h5 : vp_in (i + Int32.ofInt 5) N) (hn : 1 ≤ n) (kk : ∀ (M' : hzMem) (y5 y6 y7 : Option Value), hl_I M' → hl_St M' → hl_R p l e s m below meth c b D ad t0 t1 t2 1796 (hl_L i y5 y6 y7) [] M' (n - 1)) : hl_R p l e s m below meth c b D ad t0 t1 t2 298 (hl_L i x5 x6 x7) [] M n := by
  refine hl_sN C [299, 300, 302, 303, 304] (pc' := 304) (L' := (hl_L i x5 x6 x7)) (st' := [.int (i + (Int32.ofInt 1)), .ref 60, .ref 0]) rfl rfl ?_
  refine hl_ld C rfl h1 ?_
  show hl_R p l e s m below meth c b D ad t0 t1 t2 305 (hl_L i x5 x6 x7) [.int (xs (i + Int32.ofInt 1).toNatClampNeg), .ref 0] M (n)
  refine hl_sN C [306, 308, 309, 310] (pc' := 310) (L' := (hl_L i x5 x6 x7)) (st' := [.int (i + (Int32.ofInt 2)), .ref 60, .int (xs (i + Int32.ofInt 1).toNatClampNeg), .ref 0]) rfl rfl ?_
  refine hl_ld C rfl h2 ?_
  show hl_R p l e s m below meth c b D ad t0 t1 t2 311 (hl_L i x5 x6 x7) [.int (xs (i + Int32.ofInt 2).toNatClampNeg), .int (xs (i + Int32.ofInt 1).toNatClampNeg), .ref 0] M (n)
  refine hl_cv C 133 rfl rfl rfl rfl (by decide) hI (hl_r0 hI [.int (xs (i + Int32.ofInt 1).toNatClampNeg), .int (xs (i + Int32.ofInt 2).toNatClampNeg)]) (Nat.le_of_ble_eq_true rfl) (Nat.le_of_ble_eq_true rfl) (Nat.le_of_ble_eq_true rfl) ⟨rfl, ⟨_, rfl, ha_rng _⟩, ⟨_, rfl, ha_rng _⟩, trivial⟩ rfl (by omega) (fun rv1 M1 hr1 hI1 hw1 => ?_)
  obtain ⟨z1, rfl⟩ := hl_ri hr1
  show hl_R p l e s m below meth c b D ad t0 t1 t2 314 (hl_L i x5 x6 x7) [.int z1] M1 (n - 0)
  refine hl_sN C [315, 316, 317, 319, 320, 321] (pc' := 321) (L' := (hl_L i x5 x6 x7)) (st' := [.int (i + (Int32.ofInt 1)), .ref 60, .ref 47]) rfl rfl ?_
  refine hl_ld C rfl h1 ?_
  show hl_R p l e s m below meth c b D ad t0 t1 t2 322 (hl_L i x5 x6 x7) [.int (xs (i + Int32.ofInt 1).toNatClampNeg), .ref 47] M1 (n - 0)
  refine hl_sN C [323, 325, 326, 327] (pc' := 327) (L' := (hl_L i x5 x6 x7)) (st' := [.int (i + (Int32.ofInt 2)), .ref 60, .int (xs (i + Int32.ofInt 1).toNatClampNeg), .ref 47]) rfl rfl ?_
  refine hl_ld C rfl h2 ?_
  show hl_R p l e s m below meth c b D ad t0 t1 t2 328 (hl_L i x5 x6 x7) [.int (xs (i + Int32.ofInt 2).toNatClampNeg), .int (xs (i + Int32.ofInt 1).toNatClampNeg), .ref 47] M1 (n - 0)
  refine hl_cv C 203 rfl rfl rfl rfl (by decide) hI1 (hl_r47 hI1 [.int (xs (i + Int32.ofInt 1).toNatClampNeg), .int (xs (i + Int32.ofInt 2).toNatClampNeg)]) (Nat.le_of_ble_eq_true rfl) (Nat.le_of_ble_eq_true rfl) (Nat.le_of_ble_eq_true rfl) ⟨rfl, ⟨_, rfl, ha_rng _⟩, ⟨_, rfl, ha_rng _⟩, trivial⟩ rfl (by omega) (fun rv2 M2 hr2 hI2 hw2 => ?_)
  obtain ⟨z2, rfl⟩ := hl_ri hr2
  show hl_R p l e s m below meth c b D ad t0 t1 t2 331 (hl_L i x5 x6 x7) [.int z2] M2 (n - 0 - 0)
  refine hl_sN C [332, 1796] (pc' := 1796) (L' := (hl_L i x5 x6 x7)) (st' := []) rfl rfl ?_
  exact hl_mono (by omega) (kk M2 _ _ _ hI2 (hl_Aq hA hw1 hw2 rfl rfl (by decide) (by decide)))
set_option maxRecDepth 10000 in
theorem hl_k3 (C : hl_C p l s m meth c b N xs D ad t0 t1 t2) {M : hzMem} {n : Nat} {i : Int32} {x5 x6 x7 : Option Value} (hI : hl_I M) (hA : hl_St M) (h1 : vp_in (i + Int32.ofInt 1) N) (h2 : vp_in (i + Int32.ofInt 2) N) (h3 : vp_in (i + Int32.ofInt 3) N) (h4 : vp_in (i + Int32.ofInt 4) N) (h5 : vp_in (i + Int32.ofInt 5) N) (hn : 1 ≤ n) (kk : ∀ (M' : hzMem) (y5 y6 y7 : Option Value), hl_I M' → hl_St M' → hl_R p l e s m below meth c b D ad t0 t1 t2 1796 (hl_L i y5 y6 y7) [] M' (n - 1)) : hl_R p l e s m below meth c b D ad t0 t1 t2 335 (hl_L i x5 x6 x7) [] M n := by
  refine hl_sN C [336, 337, 339, 340, 341] (pc' := 341) (L' := (hl_L i x5 x6 x7)) (st' := [.int (i + (Int32.ofInt 1)), .ref 60, .ref 0]) rfl rfl ?_
  refine hl_ld C rfl h1 ?_
  show hl_R p l e s m below meth c b D ad t0 t1 t2 342 (hl_L i x5 x6 x7) [.int (xs (i + Int32.ofInt 1).toNatClampNeg), .ref 0] M (n)
  refine hl_cv C 134 rfl rfl rfl rfl (by decide) hI (hl_r0 hI [.int (xs (i + Int32.ofInt 1).toNatClampNeg)]) (Nat.le_of_ble_eq_true rfl) (Nat.le_of_ble_eq_true rfl) (Nat.le_of_ble_eq_true rfl) ⟨rfl, ⟨_, rfl, ha_rng _⟩, trivial⟩ rfl (by omega) (fun rv1 M1 hr1 hI1 hw1 => ?_)
  obtain ⟨z1, rfl⟩ := hl_ri hr1
  show hl_R p l e s m below meth c b D ad t0 t1 t2 345 (hl_L i x5 x6 x7) [.int z1] M1 (n - 0)
  refine hl_sN C [346, 347, 348, 350, 351, 352] (pc' := 352) (L' := (hl_L i x5 x6 x7)) (st' := [.int (i + (Int32.ofInt 1)), .ref 60, .ref 47]) rfl rfl ?_
  refine hl_ld C rfl h1 ?_
  show hl_R p l e s m below meth c b D ad t0 t1 t2 353 (hl_L i x5 x6 x7) [.int (xs (i + Int32.ofInt 1).toNatClampNeg), .ref 47] M1 (n - 0)
  refine hl_cv C 204 rfl rfl rfl rfl (by decide) hI1 (hl_r47 hI1 [.int (xs (i + Int32.ofInt 1).toNatClampNeg)]) (Nat.le_of_ble_eq_true rfl) (Nat.le_of_ble_eq_true rfl) (Nat.le_of_ble_eq_true rfl) ⟨rfl, ⟨_, rfl, ha_rng _⟩, trivial⟩ rfl (by omega) (fun rv2 M2 hr2 hI2 hw2 => ?_)
  obtain ⟨z2, rfl⟩ := hl_ri hr2
  show hl_R p l e s m below meth c b D ad t0 t1 t2 356 (hl_L i x5 x6 x7) [.int z2] M2 (n - 0 - 0)
  refine hl_sN C [357, 1796] (pc' := 1796) (L' := (hl_L i x5 x6 x7)) (st' := []) rfl rfl ?_
  exact hl_mono (by omega) (kk M2 _ _ _ hI2 (hl_Aq hA hw1 hw2 rfl rfl (by decide) (by decide)))
set_option maxRecDepth 10000 in
theorem hl_k4 (C : hl_C p l s m meth c b N xs D ad t0 t1 t2) {M : hzMem} {n : Nat} {i : Int32} {x5 x6 x7 : Option Value} (hI : hl_I M) (hA : hl_St M) (h1 : vp_in (i + Int32.ofInt 1) N) (h2 : vp_in (i + Int32.ofInt 2) N) (h3 : vp_in (i + Int32.ofInt 3) N) (h4 : vp_in (i + Int32.ofInt 4) N) (h5 : vp_in (i + Int32.ofInt 5) N) (hn : 1 ≤ n) (kk : ∀ (M' : hzMem) (y5 y6 y7 : Option Value), hl_I M' → hl_St M' → hl_R p l e s m below meth c b D ad t0 t1 t2 1796 (hl_L i y5 y6 y7) [] M' (n - 1)) : hl_R p l e s m below meth c b D ad t0 t1 t2 360 (hl_L i x5 x6 x7) [] M n := by
  obtain ⟨X, S, hX, hS⟩ := hp_of2 hI
  obtain ⟨σ, h0, hC, hM⟩ := hI.2.2.2
  have hsh := hl_sh h0 hC hM
  have hA0 := hA
  unfold hl_St at hA0
  rw [← hS] at hA0 hsh
  subst hX
  have hK1 := hk_4 (X := X) S (xs (i + Int32.ofInt 1).toNatClampNeg) (xs (i + Int32.ofInt 2).toNatClampNeg)
  have hK2 := hk_110 (X := X) (hq_4 S (xs (i + Int32.ofInt 1).toNatClampNeg) (xs (i + Int32.ofInt 2).toNatClampNeg)).2 (xs (i + Int32.ofInt 1).toNatClampNeg) (xs (i + Int32.ofInt 2).toNatClampNeg)
  have key := hm_s4 hA0 (xs (i + Int32.ofInt 1).toNatClampNeg) (xs (i + Int32.ofInt 2).toNatClampNeg)
  generalize hq_4 S (xs (i + Int32.ofInt 1).toNatClampNeg) (xs (i + Int32.ofInt 2).toNatClampNeg) = R1 at hK1 hK2 key
  generalize hq_110 R1.2 (xs (i + Int32.ofInt 1).toNatClampNeg) (xs (i + Int32.ofInt 2).toNatClampNeg) = R2 at hK2 key
  refine hl_sN C [361, 362, 364, 365, 366] (pc' := 366) (L' := (hl_L i x5 x6 x7)) (st' := [.int (i + (Int32.ofInt 1)), .ref 60, .ref 0]) rfl rfl ?_
  refine hl_ld C rfl h1 ?_
  show hl_R p l e s m below meth c b D ad t0 t1 t2 367 (hl_L i x5 x6 x7) [.int (xs (i + Int32.ofInt 1).toNatClampNeg), .ref 0] (hp_mem X S) (n)
  refine hl_sN C [368, 370, 371, 372] (pc' := 372) (L' := (hl_L i x5 x6 x7)) (st' := [.int (i + (Int32.ofInt 2)), .ref 60, .int (xs (i + Int32.ofInt 1).toNatClampNeg), .ref 0]) rfl rfl ?_
  refine hl_ld C rfl h2 ?_
  show hl_R p l e s m below meth c b D ad t0 t1 t2 373 (hl_L i x5 x6 x7) [.int (xs (i + Int32.ofInt 2).toNatClampNeg), .int (xs (i + Int32.ofInt 1).toNatClampNeg), .ref 0] (hp_mem X S) (n)
  refine hl_cx C 138 rfl rfl rfl rfl (by decide) hI (hl_r0 hI [.int (xs (i + Int32.ofInt 1).toNatClampNeg), .int (xs (i + Int32.ofInt 2).toNatClampNeg)]) (Nat.le_of_ble_eq_true rfl) (Nat.le_of_ble_eq_true rfl) (Nat.le_of_ble_eq_true rfl) ⟨rfl, ⟨_, rfl, ha_rng _⟩, ⟨_, rfl, ha_rng _⟩, trivial⟩ rfl (by omega) hK1 (fun hI1 hw1 => ?_)
  show hl_R p l e s m below meth c b D ad t0 t1 t2 376 (hl_L i x5 x6 x7) [.int R1.1] (hp_mem X R1.2) (n - 0)
  refine hl_sN C [377, 378, 379, 381, 382, 383] (pc' := 383) (L' := (hl_L i x5 x6 x7)) (st' := [.int (i + (Int32.ofInt 1)), .ref 60, .ref 47]) rfl rfl ?_
  refine hl_ld C rfl h1 ?_
  show hl_R p l e s m below meth c b D ad t0 t1 t2 384 (hl_L i x5 x6 x7) [.int (xs (i + Int32.ofInt 1).toNatClampNeg), .ref 47] (hp_mem X R1.2) (n - 0)
  refine hl_sN C [385, 387, 388, 389] (pc' := 389) (L' := (hl_L i x5 x6 x7)) (st' := [.int (i + (Int32.ofInt 2)), .ref 60, .int (xs (i + Int32.ofInt 1).toNatClampNeg), .ref 47]) rfl rfl ?_
  refine hl_ld C rfl h2 ?_
  show hl_R p l e s m below meth c b D ad t0 t1 t2 390 (hl_L i x5 x6 x7) [.int (xs (i + Int32.ofInt 2).toNatClampNeg), .int (xs (i + Int32.ofInt 1).toNatClampNeg), .ref 47] (hp_mem X R1.2) (n - 0)
  refine hl_cx C 209 rfl rfl rfl rfl (by decide) hI1 (hl_r47 hI1 [.int (xs (i + Int32.ofInt 1).toNatClampNeg), .int (xs (i + Int32.ofInt 2).toNatClampNeg)]) (Nat.le_of_ble_eq_true rfl) (Nat.le_of_ble_eq_true rfl) (Nat.le_of_ble_eq_true rfl) ⟨rfl, ⟨_, rfl, ha_rng _⟩, ⟨_, rfl, ha_rng _⟩, trivial⟩ rfl (by omega) hK2 (fun hI2 hw2 => ?_)
  show hl_R p l e s m below meth c b D ad t0 t1 t2 393 (hl_L i x5 x6 x7) [.int R2.1] (hp_mem X R2.2) (n - 0 - 0)
  refine hl_sN C [394, 1796] (pc' := 1796) (L' := (hl_L i x5 x6 x7)) (st' := []) rfl rfl ?_
  exact hl_mono (by omega) (kk (hp_mem X R2.2) _ _ _ hI2 (hl_Am X key.2))
set_option maxRecDepth 10000 in
theorem hl_k5 (C : hl_C p l s m meth c b N xs D ad t0 t1 t2) {M : hzMem} {n : Nat} {i : Int32} {x5 x6 x7 : Option Value} (hI : hl_I M) (hA : hl_St M) (h1 : vp_in (i + Int32.ofInt 1) N) (h2 : vp_in (i + Int32.ofInt 2) N) (h3 : vp_in (i + Int32.ofInt 3) N) (h4 : vp_in (i + Int32.ofInt 4) N) (h5 : vp_in (i + Int32.ofInt 5) N) (hn : 1 ≤ n) (kk : ∀ (M' : hzMem) (y5 y6 y7 : Option Value), hl_I M' → hl_St M' → hl_R p l e s m below meth c b D ad t0 t1 t2 1796 (hl_L i y5 y6 y7) [] M' (n - 1)) : hl_R p l e s m below meth c b D ad t0 t1 t2 397 (hl_L i x5 x6 x7) [] M n := by
  obtain ⟨X, S, hX, hS⟩ := hp_of2 hI
  obtain ⟨σ, h0, hC, hM⟩ := hI.2.2.2
  have hsh := hl_sh h0 hC hM
  have hA0 := hA
  unfold hl_St at hA0
  rw [← hS] at hA0 hsh
  subst hX
  have hK1 := hk_5 (X := X) S (xs (i + Int32.ofInt 1).toNatClampNeg) (xs (i + Int32.ofInt 2).toNatClampNeg)
  have hK2 := hk_111 (X := X) (hq_5 S (xs (i + Int32.ofInt 1).toNatClampNeg) (xs (i + Int32.ofInt 2).toNatClampNeg)).2 (xs (i + Int32.ofInt 1).toNatClampNeg) (xs (i + Int32.ofInt 2).toNatClampNeg)
  have key := hm_s5 hA0 hsh.1 (xs (i + Int32.ofInt 1).toNatClampNeg) (xs (i + Int32.ofInt 2).toNatClampNeg)
  generalize hq_5 S (xs (i + Int32.ofInt 1).toNatClampNeg) (xs (i + Int32.ofInt 2).toNatClampNeg) = R1 at hK1 hK2 key
  generalize hq_111 R1.2 (xs (i + Int32.ofInt 1).toNatClampNeg) (xs (i + Int32.ofInt 2).toNatClampNeg) = R2 at hK2 key
  refine hl_sN C [398, 399, 401, 402, 403] (pc' := 403) (L' := (hl_L i x5 x6 x7)) (st' := [.int (i + (Int32.ofInt 1)), .ref 60, .ref 0]) rfl rfl ?_
  refine hl_ld C rfl h1 ?_
  show hl_R p l e s m below meth c b D ad t0 t1 t2 404 (hl_L i x5 x6 x7) [.int (xs (i + Int32.ofInt 1).toNatClampNeg), .ref 0] (hp_mem X S) (n)
  refine hl_sN C [405, 407, 408, 409] (pc' := 409) (L' := (hl_L i x5 x6 x7)) (st' := [.int (i + (Int32.ofInt 2)), .ref 60, .int (xs (i + Int32.ofInt 1).toNatClampNeg), .ref 0]) rfl rfl ?_
  refine hl_ld C rfl h2 ?_
  show hl_R p l e s m below meth c b D ad t0 t1 t2 410 (hl_L i x5 x6 x7) [.int (xs (i + Int32.ofInt 2).toNatClampNeg), .int (xs (i + Int32.ofInt 1).toNatClampNeg), .ref 0] (hp_mem X S) (n)
  refine hl_cx C 139 rfl rfl rfl rfl (by decide) hI (hl_r0 hI [.int (xs (i + Int32.ofInt 1).toNatClampNeg), .int (xs (i + Int32.ofInt 2).toNatClampNeg)]) (Nat.le_of_ble_eq_true rfl) (Nat.le_of_ble_eq_true rfl) (Nat.le_of_ble_eq_true rfl) ⟨rfl, ⟨_, rfl, ha_rng _⟩, ⟨_, rfl, ha_rng _⟩, trivial⟩ rfl (by omega) hK1 (fun hI1 hw1 => ?_)
  show hl_R p l e s m below meth c b D ad t0 t1 t2 413 (hl_L i x5 x6 x7) [.int R1.1] (hp_mem X R1.2) (n - 0)
  refine hl_sN C [414, 415, 416, 418, 419, 420] (pc' := 420) (L' := (hl_L i x5 x6 x7)) (st' := [.int (i + (Int32.ofInt 1)), .ref 60, .ref 47]) rfl rfl ?_
  refine hl_ld C rfl h1 ?_
  show hl_R p l e s m below meth c b D ad t0 t1 t2 421 (hl_L i x5 x6 x7) [.int (xs (i + Int32.ofInt 1).toNatClampNeg), .ref 47] (hp_mem X R1.2) (n - 0)
  refine hl_sN C [422, 424, 425, 426] (pc' := 426) (L' := (hl_L i x5 x6 x7)) (st' := [.int (i + (Int32.ofInt 2)), .ref 60, .int (xs (i + Int32.ofInt 1).toNatClampNeg), .ref 47]) rfl rfl ?_
  refine hl_ld C rfl h2 ?_
  show hl_R p l e s m below meth c b D ad t0 t1 t2 427 (hl_L i x5 x6 x7) [.int (xs (i + Int32.ofInt 2).toNatClampNeg), .int (xs (i + Int32.ofInt 1).toNatClampNeg), .ref 47] (hp_mem X R1.2) (n - 0)
  refine hl_cx C 210 rfl rfl rfl rfl (by decide) hI1 (hl_r47 hI1 [.int (xs (i + Int32.ofInt 1).toNatClampNeg), .int (xs (i + Int32.ofInt 2).toNatClampNeg)]) (Nat.le_of_ble_eq_true rfl) (Nat.le_of_ble_eq_true rfl) (Nat.le_of_ble_eq_true rfl) ⟨rfl, ⟨_, rfl, ha_rng _⟩, ⟨_, rfl, ha_rng _⟩, trivial⟩ rfl (by omega) hK2 (fun hI2 hw2 => ?_)
  show hl_R p l e s m below meth c b D ad t0 t1 t2 430 (hl_L i x5 x6 x7) [.int R2.1] (hp_mem X R2.2) (n - 0 - 0)
  refine hl_sN C [431, 1796] (pc' := 1796) (L' := (hl_L i x5 x6 x7)) (st' := []) rfl rfl ?_
  exact hl_mono (by omega) (kk (hp_mem X R2.2) _ _ _ hI2 (hl_Am X key.2))
set_option maxRecDepth 10000 in
theorem hl_k6 (C : hl_C p l s m meth c b N xs D ad t0 t1 t2) {M : hzMem} {n : Nat} {i : Int32} {x5 x6 x7 : Option Value} (hI : hl_I M) (hA : hl_St M) (h1 : vp_in (i + Int32.ofInt 1) N) (h2 : vp_in (i + Int32.ofInt 2) N) (h3 : vp_in (i + Int32.ofInt 3) N) (h4 : vp_in (i + Int32.ofInt 4) N) (h5 : vp_in (i + Int32.ofInt 5) N) (hn : 1 ≤ n) (kk : ∀ (M' : hzMem) (y5 y6 y7 : Option Value), hl_I M' → hl_St M' → hl_R p l e s m below meth c b D ad t0 t1 t2 1796 (hl_L i y5 y6 y7) [] M' (n - 1)) : hl_R p l e s m below meth c b D ad t0 t1 t2 434 (hl_L i x5 x6 x7) [] M n := by
  obtain ⟨X, S, hX, hS⟩ := hp_of2 hI
  obtain ⟨σ, h0, hC, hM⟩ := hI.2.2.2
  have hsh := hl_sh h0 hC hM
  have hA0 := hA
  unfold hl_St at hA0
  rw [← hS] at hA0 hsh
  subst hX
  have hK1 := hk_6 (X := X) S (xs (i + Int32.ofInt 1).toNatClampNeg) (xs (i + Int32.ofInt 2).toNatClampNeg)
  have hK2 := hk_112 (X := X) (hq_6 S (xs (i + Int32.ofInt 1).toNatClampNeg) (xs (i + Int32.ofInt 2).toNatClampNeg)).2 (xs (i + Int32.ofInt 1).toNatClampNeg) (xs (i + Int32.ofInt 2).toNatClampNeg)
  have key := hm_s6 hA0 (xs (i + Int32.ofInt 1).toNatClampNeg) (xs (i + Int32.ofInt 2).toNatClampNeg)
  generalize hq_6 S (xs (i + Int32.ofInt 1).toNatClampNeg) (xs (i + Int32.ofInt 2).toNatClampNeg) = R1 at hK1 hK2 key
  generalize hq_112 R1.2 (xs (i + Int32.ofInt 1).toNatClampNeg) (xs (i + Int32.ofInt 2).toNatClampNeg) = R2 at hK2 key
  refine hl_sN C [435, 436, 438, 439, 440] (pc' := 440) (L' := (hl_L i x5 x6 x7)) (st' := [.int (i + (Int32.ofInt 1)), .ref 60, .ref 0]) rfl rfl ?_
  refine hl_ld C rfl h1 ?_
  show hl_R p l e s m below meth c b D ad t0 t1 t2 441 (hl_L i x5 x6 x7) [.int (xs (i + Int32.ofInt 1).toNatClampNeg), .ref 0] (hp_mem X S) (n)
  refine hl_sN C [442, 444, 445, 446] (pc' := 446) (L' := (hl_L i x5 x6 x7)) (st' := [.int (i + (Int32.ofInt 2)), .ref 60, .int (xs (i + Int32.ofInt 1).toNatClampNeg), .ref 0]) rfl rfl ?_
  refine hl_ld C rfl h2 ?_
  show hl_R p l e s m below meth c b D ad t0 t1 t2 447 (hl_L i x5 x6 x7) [.int (xs (i + Int32.ofInt 2).toNatClampNeg), .int (xs (i + Int32.ofInt 1).toNatClampNeg), .ref 0] (hp_mem X S) (n)
  refine hl_cx C 140 rfl rfl rfl rfl (by decide) hI (hl_r0 hI [.int (xs (i + Int32.ofInt 1).toNatClampNeg), .int (xs (i + Int32.ofInt 2).toNatClampNeg)]) (Nat.le_of_ble_eq_true rfl) (Nat.le_of_ble_eq_true rfl) (Nat.le_of_ble_eq_true rfl) ⟨rfl, ⟨_, rfl, ha_rng _⟩, ⟨_, rfl, ha_rng _⟩, trivial⟩ rfl (by omega) hK1 (fun hI1 hw1 => ?_)
  show hl_R p l e s m below meth c b D ad t0 t1 t2 450 (hl_L i x5 x6 x7) [.int R1.1] (hp_mem X R1.2) (n - 0)
  refine hl_sN C [451, 452, 453, 455, 456, 457] (pc' := 457) (L' := (hl_L i x5 x6 x7)) (st' := [.int (i + (Int32.ofInt 1)), .ref 60, .ref 47]) rfl rfl ?_
  refine hl_ld C rfl h1 ?_
  show hl_R p l e s m below meth c b D ad t0 t1 t2 458 (hl_L i x5 x6 x7) [.int (xs (i + Int32.ofInt 1).toNatClampNeg), .ref 47] (hp_mem X R1.2) (n - 0)
  refine hl_sN C [459, 461, 462, 463] (pc' := 463) (L' := (hl_L i x5 x6 x7)) (st' := [.int (i + (Int32.ofInt 2)), .ref 60, .int (xs (i + Int32.ofInt 1).toNatClampNeg), .ref 47]) rfl rfl ?_
  refine hl_ld C rfl h2 ?_
  show hl_R p l e s m below meth c b D ad t0 t1 t2 464 (hl_L i x5 x6 x7) [.int (xs (i + Int32.ofInt 2).toNatClampNeg), .int (xs (i + Int32.ofInt 1).toNatClampNeg), .ref 47] (hp_mem X R1.2) (n - 0)
  refine hl_cx C 211 rfl rfl rfl rfl (by decide) hI1 (hl_r47 hI1 [.int (xs (i + Int32.ofInt 1).toNatClampNeg), .int (xs (i + Int32.ofInt 2).toNatClampNeg)]) (Nat.le_of_ble_eq_true rfl) (Nat.le_of_ble_eq_true rfl) (Nat.le_of_ble_eq_true rfl) ⟨rfl, ⟨_, rfl, ha_rng _⟩, ⟨_, rfl, ha_rng _⟩, trivial⟩ rfl (by omega) hK2 (fun hI2 hw2 => ?_)
  show hl_R p l e s m below meth c b D ad t0 t1 t2 467 (hl_L i x5 x6 x7) [.int R2.1] (hp_mem X R2.2) (n - 0 - 0)
  refine hl_sN C [468, 1796] (pc' := 1796) (L' := (hl_L i x5 x6 x7)) (st' := []) rfl rfl ?_
  exact hl_mono (by omega) (kk (hp_mem X R2.2) _ _ _ hI2 (hl_Am X key.2))
set_option maxRecDepth 10000 in
theorem hl_k7 (C : hl_C p l s m meth c b N xs D ad t0 t1 t2) {M : hzMem} {n : Nat} {i : Int32} {x5 x6 x7 : Option Value} (hI : hl_I M) (hA : hl_St M) (h1 : vp_in (i + Int32.ofInt 1) N) (h2 : vp_in (i + Int32.ofInt 2) N) (h3 : vp_in (i + Int32.ofInt 3) N) (h4 : vp_in (i + Int32.ofInt 4) N) (h5 : vp_in (i + Int32.ofInt 5) N) (hn : 1 ≤ n) (kk : ∀ (M' : hzMem) (y5 y6 y7 : Option Value), hl_I M' → hl_St M' → hl_R p l e s m below meth c b D ad t0 t1 t2 1796 (hl_L i y5 y6 y7) [] M' (n - 1)) : hl_R p l e s m below meth c b D ad t0 t1 t2 471 (hl_L i x5 x6 x7) [] M n := by
  obtain ⟨X, S, hX, hS⟩ := hp_of2 hI
  obtain ⟨σ, h0, hC, hM⟩ := hI.2.2.2
  have hsh := hl_sh h0 hC hM
  have hA0 := hA
  unfold hl_St at hA0
  rw [← hS] at hA0 hsh
  subst hX
  have hK1 := hk_7 (X := X) S (xs (i + Int32.ofInt 1).toNatClampNeg)
  have hK2 := hk_113 (X := X) (hq_7 S (xs (i + Int32.ofInt 1).toNatClampNeg)).2 (xs (i + Int32.ofInt 1).toNatClampNeg)
  have key := hm_s7 hA0 (xs (i + Int32.ofInt 1).toNatClampNeg)
  generalize hq_7 S (xs (i + Int32.ofInt 1).toNatClampNeg) = R1 at hK1 hK2 key
  generalize hq_113 R1.2 (xs (i + Int32.ofInt 1).toNatClampNeg) = R2 at hK2 key
  refine hl_sN C [472, 473, 475, 476, 477] (pc' := 477) (L' := (hl_L i x5 x6 x7)) (st' := [.int (i + (Int32.ofInt 1)), .ref 60, .ref 0]) rfl rfl ?_
  refine hl_ld C rfl h1 ?_
  show hl_R p l e s m below meth c b D ad t0 t1 t2 478 (hl_L i x5 x6 x7) [.int (xs (i + Int32.ofInt 1).toNatClampNeg), .ref 0] (hp_mem X S) (n)
  refine hl_cx C 141 rfl rfl rfl rfl (by decide) hI (hl_r0 hI [.int (xs (i + Int32.ofInt 1).toNatClampNeg)]) (Nat.le_of_ble_eq_true rfl) (Nat.le_of_ble_eq_true rfl) (Nat.le_of_ble_eq_true rfl) ⟨rfl, ⟨_, rfl, ha_rng _⟩, trivial⟩ rfl (by omega) hK1 (fun hI1 hw1 => ?_)
  show hl_R p l e s m below meth c b D ad t0 t1 t2 481 (hl_L i x5 x6 x7) [.int R1.1] (hp_mem X R1.2) (n - 0)
  refine hl_sN C [482, 483, 484, 486, 487, 488] (pc' := 488) (L' := (hl_L i x5 x6 x7)) (st' := [.int (i + (Int32.ofInt 1)), .ref 60, .ref 47]) rfl rfl ?_
  refine hl_ld C rfl h1 ?_
  show hl_R p l e s m below meth c b D ad t0 t1 t2 489 (hl_L i x5 x6 x7) [.int (xs (i + Int32.ofInt 1).toNatClampNeg), .ref 47] (hp_mem X R1.2) (n - 0)
  refine hl_cx C 212 rfl rfl rfl rfl (by decide) hI1 (hl_r47 hI1 [.int (xs (i + Int32.ofInt 1).toNatClampNeg)]) (Nat.le_of_ble_eq_true rfl) (Nat.le_of_ble_eq_true rfl) (Nat.le_of_ble_eq_true rfl) ⟨rfl, ⟨_, rfl, ha_rng _⟩, trivial⟩ rfl (by omega) hK2 (fun hI2 hw2 => ?_)
  show hl_R p l e s m below meth c b D ad t0 t1 t2 492 (hl_L i x5 x6 x7) [.int R2.1] (hp_mem X R2.2) (n - 0 - 0)
  refine hl_sN C [493, 1796] (pc' := 1796) (L' := (hl_L i x5 x6 x7)) (st' := []) rfl rfl ?_
  exact hl_mono (by omega) (kk (hp_mem X R2.2) _ _ _ hI2 (hl_Am X key.2))
set_option maxRecDepth 10000 in
theorem hl_k8 (C : hl_C p l s m meth c b N xs D ad t0 t1 t2) {M : hzMem} {n : Nat} {i : Int32} {x5 x6 x7 : Option Value} (hI : hl_I M) (hA : hl_St M) (h1 : vp_in (i + Int32.ofInt 1) N) (h2 : vp_in (i + Int32.ofInt 2) N) (h3 : vp_in (i + Int32.ofInt 3) N) (h4 : vp_in (i + Int32.ofInt 4) N) (h5 : vp_in (i + Int32.ofInt 5) N) (hn : 1 ≤ n) (kk : ∀ (M' : hzMem) (y5 y6 y7 : Option Value), hl_I M' → hl_St M' → hl_R p l e s m below meth c b D ad t0 t1 t2 1796 (hl_L i y5 y6 y7) [] M' (n - 1)) : hl_R p l e s m below meth c b D ad t0 t1 t2 496 (hl_L i x5 x6 x7) [] M n := by
  obtain ⟨X, S, hX, hS⟩ := hp_of2 hI
  obtain ⟨σ, h0, hC, hM⟩ := hI.2.2.2
  have hsh := hl_sh h0 hC hM
  have hA0 := hA
  unfold hl_St at hA0
  rw [← hS] at hA0 hsh
  subst hX
  have hK1 := hk_8 (X := X) S (xs (i + Int32.ofInt 1).toNatClampNeg) (xs (i + Int32.ofInt 2).toNatClampNeg)
  have hK2 := hk_114 (X := X) (hq_8 S (xs (i + Int32.ofInt 1).toNatClampNeg) (xs (i + Int32.ofInt 2).toNatClampNeg)).2 (xs (i + Int32.ofInt 1).toNatClampNeg) (xs (i + Int32.ofInt 2).toNatClampNeg)
  have key := hm_s8 hA0 (xs (i + Int32.ofInt 1).toNatClampNeg) (xs (i + Int32.ofInt 2).toNatClampNeg)
  generalize hq_8 S (xs (i + Int32.ofInt 1).toNatClampNeg) (xs (i + Int32.ofInt 2).toNatClampNeg) = R1 at hK1 hK2 key
  generalize hq_114 R1.2 (xs (i + Int32.ofInt 1).toNatClampNeg) (xs (i + Int32.ofInt 2).toNatClampNeg) = R2 at hK2 key
  refine hl_sN C [497, 498, 500, 501, 502] (pc' := 502) (L' := (hl_L i x5 x6 x7)) (st' := [.int (i + (Int32.ofInt 1)), .ref 60, .ref 0]) rfl rfl ?_
  refine hl_ld C rfl h1 ?_
  show hl_R p l e s m below meth c b D ad t0 t1 t2 503 (hl_L i x5 x6 x7) [.int (xs (i + Int32.ofInt 1).toNatClampNeg), .ref 0] (hp_mem X S) (n)
  refine hl_sN C [504, 506, 507, 508] (pc' := 508) (L' := (hl_L i x5 x6 x7)) (st' := [.int (i + (Int32.ofInt 2)), .ref 60, .int (xs (i + Int32.ofInt 1).toNatClampNeg), .ref 0]) rfl rfl ?_
  refine hl_ld C rfl h2 ?_
  show hl_R p l e s m below meth c b D ad t0 t1 t2 509 (hl_L i x5 x6 x7) [.int (xs (i + Int32.ofInt 2).toNatClampNeg), .int (xs (i + Int32.ofInt 1).toNatClampNeg), .ref 0] (hp_mem X S) (n)
  refine hl_cx C 142 rfl rfl rfl rfl (by decide) hI (hl_r0 hI [.int (xs (i + Int32.ofInt 1).toNatClampNeg), .int (xs (i + Int32.ofInt 2).toNatClampNeg)]) (Nat.le_of_ble_eq_true rfl) (Nat.le_of_ble_eq_true rfl) (Nat.le_of_ble_eq_true rfl) ⟨rfl, ⟨_, rfl, ha_rng _⟩, ⟨_, rfl, ha_rng _⟩, trivial⟩ rfl (by omega) hK1 (fun hI1 hw1 => ?_)
  show hl_R p l e s m below meth c b D ad t0 t1 t2 512 (hl_L i x5 x6 x7) [.int R1.1] (hp_mem X R1.2) (n - 0)
  refine hl_sN C [513, 514, 515, 517, 518, 519] (pc' := 519) (L' := (hl_L i x5 x6 x7)) (st' := [.int (i + (Int32.ofInt 1)), .ref 60, .ref 47]) rfl rfl ?_
  refine hl_ld C rfl h1 ?_
  show hl_R p l e s m below meth c b D ad t0 t1 t2 520 (hl_L i x5 x6 x7) [.int (xs (i + Int32.ofInt 1).toNatClampNeg), .ref 47] (hp_mem X R1.2) (n - 0)
  refine hl_sN C [521, 523, 524, 525] (pc' := 525) (L' := (hl_L i x5 x6 x7)) (st' := [.int (i + (Int32.ofInt 2)), .ref 60, .int (xs (i + Int32.ofInt 1).toNatClampNeg), .ref 47]) rfl rfl ?_
  refine hl_ld C rfl h2 ?_
  show hl_R p l e s m below meth c b D ad t0 t1 t2 526 (hl_L i x5 x6 x7) [.int (xs (i + Int32.ofInt 2).toNatClampNeg), .int (xs (i + Int32.ofInt 1).toNatClampNeg), .ref 47] (hp_mem X R1.2) (n - 0)
  refine hl_cx C 213 rfl rfl rfl rfl (by decide) hI1 (hl_r47 hI1 [.int (xs (i + Int32.ofInt 1).toNatClampNeg), .int (xs (i + Int32.ofInt 2).toNatClampNeg)]) (Nat.le_of_ble_eq_true rfl) (Nat.le_of_ble_eq_true rfl) (Nat.le_of_ble_eq_true rfl) ⟨rfl, ⟨_, rfl, ha_rng _⟩, ⟨_, rfl, ha_rng _⟩, trivial⟩ rfl (by omega) hK2 (fun hI2 hw2 => ?_)
  show hl_R p l e s m below meth c b D ad t0 t1 t2 529 (hl_L i x5 x6 x7) [.int R2.1] (hp_mem X R2.2) (n - 0 - 0)
  refine hl_sN C [530, 1796] (pc' := 1796) (L' := (hl_L i x5 x6 x7)) (st' := []) rfl rfl ?_
  exact hl_mono (by omega) (kk (hp_mem X R2.2) _ _ _ hI2 (hl_Am X key.2))
set_option maxRecDepth 10000 in
theorem hl_k9 (C : hl_C p l s m meth c b N xs D ad t0 t1 t2) {M : hzMem} {n : Nat} {i : Int32} {x5 x6 x7 : Option Value} (hI : hl_I M) (hA : hl_St M) (h1 : vp_in (i + Int32.ofInt 1) N) (h2 : vp_in (i + Int32.ofInt 2) N) (h3 : vp_in (i + Int32.ofInt 3) N) (h4 : vp_in (i + Int32.ofInt 4) N) (h5 : vp_in (i + Int32.ofInt 5) N) (hn : 1 ≤ n) (kk : ∀ (M' : hzMem) (y5 y6 y7 : Option Value), hl_I M' → hl_St M' → hl_R p l e s m below meth c b D ad t0 t1 t2 1796 (hl_L i y5 y6 y7) [] M' (n - 1)) : hl_R p l e s m below meth c b D ad t0 t1 t2 533 (hl_L i x5 x6 x7) [] M n := by
  obtain ⟨X, S, hX, hS⟩ := hp_of2 hI
  obtain ⟨σ, h0, hC, hM⟩ := hI.2.2.2
  have hsh := hl_sh h0 hC hM
  have hA0 := hA
  unfold hl_St at hA0
  rw [← hS] at hA0 hsh
  subst hX
  have hK1 := hk_9 (X := X) S (xs (i + Int32.ofInt 1).toNatClampNeg) (xs (i + Int32.ofInt 2).toNatClampNeg)
  have hK2 := hk_115 (X := X) (hq_9 S (xs (i + Int32.ofInt 1).toNatClampNeg) (xs (i + Int32.ofInt 2).toNatClampNeg)).2 (xs (i + Int32.ofInt 1).toNatClampNeg) (xs (i + Int32.ofInt 2).toNatClampNeg)
  have key := hm_s9 hA0 (xs (i + Int32.ofInt 1).toNatClampNeg) (xs (i + Int32.ofInt 2).toNatClampNeg)
  generalize hq_9 S (xs (i + Int32.ofInt 1).toNatClampNeg) (xs (i + Int32.ofInt 2).toNatClampNeg) = R1 at hK1 hK2 key
  generalize hq_115 R1.2 (xs (i + Int32.ofInt 1).toNatClampNeg) (xs (i + Int32.ofInt 2).toNatClampNeg) = R2 at hK2 key
  refine hl_sN C [534, 535, 537, 538, 539] (pc' := 539) (L' := (hl_L i x5 x6 x7)) (st' := [.int (i + (Int32.ofInt 1)), .ref 60, .ref 0]) rfl rfl ?_
  refine hl_ld C rfl h1 ?_
  show hl_R p l e s m below meth c b D ad t0 t1 t2 540 (hl_L i x5 x6 x7) [.int (xs (i + Int32.ofInt 1).toNatClampNeg), .ref 0] (hp_mem X S) (n)
  refine hl_sN C [541, 543, 544, 545] (pc' := 545) (L' := (hl_L i x5 x6 x7)) (st' := [.int (i + (Int32.ofInt 2)), .ref 60, .int (xs (i + Int32.ofInt 1).toNatClampNeg), .ref 0]) rfl rfl ?_
  refine hl_ld C rfl h2 ?_
  show hl_R p l e s m below meth c b D ad t0 t1 t2 546 (hl_L i x5 x6 x7) [.int (xs (i + Int32.ofInt 2).toNatClampNeg), .int (xs (i + Int32.ofInt 1).toNatClampNeg), .ref 0] (hp_mem X S) (n)
  refine hl_cx C 143 rfl rfl rfl rfl (by decide) hI (hl_r0 hI [.int (xs (i + Int32.ofInt 1).toNatClampNeg), .int (xs (i + Int32.ofInt 2).toNatClampNeg)]) (Nat.le_of_ble_eq_true rfl) (Nat.le_of_ble_eq_true rfl) (Nat.le_of_ble_eq_true rfl) ⟨rfl, ⟨_, rfl, ha_rng _⟩, ⟨_, rfl, ha_rng _⟩, trivial⟩ rfl (by omega) hK1 (fun hI1 hw1 => ?_)
  show hl_R p l e s m below meth c b D ad t0 t1 t2 549 (hl_L i x5 x6 x7) [.int R1.1] (hp_mem X R1.2) (n - 0)
  refine hl_sN C [550, 551, 552, 554, 555, 556] (pc' := 556) (L' := (hl_L i x5 x6 x7)) (st' := [.int (i + (Int32.ofInt 1)), .ref 60, .ref 47]) rfl rfl ?_
  refine hl_ld C rfl h1 ?_
  show hl_R p l e s m below meth c b D ad t0 t1 t2 557 (hl_L i x5 x6 x7) [.int (xs (i + Int32.ofInt 1).toNatClampNeg), .ref 47] (hp_mem X R1.2) (n - 0)
  refine hl_sN C [558, 560, 561, 562] (pc' := 562) (L' := (hl_L i x5 x6 x7)) (st' := [.int (i + (Int32.ofInt 2)), .ref 60, .int (xs (i + Int32.ofInt 1).toNatClampNeg), .ref 47]) rfl rfl ?_
  refine hl_ld C rfl h2 ?_
  show hl_R p l e s m below meth c b D ad t0 t1 t2 563 (hl_L i x5 x6 x7) [.int (xs (i + Int32.ofInt 2).toNatClampNeg), .int (xs (i + Int32.ofInt 1).toNatClampNeg), .ref 47] (hp_mem X R1.2) (n - 0)
  refine hl_cx C 214 rfl rfl rfl rfl (by decide) hI1 (hl_r47 hI1 [.int (xs (i + Int32.ofInt 1).toNatClampNeg), .int (xs (i + Int32.ofInt 2).toNatClampNeg)]) (Nat.le_of_ble_eq_true rfl) (Nat.le_of_ble_eq_true rfl) (Nat.le_of_ble_eq_true rfl) ⟨rfl, ⟨_, rfl, ha_rng _⟩, ⟨_, rfl, ha_rng _⟩, trivial⟩ rfl (by omega) hK2 (fun hI2 hw2 => ?_)
  show hl_R p l e s m below meth c b D ad t0 t1 t2 566 (hl_L i x5 x6 x7) [.int R2.1] (hp_mem X R2.2) (n - 0 - 0)
  refine hl_sN C [567, 1796] (pc' := 1796) (L' := (hl_L i x5 x6 x7)) (st' := []) rfl rfl ?_
  exact hl_mono (by omega) (kk (hp_mem X R2.2) _ _ _ hI2 (hl_Am X key.2))
set_option maxRecDepth 10000 in
theorem hl_k10 (C : hl_C p l s m meth c b N xs D ad t0 t1 t2) {M : hzMem} {n : Nat} {i : Int32} {x5 x6 x7 : Option Value} (hI : hl_I M) (hA : hl_St M) (h1 : vp_in (i + Int32.ofInt 1) N) (h2 : vp_in (i + Int32.ofInt 2) N) (h3 : vp_in (i + Int32.ofInt 3) N) (h4 : vp_in (i + Int32.ofInt 4) N) (h5 : vp_in (i + Int32.ofInt 5) N) (hn : 1 ≤ n) (kk : ∀ (M' : hzMem) (y5 y6 y7 : Option Value), hl_I M' → hl_St M' → hl_R p l e s m below meth c b D ad t0 t1 t2 1796 (hl_L i y5 y6 y7) [] M' (n - 1)) : hl_R p l e s m below meth c b D ad t0 t1 t2 570 (hl_L i x5 x6 x7) [] M n := by
  obtain ⟨X, S, hX, hS⟩ := hp_of2 hI
  obtain ⟨σ, h0, hC, hM⟩ := hI.2.2.2
  have hsh := hl_sh h0 hC hM
  have hA0 := hA
  unfold hl_St at hA0
  rw [← hS] at hA0 hsh
  subst hX
  have hK1 := hk_10 (X := X) S (xs (i + Int32.ofInt 1).toNatClampNeg)
  have hK2 := hk_116 (X := X) (hq_10 S (xs (i + Int32.ofInt 1).toNatClampNeg)).2 (xs (i + Int32.ofInt 1).toNatClampNeg)
  have key := hm_s10 hA0 (xs (i + Int32.ofInt 1).toNatClampNeg)
  generalize hq_10 S (xs (i + Int32.ofInt 1).toNatClampNeg) = R1 at hK1 hK2 key
  generalize hq_116 R1.2 (xs (i + Int32.ofInt 1).toNatClampNeg) = R2 at hK2 key
  refine hl_sN C [571, 572, 574, 575, 576] (pc' := 576) (L' := (hl_L i x5 x6 x7)) (st' := [.int (i + (Int32.ofInt 1)), .ref 60, .ref 0]) rfl rfl ?_
  refine hl_ld C rfl h1 ?_
  show hl_R p l e s m below meth c b D ad t0 t1 t2 577 (hl_L i x5 x6 x7) [.int (xs (i + Int32.ofInt 1).toNatClampNeg), .ref 0] (hp_mem X S) (n)
  refine hl_cx C 144 rfl rfl rfl rfl (by decide) hI (hl_r0 hI [.int (xs (i + Int32.ofInt 1).toNatClampNeg)]) (Nat.le_of_ble_eq_true rfl) (Nat.le_of_ble_eq_true rfl) (Nat.le_of_ble_eq_true rfl) ⟨rfl, ⟨_, rfl, ha_rng _⟩, trivial⟩ rfl (by omega) hK1 (fun hI1 hw1 => ?_)
  show hl_R p l e s m below meth c b D ad t0 t1 t2 580 (hl_L i x5 x6 x7) [.int R1.1] (hp_mem X R1.2) (n - 0)
  refine hl_sN C [581, 582, 583, 585, 586, 587] (pc' := 587) (L' := (hl_L i x5 x6 x7)) (st' := [.int (i + (Int32.ofInt 1)), .ref 60, .ref 47]) rfl rfl ?_
  refine hl_ld C rfl h1 ?_
  show hl_R p l e s m below meth c b D ad t0 t1 t2 588 (hl_L i x5 x6 x7) [.int (xs (i + Int32.ofInt 1).toNatClampNeg), .ref 47] (hp_mem X R1.2) (n - 0)
  refine hl_cx C 215 rfl rfl rfl rfl (by decide) hI1 (hl_r47 hI1 [.int (xs (i + Int32.ofInt 1).toNatClampNeg)]) (Nat.le_of_ble_eq_true rfl) (Nat.le_of_ble_eq_true rfl) (Nat.le_of_ble_eq_true rfl) ⟨rfl, ⟨_, rfl, ha_rng _⟩, trivial⟩ rfl (by omega) hK2 (fun hI2 hw2 => ?_)
  show hl_R p l e s m below meth c b D ad t0 t1 t2 591 (hl_L i x5 x6 x7) [.int R2.1] (hp_mem X R2.2) (n - 0 - 0)
  refine hl_sN C [592, 1796] (pc' := 1796) (L' := (hl_L i x5 x6 x7)) (st' := []) rfl rfl ?_
  exact hl_mono (by omega) (kk (hp_mem X R2.2) _ _ _ hI2 (hl_Am X key.2))
set_option maxRecDepth 10000 in
theorem hl_k11 (C : hl_C p l s m meth c b N xs D ad t0 t1 t2) {M : hzMem} {n : Nat} {i : Int32} {x5 x6 x7 : Option Value} (hI : hl_I M) (hA : hl_St M) (h1 : vp_in (i + Int32.ofInt 1) N) (h2 : vp_in (i + Int32.ofInt 2) N) (h3 : vp_in (i + Int32.ofInt 3) N) (h4 : vp_in (i + Int32.ofInt 4) N) (h5 : vp_in (i + Int32.ofInt 5) N) (hn : 1 ≤ n) (kk : ∀ (M' : hzMem) (y5 y6 y7 : Option Value), hl_I M' → hl_St M' → hl_R p l e s m below meth c b D ad t0 t1 t2 1796 (hl_L i y5 y6 y7) [] M' (n - 1)) : hl_R p l e s m below meth c b D ad t0 t1 t2 595 (hl_L i x5 x6 x7) [] M n := by
  refine hl_sN C [596, 597, 599, 600, 601] (pc' := 601) (L' := (hl_L i x5 x6 x7)) (st' := [.int (i + (Int32.ofInt 1)), .ref 60, .ref 0]) rfl rfl ?_
  refine hl_ld C rfl h1 ?_
  show hl_R p l e s m below meth c b D ad t0 t1 t2 602 (hl_L i x5 x6 x7) [.int (xs (i + Int32.ofInt 1).toNatClampNeg), .ref 0] M (n)
  refine hl_sN C [603, 605, 606, 607] (pc' := 607) (L' := (hl_L i x5 x6 x7)) (st' := [.int (i + (Int32.ofInt 2)), .ref 60, .int (xs (i + Int32.ofInt 1).toNatClampNeg), .ref 0]) rfl rfl ?_
  refine hl_ld C rfl h2 ?_
  show hl_R p l e s m below meth c b D ad t0 t1 t2 608 (hl_L i x5 x6 x7) [.int (xs (i + Int32.ofInt 2).toNatClampNeg), .int (xs (i + Int32.ofInt 1).toNatClampNeg), .ref 0] M (n)
  refine hl_sN C [609, 611, 612, 613] (pc' := 613) (L' := (hl_L i x5 x6 x7)) (st' := [.int (i + (Int32.ofInt 3)), .ref 60, .int (xs (i + Int32.ofInt 2).toNatClampNeg), .int (xs (i + Int32.ofInt 1).toNatClampNeg), .ref 0]) rfl rfl ?_
  refine hl_ld C rfl h3 ?_
  show hl_R p l e s m below meth c b D ad t0 t1 t2 614 (hl_L i x5 x6 x7) [.int (xs (i + Int32.ofInt 3).toNatClampNeg), .int (xs (i + Int32.ofInt 2).toNatClampNeg), .int (xs (i + Int32.ofInt 1).toNatClampNeg), .ref 0] M (n)
  refine hl_cv C 145 rfl rfl rfl rfl (by decide) hI (hl_r0 hI [.int (xs (i + Int32.ofInt 1).toNatClampNeg), .int (xs (i + Int32.ofInt 2).toNatClampNeg), .int (xs (i + Int32.ofInt 3).toNatClampNeg)]) (Nat.le_of_ble_eq_true rfl) (Nat.le_of_ble_eq_true rfl) (Nat.le_of_ble_eq_true rfl) ⟨rfl, ⟨_, rfl, ha_rng _⟩, ⟨_, rfl, ha_rng _⟩, ⟨_, rfl, ha_rng _⟩, trivial⟩ rfl (by omega) (fun rv1 M1 hr1 hI1 hw1 => ?_)
  obtain ⟨z1, rfl⟩ := hl_ri hr1
  show hl_R p l e s m below meth c b D ad t0 t1 t2 617 (hl_L i x5 x6 x7) [.int z1] M1 (n - 0)
  refine hl_sN C [618, 619, 620, 622, 623, 624] (pc' := 624) (L' := (hl_L i x5 x6 x7)) (st' := [.int (i + (Int32.ofInt 1)), .ref 60, .ref 47]) rfl rfl ?_
  refine hl_ld C rfl h1 ?_
  show hl_R p l e s m below meth c b D ad t0 t1 t2 625 (hl_L i x5 x6 x7) [.int (xs (i + Int32.ofInt 1).toNatClampNeg), .ref 47] M1 (n - 0)
  refine hl_sN C [626, 628, 629, 630] (pc' := 630) (L' := (hl_L i x5 x6 x7)) (st' := [.int (i + (Int32.ofInt 2)), .ref 60, .int (xs (i + Int32.ofInt 1).toNatClampNeg), .ref 47]) rfl rfl ?_
  refine hl_ld C rfl h2 ?_
  show hl_R p l e s m below meth c b D ad t0 t1 t2 631 (hl_L i x5 x6 x7) [.int (xs (i + Int32.ofInt 2).toNatClampNeg), .int (xs (i + Int32.ofInt 1).toNatClampNeg), .ref 47] M1 (n - 0)
  refine hl_sN C [632, 634, 635, 636] (pc' := 636) (L' := (hl_L i x5 x6 x7)) (st' := [.int (i + (Int32.ofInt 3)), .ref 60, .int (xs (i + Int32.ofInt 2).toNatClampNeg), .int (xs (i + Int32.ofInt 1).toNatClampNeg), .ref 47]) rfl rfl ?_
  refine hl_ld C rfl h3 ?_
  show hl_R p l e s m below meth c b D ad t0 t1 t2 637 (hl_L i x5 x6 x7) [.int (xs (i + Int32.ofInt 3).toNatClampNeg), .int (xs (i + Int32.ofInt 2).toNatClampNeg), .int (xs (i + Int32.ofInt 1).toNatClampNeg), .ref 47] M1 (n - 0)
  refine hl_cv C 216 rfl rfl rfl rfl (by decide) hI1 (hl_r47 hI1 [.int (xs (i + Int32.ofInt 1).toNatClampNeg), .int (xs (i + Int32.ofInt 2).toNatClampNeg), .int (xs (i + Int32.ofInt 3).toNatClampNeg)]) (Nat.le_of_ble_eq_true rfl) (Nat.le_of_ble_eq_true rfl) (Nat.le_of_ble_eq_true rfl) ⟨rfl, ⟨_, rfl, ha_rng _⟩, ⟨_, rfl, ha_rng _⟩, ⟨_, rfl, ha_rng _⟩, trivial⟩ rfl (by omega) (fun rv2 M2 hr2 hI2 hw2 => ?_)
  obtain ⟨z2, rfl⟩ := hl_ri hr2
  show hl_R p l e s m below meth c b D ad t0 t1 t2 640 (hl_L i x5 x6 x7) [.int z2] M2 (n - 0 - 0)
  refine hl_sN C [641, 1796] (pc' := 1796) (L' := (hl_L i x5 x6 x7)) (st' := []) rfl rfl ?_
  exact hl_mono (by omega) (kk M2 _ _ _ hI2 (hl_Aq hA hw1 hw2 rfl rfl (by decide) (by decide)))
set_option maxRecDepth 10000 in
theorem hl_k12 (C : hl_C p l s m meth c b N xs D ad t0 t1 t2) {M : hzMem} {n : Nat} {i : Int32} {x5 x6 x7 : Option Value} (hI : hl_I M) (hA : hl_St M) (h1 : vp_in (i + Int32.ofInt 1) N) (h2 : vp_in (i + Int32.ofInt 2) N) (h3 : vp_in (i + Int32.ofInt 3) N) (h4 : vp_in (i + Int32.ofInt 4) N) (h5 : vp_in (i + Int32.ofInt 5) N) (hn : 1 ≤ n) (kk : ∀ (M' : hzMem) (y5 y6 y7 : Option Value), hl_I M' → hl_St M' → hl_R p l e s m below meth c b D ad t0 t1 t2 1796 (hl_L i y5 y6 y7) [] M' (n - 1)) : hl_R p l e s m below meth c b D ad t0 t1 t2 644 (hl_L i x5 x6 x7) [] M n := by
  refine hl_sN C [645, 646, 648, 649, 650] (pc' := 650) (L' := (hl_L i x5 x6 x7)) (st' := [.int (i + (Int32.ofInt 1)), .ref 60, .ref 0]) rfl rfl ?_
  refine hl_ld C rfl h1 ?_
  show hl_R p l e s m below meth c b D ad t0 t1 t2 651 (hl_L i x5 x6 x7) [.int (xs (i + Int32.ofInt 1).toNatClampNeg), .ref 0] M (n)
  refine hl_sN C [652, 654, 655, 656] (pc' := 656) (L' := (hl_L i x5 x6 x7)) (st' := [.int (i + (Int32.ofInt 2)), .ref 60, .int (xs (i + Int32.ofInt 1).toNatClampNeg), .ref 0]) rfl rfl ?_
  refine hl_ld C rfl h2 ?_
  show hl_R p l e s m below meth c b D ad t0 t1 t2 657 (hl_L i x5 x6 x7) [.int (xs (i + Int32.ofInt 2).toNatClampNeg), .int (xs (i + Int32.ofInt 1).toNatClampNeg), .ref 0] M (n)
  refine hl_cv C 146 rfl rfl rfl rfl (by decide) hI (hl_r0 hI [.int (xs (i + Int32.ofInt 1).toNatClampNeg), .int (xs (i + Int32.ofInt 2).toNatClampNeg)]) (Nat.le_of_ble_eq_true rfl) (Nat.le_of_ble_eq_true rfl) (Nat.le_of_ble_eq_true rfl) ⟨rfl, ⟨_, rfl, ha_rng _⟩, ⟨_, rfl, ha_rng _⟩, trivial⟩ rfl (by omega) (fun rv1 M1 hr1 hI1 hw1 => ?_)
  obtain ⟨z1, rfl⟩ := hl_ri hr1
  show hl_R p l e s m below meth c b D ad t0 t1 t2 660 (hl_L i x5 x6 x7) [.int z1] M1 (n - 0)
  refine hl_sN C [661, 662, 663, 665, 666, 667] (pc' := 667) (L' := (hl_L i x5 x6 x7)) (st' := [.int (i + (Int32.ofInt 1)), .ref 60, .ref 47]) rfl rfl ?_
  refine hl_ld C rfl h1 ?_
  show hl_R p l e s m below meth c b D ad t0 t1 t2 668 (hl_L i x5 x6 x7) [.int (xs (i + Int32.ofInt 1).toNatClampNeg), .ref 47] M1 (n - 0)
  refine hl_sN C [669, 671, 672, 673] (pc' := 673) (L' := (hl_L i x5 x6 x7)) (st' := [.int (i + (Int32.ofInt 2)), .ref 60, .int (xs (i + Int32.ofInt 1).toNatClampNeg), .ref 47]) rfl rfl ?_
  refine hl_ld C rfl h2 ?_
  show hl_R p l e s m below meth c b D ad t0 t1 t2 674 (hl_L i x5 x6 x7) [.int (xs (i + Int32.ofInt 2).toNatClampNeg), .int (xs (i + Int32.ofInt 1).toNatClampNeg), .ref 47] M1 (n - 0)
  refine hl_cv C 217 rfl rfl rfl rfl (by decide) hI1 (hl_r47 hI1 [.int (xs (i + Int32.ofInt 1).toNatClampNeg), .int (xs (i + Int32.ofInt 2).toNatClampNeg)]) (Nat.le_of_ble_eq_true rfl) (Nat.le_of_ble_eq_true rfl) (Nat.le_of_ble_eq_true rfl) ⟨rfl, ⟨_, rfl, ha_rng _⟩, ⟨_, rfl, ha_rng _⟩, trivial⟩ rfl (by omega) (fun rv2 M2 hr2 hI2 hw2 => ?_)
  obtain ⟨z2, rfl⟩ := hl_ri hr2
  show hl_R p l e s m below meth c b D ad t0 t1 t2 677 (hl_L i x5 x6 x7) [.int z2] M2 (n - 0 - 0)
  refine hl_sN C [678, 1796] (pc' := 1796) (L' := (hl_L i x5 x6 x7)) (st' := []) rfl rfl ?_
  exact hl_mono (by omega) (kk M2 _ _ _ hI2 (hl_Aq hA hw1 hw2 rfl rfl (by decide) (by decide)))
set_option maxRecDepth 10000 in
theorem hl_k13 (C : hl_C p l s m meth c b N xs D ad t0 t1 t2) {M : hzMem} {n : Nat} {i : Int32} {x5 x6 x7 : Option Value} (hI : hl_I M) (hA : hl_St M) (h1 : vp_in (i + Int32.ofInt 1) N) (h2 : vp_in (i + Int32.ofInt 2) N) (h3 : vp_in (i + Int32.ofInt 3) N) (h4 : vp_in (i + Int32.ofInt 4) N) (h5 : vp_in (i + Int32.ofInt 5) N) (hn : 1 ≤ n) (kk : ∀ (M' : hzMem) (y5 y6 y7 : Option Value), hl_I M' → hl_St M' → hl_R p l e s m below meth c b D ad t0 t1 t2 1796 (hl_L i y5 y6 y7) [] M' (n - 1)) : hl_R p l e s m below meth c b D ad t0 t1 t2 681 (hl_L i x5 x6 x7) [] M n := by
  refine hl_sN C [682, 683, 685, 686, 687] (pc' := 687) (L' := (hl_L i x5 x6 x7)) (st' := [.int (i + (Int32.ofInt 1)), .ref 60, .ref 0]) rfl rfl ?_
  refine hl_ld C rfl h1 ?_
  show hl_R p l e s m below meth c b D ad t0 t1 t2 688 (hl_L i x5 x6 x7) [.int (xs (i + Int32.ofInt 1).toNatClampNeg), .ref 0] M (n)
  refine hl_sN C [689, 691, 692, 693] (pc' := 693) (L' := (hl_L i x5 x6 x7)) (st' := [.int (i + (Int32.ofInt 2)), .ref 60, .int (xs (i + Int32.ofInt 1).toNatClampNeg), .ref 0]) rfl rfl ?_
  refine hl_ld C rfl h2 ?_
  show hl_R p l e s m below meth c b D ad t0 t1 t2 694 (hl_L i x5 x6 x7) [.int (xs (i + Int32.ofInt 2).toNatClampNeg), .int (xs (i + Int32.ofInt 1).toNatClampNeg), .ref 0] M (n)
  refine hl_cv C 147 rfl rfl rfl rfl (by decide) hI (hl_r0 hI [.int (xs (i + Int32.ofInt 1).toNatClampNeg), .int (xs (i + Int32.ofInt 2).toNatClampNeg)]) (Nat.le_of_ble_eq_true rfl) (Nat.le_of_ble_eq_true rfl) (Nat.le_of_ble_eq_true rfl) ⟨rfl, ⟨_, rfl, ha_rng _⟩, ⟨_, rfl, ha_rng _⟩, trivial⟩ rfl (by omega) (fun rv1 M1 hr1 hI1 hw1 => ?_)
  obtain ⟨z1, rfl⟩ := hl_ri hr1
  show hl_R p l e s m below meth c b D ad t0 t1 t2 697 (hl_L i x5 x6 x7) [.int z1] M1 (n - 0)
  refine hl_sN C [698, 699, 700, 702, 703, 704] (pc' := 704) (L' := (hl_L i x5 x6 x7)) (st' := [.int (i + (Int32.ofInt 1)), .ref 60, .ref 47]) rfl rfl ?_
  refine hl_ld C rfl h1 ?_
  show hl_R p l e s m below meth c b D ad t0 t1 t2 705 (hl_L i x5 x6 x7) [.int (xs (i + Int32.ofInt 1).toNatClampNeg), .ref 47] M1 (n - 0)
  refine hl_sN C [706, 708, 709, 710] (pc' := 710) (L' := (hl_L i x5 x6 x7)) (st' := [.int (i + (Int32.ofInt 2)), .ref 60, .int (xs (i + Int32.ofInt 1).toNatClampNeg), .ref 47]) rfl rfl ?_
  refine hl_ld C rfl h2 ?_
  show hl_R p l e s m below meth c b D ad t0 t1 t2 711 (hl_L i x5 x6 x7) [.int (xs (i + Int32.ofInt 2).toNatClampNeg), .int (xs (i + Int32.ofInt 1).toNatClampNeg), .ref 47] M1 (n - 0)
  refine hl_cv C 218 rfl rfl rfl rfl (by decide) hI1 (hl_r47 hI1 [.int (xs (i + Int32.ofInt 1).toNatClampNeg), .int (xs (i + Int32.ofInt 2).toNatClampNeg)]) (Nat.le_of_ble_eq_true rfl) (Nat.le_of_ble_eq_true rfl) (Nat.le_of_ble_eq_true rfl) ⟨rfl, ⟨_, rfl, ha_rng _⟩, ⟨_, rfl, ha_rng _⟩, trivial⟩ rfl (by omega) (fun rv2 M2 hr2 hI2 hw2 => ?_)
  obtain ⟨z2, rfl⟩ := hl_ri hr2
  show hl_R p l e s m below meth c b D ad t0 t1 t2 714 (hl_L i x5 x6 x7) [.int z2] M2 (n - 0 - 0)
  refine hl_sN C [715, 1796] (pc' := 1796) (L' := (hl_L i x5 x6 x7)) (st' := []) rfl rfl ?_
  exact hl_mono (by omega) (kk M2 _ _ _ hI2 (hl_Aq hA hw1 hw2 rfl rfl (by decide) (by decide)))
set_option maxRecDepth 10000 in
theorem hl_k14 (C : hl_C p l s m meth c b N xs D ad t0 t1 t2) {M : hzMem} {n : Nat} {i : Int32} {x5 x6 x7 : Option Value} (hI : hl_I M) (hA : hl_St M) (h1 : vp_in (i + Int32.ofInt 1) N) (h2 : vp_in (i + Int32.ofInt 2) N) (h3 : vp_in (i + Int32.ofInt 3) N) (h4 : vp_in (i + Int32.ofInt 4) N) (h5 : vp_in (i + Int32.ofInt 5) N) (hn : 1 ≤ n) (kk : ∀ (M' : hzMem) (y5 y6 y7 : Option Value), hl_I M' → hl_St M' → hl_R p l e s m below meth c b D ad t0 t1 t2 1796 (hl_L i y5 y6 y7) [] M' (n - 1)) : hl_R p l e s m below meth c b D ad t0 t1 t2 718 (hl_L i x5 x6 x7) [] M n := by
  refine hl_sN C [719, 720, 722, 723, 724] (pc' := 724) (L' := (hl_L i x5 x6 x7)) (st' := [.int (i + (Int32.ofInt 1)), .ref 60, .ref 0]) rfl rfl ?_
  refine hl_ld C rfl h1 ?_
  show hl_R p l e s m below meth c b D ad t0 t1 t2 725 (hl_L i x5 x6 x7) [.int (xs (i + Int32.ofInt 1).toNatClampNeg), .ref 0] M (n)
  refine hl_cv C 148 rfl rfl rfl rfl (by decide) hI (hl_r0 hI [.int (xs (i + Int32.ofInt 1).toNatClampNeg)]) (Nat.le_of_ble_eq_true rfl) (Nat.le_of_ble_eq_true rfl) (Nat.le_of_ble_eq_true rfl) ⟨rfl, ⟨_, rfl, ha_rng _⟩, trivial⟩ rfl (by omega) (fun rv1 M1 hr1 hI1 hw1 => ?_)
  obtain ⟨z1, rfl⟩ := hl_ri hr1
  show hl_R p l e s m below meth c b D ad t0 t1 t2 728 (hl_L i x5 x6 x7) [.int z1] M1 (n - 0)
  refine hl_sN C [729, 730, 731, 733, 734, 735] (pc' := 735) (L' := (hl_L i x5 x6 x7)) (st' := [.int (i + (Int32.ofInt 1)), .ref 60, .ref 47]) rfl rfl ?_
  refine hl_ld C rfl h1 ?_
  show hl_R p l e s m below meth c b D ad t0 t1 t2 736 (hl_L i x5 x6 x7) [.int (xs (i + Int32.ofInt 1).toNatClampNeg), .ref 47] M1 (n - 0)
  refine hl_cv C 219 rfl rfl rfl rfl (by decide) hI1 (hl_r47 hI1 [.int (xs (i + Int32.ofInt 1).toNatClampNeg)]) (Nat.le_of_ble_eq_true rfl) (Nat.le_of_ble_eq_true rfl) (Nat.le_of_ble_eq_true rfl) ⟨rfl, ⟨_, rfl, ha_rng _⟩, trivial⟩ rfl (by omega) (fun rv2 M2 hr2 hI2 hw2 => ?_)
  obtain ⟨z2, rfl⟩ := hl_ri hr2
  show hl_R p l e s m below meth c b D ad t0 t1 t2 739 (hl_L i x5 x6 x7) [.int z2] M2 (n - 0 - 0)
  refine hl_sN C [740, 1796] (pc' := 1796) (L' := (hl_L i x5 x6 x7)) (st' := []) rfl rfl ?_
  exact hl_mono (by omega) (kk M2 _ _ _ hI2 (hl_Aq hA hw1 hw2 rfl rfl (by decide) (by decide)))
set_option maxRecDepth 10000 in
theorem hl_k15 (C : hl_C p l s m meth c b N xs D ad t0 t1 t2) {M : hzMem} {n : Nat} {i : Int32} {x5 x6 x7 : Option Value} (hI : hl_I M) (hA : hl_St M) (h1 : vp_in (i + Int32.ofInt 1) N) (h2 : vp_in (i + Int32.ofInt 2) N) (h3 : vp_in (i + Int32.ofInt 3) N) (h4 : vp_in (i + Int32.ofInt 4) N) (h5 : vp_in (i + Int32.ofInt 5) N) (hn : 1 ≤ n) (kk : ∀ (M' : hzMem) (y5 y6 y7 : Option Value), hl_I M' → hl_St M' → hl_R p l e s m below meth c b D ad t0 t1 t2 1796 (hl_L i y5 y6 y7) [] M' (n - 1)) : hl_R p l e s m below meth c b D ad t0 t1 t2 743 (hl_L i x5 x6 x7) [] M n := by
  refine hl_sN C [744, 745, 747, 748, 749] (pc' := 749) (L' := (hl_L i x5 x6 x7)) (st' := [.int (i + (Int32.ofInt 1)), .ref 60, .ref 0]) rfl rfl ?_
  refine hl_ld C rfl h1 ?_
  show hl_R p l e s m below meth c b D ad t0 t1 t2 750 (hl_L i x5 x6 x7) [.int (xs (i + Int32.ofInt 1).toNatClampNeg), .ref 0] M (n)
  refine hl_cv C 149 rfl rfl rfl rfl (by decide) hI (hl_r0 hI [.int (xs (i + Int32.ofInt 1).toNatClampNeg)]) (Nat.le_of_ble_eq_true rfl) (Nat.le_of_ble_eq_true rfl) (Nat.le_of_ble_eq_true rfl) ⟨rfl, ⟨_, rfl, ha_rng _⟩, trivial⟩ rfl (by omega) (fun rv1 M1 hr1 hI1 hw1 => ?_)
  obtain ⟨z1, rfl⟩ := hl_ri hr1
  show hl_R p l e s m below meth c b D ad t0 t1 t2 753 (hl_L i x5 x6 x7) [.int z1] M1 (n - 0)
  refine hl_sN C [754, 755, 756, 758, 759, 760] (pc' := 760) (L' := (hl_L i x5 x6 x7)) (st' := [.int (i + (Int32.ofInt 1)), .ref 60, .ref 47]) rfl rfl ?_
  refine hl_ld C rfl h1 ?_
  show hl_R p l e s m below meth c b D ad t0 t1 t2 761 (hl_L i x5 x6 x7) [.int (xs (i + Int32.ofInt 1).toNatClampNeg), .ref 47] M1 (n - 0)
  refine hl_cv C 220 rfl rfl rfl rfl (by decide) hI1 (hl_r47 hI1 [.int (xs (i + Int32.ofInt 1).toNatClampNeg)]) (Nat.le_of_ble_eq_true rfl) (Nat.le_of_ble_eq_true rfl) (Nat.le_of_ble_eq_true rfl) ⟨rfl, ⟨_, rfl, ha_rng _⟩, trivial⟩ rfl (by omega) (fun rv2 M2 hr2 hI2 hw2 => ?_)
  obtain ⟨z2, rfl⟩ := hl_ri hr2
  show hl_R p l e s m below meth c b D ad t0 t1 t2 764 (hl_L i x5 x6 x7) [.int z2] M2 (n - 0 - 0)
  refine hl_sN C [765, 1796] (pc' := 1796) (L' := (hl_L i x5 x6 x7)) (st' := []) rfl rfl ?_
  exact hl_mono (by omega) (kk M2 _ _ _ hI2 (hl_Aq hA hw1 hw2 rfl rfl (by decide) (by decide)))
set_option maxRecDepth 10000 in
theorem hl_k16 (C : hl_C p l s m meth c b N xs D ad t0 t1 t2) {M : hzMem} {n : Nat} {i : Int32} {x5 x6 x7 : Option Value} (hI : hl_I M) (hA : hl_St M) (h1 : vp_in (i + Int32.ofInt 1) N) (h2 : vp_in (i + Int32.ofInt 2) N) (h3 : vp_in (i + Int32.ofInt 3) N) (h4 : vp_in (i + Int32.ofInt 4) N) (h5 : vp_in (i + Int32.ofInt 5) N) (hn : 1 ≤ n) (kk : ∀ (M' : hzMem) (y5 y6 y7 : Option Value), hl_I M' → hl_St M' → hl_R p l e s m below meth c b D ad t0 t1 t2 1796 (hl_L i y5 y6 y7) [] M' (n - 1)) : hl_R p l e s m below meth c b D ad t0 t1 t2 768 (hl_L i x5 x6 x7) [] M n := by
  refine hl_sN C [769, 770, 772, 773, 774] (pc' := 774) (L' := (hl_L i x5 x6 x7)) (st' := [.int (i + (Int32.ofInt 1)), .ref 60, .ref 0]) rfl rfl ?_
  refine hl_ld C rfl h1 ?_
  show hl_R p l e s m below meth c b D ad t0 t1 t2 775 (hl_L i x5 x6 x7) [.int (xs (i + Int32.ofInt 1).toNatClampNeg), .ref 0] M (n)
  refine hl_sN C [776, 778, 779, 780] (pc' := 780) (L' := (hl_L i x5 x6 x7)) (st' := [.int (i + (Int32.ofInt 2)), .ref 60, .int (xs (i + Int32.ofInt 1).toNatClampNeg), .ref 0]) rfl rfl ?_
  refine hl_ld C rfl h2 ?_
  show hl_R p l e s m below meth c b D ad t0 t1 t2 781 (hl_L i x5 x6 x7) [.int (xs (i + Int32.ofInt 2).toNatClampNeg), .int (xs (i + Int32.ofInt 1).toNatClampNeg), .ref 0] M (n)
  refine hl_cv C 150 rfl rfl rfl rfl (by decide) hI (hl_r0 hI [.int (xs (i + Int32.ofInt 1).toNatClampNeg), .int (xs (i + Int32.ofInt 2).toNatClampNeg)]) (Nat.le_of_ble_eq_true rfl) (Nat.le_of_ble_eq_true rfl) (Nat.le_of_ble_eq_true rfl) ⟨rfl, ⟨_, rfl, ha_rng _⟩, ⟨_, rfl, ha_rng _⟩, trivial⟩ rfl (by omega) (fun rv1 M1 hr1 hI1 hw1 => ?_)
  obtain ⟨z1, rfl⟩ := hl_ri hr1
  show hl_R p l e s m below meth c b D ad t0 t1 t2 784 (hl_L i x5 x6 x7) [.int z1] M1 (n - 0)
  refine hl_sN C [785, 786, 787, 789, 790, 791] (pc' := 791) (L' := (hl_L i x5 x6 x7)) (st' := [.int (i + (Int32.ofInt 1)), .ref 60, .ref 47]) rfl rfl ?_
  refine hl_ld C rfl h1 ?_
  show hl_R p l e s m below meth c b D ad t0 t1 t2 792 (hl_L i x5 x6 x7) [.int (xs (i + Int32.ofInt 1).toNatClampNeg), .ref 47] M1 (n - 0)
  refine hl_sN C [793, 795, 796, 797] (pc' := 797) (L' := (hl_L i x5 x6 x7)) (st' := [.int (i + (Int32.ofInt 2)), .ref 60, .int (xs (i + Int32.ofInt 1).toNatClampNeg), .ref 47]) rfl rfl ?_
  refine hl_ld C rfl h2 ?_
  show hl_R p l e s m below meth c b D ad t0 t1 t2 798 (hl_L i x5 x6 x7) [.int (xs (i + Int32.ofInt 2).toNatClampNeg), .int (xs (i + Int32.ofInt 1).toNatClampNeg), .ref 47] M1 (n - 0)
  refine hl_cv C 221 rfl rfl rfl rfl (by decide) hI1 (hl_r47 hI1 [.int (xs (i + Int32.ofInt 1).toNatClampNeg), .int (xs (i + Int32.ofInt 2).toNatClampNeg)]) (Nat.le_of_ble_eq_true rfl) (Nat.le_of_ble_eq_true rfl) (Nat.le_of_ble_eq_true rfl) ⟨rfl, ⟨_, rfl, ha_rng _⟩, ⟨_, rfl, ha_rng _⟩, trivial⟩ rfl (by omega) (fun rv2 M2 hr2 hI2 hw2 => ?_)
  obtain ⟨z2, rfl⟩ := hl_ri hr2
  show hl_R p l e s m below meth c b D ad t0 t1 t2 801 (hl_L i x5 x6 x7) [.int z2] M2 (n - 0 - 0)
  refine hl_sN C [802, 1796] (pc' := 1796) (L' := (hl_L i x5 x6 x7)) (st' := []) rfl rfl ?_
  exact hl_mono (by omega) (kk M2 _ _ _ hI2 (hl_Aq hA hw1 hw2 rfl rfl (by decide) (by decide)))
set_option maxRecDepth 10000 in
theorem hl_k17 (C : hl_C p l s m meth c b N xs D ad t0 t1 t2) {M : hzMem} {n : Nat} {i : Int32} {x5 x6 x7 : Option Value} (hI : hl_I M) (hA : hl_St M) (h1 : vp_in (i + Int32.ofInt 1) N) (h2 : vp_in (i + Int32.ofInt 2) N) (h3 : vp_in (i + Int32.ofInt 3) N) (h4 : vp_in (i + Int32.ofInt 4) N) (h5 : vp_in (i + Int32.ofInt 5) N) (hn : 1 ≤ n) (kk : ∀ (M' : hzMem) (y5 y6 y7 : Option Value), hl_I M' → hl_St M' → hl_R p l e s m below meth c b D ad t0 t1 t2 1796 (hl_L i y5 y6 y7) [] M' (n - 1)) : hl_R p l e s m below meth c b D ad t0 t1 t2 805 (hl_L i x5 x6 x7) [] M n := by
  refine hl_sN C [806, 807, 809, 810, 811] (pc' := 811) (L' := (hl_L i x5 x6 x7)) (st' := [.int (i + (Int32.ofInt 1)), .ref 60, .ref 0]) rfl rfl ?_
  refine hl_ld C rfl h1 ?_
  show hl_R p l e s m below meth c b D ad t0 t1 t2 812 (hl_L i x5 x6 x7) [.int (xs (i + Int32.ofInt 1).toNatClampNeg), .ref 0] M (n)
  refine hl_cv C 151 rfl rfl rfl rfl (by decide) hI (hl_r0 hI [.int (xs (i + Int32.ofInt 1).toNatClampNeg)]) (Nat.le_of_ble_eq_true rfl) (Nat.le_of_ble_eq_true rfl) (Nat.le_of_ble_eq_true rfl) ⟨rfl, ⟨_, rfl, ha_rng _⟩, trivial⟩ rfl (by omega) (fun rv1 M1 hr1 hI1 hw1 => ?_)
  obtain ⟨z1, rfl⟩ := hl_ri hr1
  show hl_R p l e s m below meth c b D ad t0 t1 t2 815 (hl_L i x5 x6 x7) [.int z1] M1 (n - 0)
  refine hl_sN C [816, 817, 818, 820, 821, 822] (pc' := 822) (L' := (hl_L i x5 x6 x7)) (st' := [.int (i + (Int32.ofInt 1)), .ref 60, .ref 47]) rfl rfl ?_
  refine hl_ld C rfl h1 ?_
  show hl_R p l e s m below meth c b D ad t0 t1 t2 823 (hl_L i x5 x6 x7) [.int (xs (i + Int32.ofInt 1).toNatClampNeg), .ref 47] M1 (n - 0)
  refine hl_cv C 222 rfl rfl rfl rfl (by decide) hI1 (hl_r47 hI1 [.int (xs (i + Int32.ofInt 1).toNatClampNeg)]) (Nat.le_of_ble_eq_true rfl) (Nat.le_of_ble_eq_true rfl) (Nat.le_of_ble_eq_true rfl) ⟨rfl, ⟨_, rfl, ha_rng _⟩, trivial⟩ rfl (by omega) (fun rv2 M2 hr2 hI2 hw2 => ?_)
  obtain ⟨z2, rfl⟩ := hl_ri hr2
  show hl_R p l e s m below meth c b D ad t0 t1 t2 826 (hl_L i x5 x6 x7) [.int z2] M2 (n - 0 - 0)
  refine hl_sN C [827, 1796] (pc' := 1796) (L' := (hl_L i x5 x6 x7)) (st' := []) rfl rfl ?_
  exact hl_mono (by omega) (kk M2 _ _ _ hI2 (hl_Aq hA hw1 hw2 rfl rfl (by decide) (by decide)))
set_option maxRecDepth 10000 in
theorem hl_k18 (C : hl_C p l s m meth c b N xs D ad t0 t1 t2) {M : hzMem} {n : Nat} {i : Int32} {x5 x6 x7 : Option Value} (hI : hl_I M) (hA : hl_St M) (h1 : vp_in (i + Int32.ofInt 1) N) (h2 : vp_in (i + Int32.ofInt 2) N) (h3 : vp_in (i + Int32.ofInt 3) N) (h4 : vp_in (i + Int32.ofInt 4) N) (h5 : vp_in (i + Int32.ofInt 5) N) (hn : 1 ≤ n) (kk : ∀ (M' : hzMem) (y5 y6 y7 : Option Value), hl_I M' → hl_St M' → hl_R p l e s m below meth c b D ad t0 t1 t2 1796 (hl_L i y5 y6 y7) [] M' (n - 1)) : hl_R p l e s m below meth c b D ad t0 t1 t2 830 (hl_L i x5 x6 x7) [] M n := by
  refine hl_sN C [831, 832, 834, 835, 836] (pc' := 836) (L' := (hl_L i x5 x6 x7)) (st' := [.int (i + (Int32.ofInt 1)), .ref 60, .ref 0]) rfl rfl ?_
  refine hl_ld C rfl h1 ?_
  show hl_R p l e s m below meth c b D ad t0 t1 t2 837 (hl_L i x5 x6 x7) [.int (xs (i + Int32.ofInt 1).toNatClampNeg), .ref 0] M (n)
  refine hl_cv C 152 rfl rfl rfl rfl (by decide) hI (hl_r0 hI [.int (xs (i + Int32.ofInt 1).toNatClampNeg)]) (Nat.le_of_ble_eq_true rfl) (Nat.le_of_ble_eq_true rfl) (Nat.le_of_ble_eq_true rfl) ⟨rfl, ⟨_, rfl, ha_rng _⟩, trivial⟩ rfl (by omega) (fun rv1 M1 hr1 hI1 hw1 => ?_)
  obtain ⟨z1, rfl⟩ := hl_ri hr1
  show hl_R p l e s m below meth c b D ad t0 t1 t2 840 (hl_L i x5 x6 x7) [.int z1] M1 (n - 0)
  refine hl_sN C [841, 842, 843, 845, 846, 847] (pc' := 847) (L' := (hl_L i x5 x6 x7)) (st' := [.int (i + (Int32.ofInt 1)), .ref 60, .ref 47]) rfl rfl ?_
  refine hl_ld C rfl h1 ?_
  show hl_R p l e s m below meth c b D ad t0 t1 t2 848 (hl_L i x5 x6 x7) [.int (xs (i + Int32.ofInt 1).toNatClampNeg), .ref 47] M1 (n - 0)
  refine hl_cv C 223 rfl rfl rfl rfl (by decide) hI1 (hl_r47 hI1 [.int (xs (i + Int32.ofInt 1).toNatClampNeg)]) (Nat.le_of_ble_eq_true rfl) (Nat.le_of_ble_eq_true rfl) (Nat.le_of_ble_eq_true rfl) ⟨rfl, ⟨_, rfl, ha_rng _⟩, trivial⟩ rfl (by omega) (fun rv2 M2 hr2 hI2 hw2 => ?_)
  obtain ⟨z2, rfl⟩ := hl_ri hr2
  show hl_R p l e s m below meth c b D ad t0 t1 t2 851 (hl_L i x5 x6 x7) [.int z2] M2 (n - 0 - 0)
  refine hl_sN C [852, 1796] (pc' := 1796) (L' := (hl_L i x5 x6 x7)) (st' := []) rfl rfl ?_
  exact hl_mono (by omega) (kk M2 _ _ _ hI2 (hl_Aq hA hw1 hw2 rfl rfl (by decide) (by decide)))
set_option maxRecDepth 10000 in
theorem hl_k19 (C : hl_C p l s m meth c b N xs D ad t0 t1 t2) {M : hzMem} {n : Nat} {i : Int32} {x5 x6 x7 : Option Value} (hI : hl_I M) (hA : hl_St M) (h1 : vp_in (i + Int32.ofInt 1) N) (h2 : vp_in (i + Int32.ofInt 2) N) (h3 : vp_in (i + Int32.ofInt 3) N) (h4 : vp_in (i + Int32.ofInt 4) N) (h5 : vp_in (i + Int32.ofInt 5) N) (hn : 1 ≤ n) (kk : ∀ (M' : hzMem) (y5 y6 y7 : Option Value), hl_I M' → hl_St M' → hl_R p l e s m below meth c b D ad t0 t1 t2 1796 (hl_L i y5 y6 y7) [] M' (n - 1)) : hl_R p l e s m below meth c b D ad t0 t1 t2 855 (hl_L i x5 x6 x7) [] M n := by
  refine hl_sN C [856, 857, 859, 860, 861] (pc' := 861) (L' := (hl_L i x5 x6 x7)) (st' := [.int (i + (Int32.ofInt 1)), .ref 60, .ref 0]) rfl rfl ?_
  refine hl_ld C rfl h1 ?_
  show hl_R p l e s m below meth c b D ad t0 t1 t2 862 (hl_L i x5 x6 x7) [.int (xs (i + Int32.ofInt 1).toNatClampNeg), .ref 0] M (n)
  refine hl_sN C [863, 865, 866, 867] (pc' := 867) (L' := (hl_L i x5 x6 x7)) (st' := [.int (i + (Int32.ofInt 2)), .ref 60, .int (xs (i + Int32.ofInt 1).toNatClampNeg), .ref 0]) rfl rfl ?_
  refine hl_ld C rfl h2 ?_
  show hl_R p l e s m below meth c b D ad t0 t1 t2 868 (hl_L i x5 x6 x7) [.int (xs (i + Int32.ofInt 2).toNatClampNeg), .int (xs (i + Int32.ofInt 1).toNatClampNeg), .ref 0] M (n)
  refine hl_sN C [869, 871, 872, 873] (pc' := 873) (L' := (hl_L i x5 x6 x7)) (st' := [.int (i + (Int32.ofInt 3)), .ref 60, .int (xs (i + Int32.ofInt 2).toNatClampNeg), .int (xs (i + Int32.ofInt 1).toNatClampNeg), .ref 0]) rfl rfl ?_
  refine hl_ld C rfl h3 ?_
  show hl_R p l e s m below meth c b D ad t0 t1 t2 874 (hl_L i x5 x6 x7) [.int (xs (i + Int32.ofInt 3).toNatClampNeg), .int (xs (i + Int32.ofInt 2).toNatClampNeg), .int (xs (i + Int32.ofInt 1).toNatClampNeg), .ref 0] M (n)
  refine hl_cv C 153 rfl rfl rfl rfl (by decide) hI (hl_r0 hI [.int (xs (i + Int32.ofInt 1).toNatClampNeg), .int (xs (i + Int32.ofInt 2).toNatClampNeg), .int (xs (i + Int32.ofInt 3).toNatClampNeg)]) (Nat.le_of_ble_eq_true rfl) (Nat.le_of_ble_eq_true rfl) (Nat.le_of_ble_eq_true rfl) ⟨rfl, ⟨_, rfl, ha_rng _⟩, ⟨_, rfl, ha_rng _⟩, ⟨_, rfl, ha_rng _⟩, trivial⟩ rfl (by omega) (fun rv1 M1 hr1 hI1 hw1 => ?_)
  obtain ⟨z1, rfl⟩ := hl_ri hr1
  show hl_R p l e s m below meth c b D ad t0 t1 t2 877 (hl_L i x5 x6 x7) [.int z1] M1 (n - 0)
  refine hl_sN C [878, 879, 880, 882, 883, 884] (pc' := 884) (L' := (hl_L i x5 x6 x7)) (st' := [.int (i + (Int32.ofInt 1)), .ref 60, .ref 47]) rfl rfl ?_
  refine hl_ld C rfl h1 ?_
  show hl_R p l e s m below meth c b D ad t0 t1 t2 885 (hl_L i x5 x6 x7) [.int (xs (i + Int32.ofInt 1).toNatClampNeg), .ref 47] M1 (n - 0)
  refine hl_sN C [886, 888, 889, 890] (pc' := 890) (L' := (hl_L i x5 x6 x7)) (st' := [.int (i + (Int32.ofInt 2)), .ref 60, .int (xs (i + Int32.ofInt 1).toNatClampNeg), .ref 47]) rfl rfl ?_
  refine hl_ld C rfl h2 ?_
  show hl_R p l e s m below meth c b D ad t0 t1 t2 891 (hl_L i x5 x6 x7) [.int (xs (i + Int32.ofInt 2).toNatClampNeg), .int (xs (i + Int32.ofInt 1).toNatClampNeg), .ref 47] M1 (n - 0)
  refine hl_sN C [892, 894, 895, 896] (pc' := 896) (L' := (hl_L i x5 x6 x7)) (st' := [.int (i + (Int32.ofInt 3)), .ref 60, .int (xs (i + Int32.ofInt 2).toNatClampNeg), .int (xs (i + Int32.ofInt 1).toNatClampNeg), .ref 47]) rfl rfl ?_
  refine hl_ld C rfl h3 ?_
  show hl_R p l e s m below meth c b D ad t0 t1 t2 897 (hl_L i x5 x6 x7) [.int (xs (i + Int32.ofInt 3).toNatClampNeg), .int (xs (i + Int32.ofInt 2).toNatClampNeg), .int (xs (i + Int32.ofInt 1).toNatClampNeg), .ref 47] M1 (n - 0)
  refine hl_cv C 224 rfl rfl rfl rfl (by decide) hI1 (hl_r47 hI1 [.int (xs (i + Int32.ofInt 1).toNatClampNeg), .int (xs (i + Int32.ofInt 2).toNatClampNeg), .int (xs (i + Int32.ofInt 3).toNatClampNeg)]) (Nat.le_of_ble_eq_true rfl) (Nat.le_of_ble_eq_true rfl) (Nat.le_of_ble_eq_true rfl) ⟨rfl, ⟨_, rfl, ha_rng _⟩, ⟨_, rfl, ha_rng _⟩, ⟨_, rfl, ha_rng _⟩, trivial⟩ rfl (by omega) (fun rv2 M2 hr2 hI2 hw2 => ?_)
  obtain ⟨z2, rfl⟩ := hl_ri hr2
  show hl_R p l e s m below meth c b D ad t0 t1 t2 900 (hl_L i x5 x6 x7) [.int z2] M2 (n - 0 - 0)
  refine hl_sN C [901, 1796] (pc' := 1796) (L' := (hl_L i x5 x6 x7)) (st' := []) rfl rfl ?_
  exact hl_mono (by omega) (kk M2 _ _ _ hI2 (hl_Aq hA hw1 hw2 rfl rfl (by decide) (by decide)))
set_option maxRecDepth 10000 in
theorem hl_k20 (C : hl_C p l s m meth c b N xs D ad t0 t1 t2) {M : hzMem} {n : Nat} {i : Int32} {x5 x6 x7 : Option Value} (hI : hl_I M) (hA : hl_St M) (h1 : vp_in (i + Int32.ofInt 1) N) (h2 : vp_in (i + Int32.ofInt 2) N) (h3 : vp_in (i + Int32.ofInt 3) N) (h4 : vp_in (i + Int32.ofInt 4) N) (h5 : vp_in (i + Int32.ofInt 5) N) (hn : 1 ≤ n) (kk : ∀ (M' : hzMem) (y5 y6 y7 : Option Value), hl_I M' → hl_St M' → hl_R p l e s m below meth c b D ad t0 t1 t2 1796 (hl_L i y5 y6 y7) [] M' (n - 1)) : hl_R p l e s m below meth c b D ad t0 t1 t2 904 (hl_L i x5 x6 x7) [] M n := by
  refine hl_sN C [905, 906, 908, 909, 910] (pc' := 910) (L' := (hl_L i x5 x6 x7)) (st' := [.int (i + (Int32.ofInt 1)), .ref 60, .ref 0]) rfl rfl ?_
  refine hl_ld C rfl h1 ?_
  show hl_R p l e s m below meth c b D ad t0 t1 t2 911 (hl_L i x5 x6 x7) [.int (xs (i + Int32.ofInt 1).toNatClampNeg), .ref 0] M (n)
  refine hl_sN C [912, 914, 915, 916] (pc' := 916) (L' := (hl_L i x5 x6 x7)) (st' := [.int (i + (Int32.ofInt 2)), .ref 60, .int (xs (i + Int32.ofInt 1).toNatClampNeg), .ref 0]) rfl rfl ?_
  refine hl_ld C rfl h2 ?_
  show hl_R p l e s m below meth c b D ad t0 t1 t2 917 (hl_L i x5 x6 x7) [.int (xs (i + Int32.ofInt 2).toNatClampNeg), .int (xs (i + Int32.ofInt 1).toNatClampNeg), .ref 0] M (n)
  refine hl_cv C 154 rfl rfl rfl rfl (by decide) hI (hl_r0 hI [.int (xs (i + Int32.ofInt 1).toNatClampNeg), .int (xs (i + Int32.ofInt 2).toNatClampNeg)]) (Nat.le_of_ble_eq_true rfl) (Nat.le_of_ble_eq_true rfl) (Nat.le_of_ble_eq_true rfl) ⟨rfl, ⟨_, rfl, ha_rng _⟩, ⟨_, rfl, ha_rng _⟩, trivial⟩ rfl (by omega) (fun rv1 M1 hr1 hI1 hw1 => ?_)
  obtain ⟨z1, rfl⟩ := hl_ri hr1
  show hl_R p l e s m below meth c b D ad t0 t1 t2 920 (hl_L i x5 x6 x7) [.int z1] M1 (n - 0)
  refine hl_sN C [921, 922, 923, 925, 926, 927] (pc' := 927) (L' := (hl_L i x5 x6 x7)) (st' := [.int (i + (Int32.ofInt 1)), .ref 60, .ref 47]) rfl rfl ?_
  refine hl_ld C rfl h1 ?_
  show hl_R p l e s m below meth c b D ad t0 t1 t2 928 (hl_L i x5 x6 x7) [.int (xs (i + Int32.ofInt 1).toNatClampNeg), .ref 47] M1 (n - 0)
  refine hl_sN C [929, 931, 932, 933] (pc' := 933) (L' := (hl_L i x5 x6 x7)) (st' := [.int (i + (Int32.ofInt 2)), .ref 60, .int (xs (i + Int32.ofInt 1).toNatClampNeg), .ref 47]) rfl rfl ?_
  refine hl_ld C rfl h2 ?_
  show hl_R p l e s m below meth c b D ad t0 t1 t2 934 (hl_L i x5 x6 x7) [.int (xs (i + Int32.ofInt 2).toNatClampNeg), .int (xs (i + Int32.ofInt 1).toNatClampNeg), .ref 47] M1 (n - 0)
  refine hl_cv C 225 rfl rfl rfl rfl (by decide) hI1 (hl_r47 hI1 [.int (xs (i + Int32.ofInt 1).toNatClampNeg), .int (xs (i + Int32.ofInt 2).toNatClampNeg)]) (Nat.le_of_ble_eq_true rfl) (Nat.le_of_ble_eq_true rfl) (Nat.le_of_ble_eq_true rfl) ⟨rfl, ⟨_, rfl, ha_rng _⟩, ⟨_, rfl, ha_rng _⟩, trivial⟩ rfl (by omega) (fun rv2 M2 hr2 hI2 hw2 => ?_)
  obtain ⟨z2, rfl⟩ := hl_ri hr2
  show hl_R p l e s m below meth c b D ad t0 t1 t2 937 (hl_L i x5 x6 x7) [.int z2] M2 (n - 0 - 0)
  refine hl_sN C [938, 1796] (pc' := 1796) (L' := (hl_L i x5 x6 x7)) (st' := []) rfl rfl ?_
  exact hl_mono (by omega) (kk M2 _ _ _ hI2 (hl_Aq hA hw1 hw2 rfl rfl (by decide) (by decide)))
set_option maxRecDepth 10000 in
theorem hl_k21 (C : hl_C p l s m meth c b N xs D ad t0 t1 t2) {M : hzMem} {n : Nat} {i : Int32} {x5 x6 x7 : Option Value} (hI : hl_I M) (hA : hl_St M) (h1 : vp_in (i + Int32.ofInt 1) N) (h2 : vp_in (i + Int32.ofInt 2) N) (h3 : vp_in (i + Int32.ofInt 3) N) (h4 : vp_in (i + Int32.ofInt 4) N) (h5 : vp_in (i + Int32.ofInt 5) N) (hn : 1 ≤ n) (kk : ∀ (M' : hzMem) (y5 y6 y7 : Option Value), hl_I M' → hl_St M' → hl_R p l e s m below meth c b D ad t0 t1 t2 1796 (hl_L i y5 y6 y7) [] M' (n - 1)) : hl_R p l e s m below meth c b D ad t0 t1 t2 941 (hl_L i x5 x6 x7) [] M n := by
  refine hl_sN C [942, 943, 945, 946, 947] (pc' := 947) (L' := (hl_L i x5 x6 x7)) (st' := [.int (i + (Int32.ofInt 1)), .ref 60, .ref 0]) rfl rfl ?_
  refine hl_ld C rfl h1 ?_
  show hl_R p l e s m below meth c b D ad t0 t1 t2 948 (hl_L i x5 x6 x7) [.int (xs (i + Int32.ofInt 1).toNatClampNeg), .ref 0] M (n)
  refine hl_cv C 135 rfl rfl rfl rfl (by decide) hI (hl_r0 hI [.int (xs (i + Int32.ofInt 1).toNatClampNeg)]) (Nat.le_of_ble_eq_true rfl) (Nat.le_of_ble_eq_true rfl) (Nat.le_of_ble_eq_true rfl) ⟨rfl, ⟨_, rfl, ha_rng _⟩, trivial⟩ rfl (by omega) (fun rv1 M1 hr1 hI1 hw1 => ?_)
  obtain ⟨z1, rfl⟩ := hl_ri hr1
  show hl_R p l e s m below meth c b D ad t0 t1 t2 951 (hl_L i x5 x6 x7) [.int z1] M1 (n - 0)
  refine hl_sN C [952, 953, 954, 956, 957, 958] (pc' := 958) (L' := (hl_L i x5 x6 x7)) (st' := [.int (i + (Int32.ofInt 1)), .ref 60, .ref 47]) rfl rfl ?_
  refine hl_ld C rfl h1 ?_
  show hl_R p l e s m below meth c b D ad t0 t1 t2 959 (hl_L i x5 x6 x7) [.int (xs (i + Int32.ofInt 1).toNatClampNeg), .ref 47] M1 (n - 0)
  refine hl_cv C 205 rfl rfl rfl rfl (by decide) hI1 (hl_r47 hI1 [.int (xs (i + Int32.ofInt 1).toNatClampNeg)]) (Nat.le_of_ble_eq_true rfl) (Nat.le_of_ble_eq_true rfl) (Nat.le_of_ble_eq_true rfl) ⟨rfl, ⟨_, rfl, ha_rng _⟩, trivial⟩ rfl (by omega) (fun rv2 M2 hr2 hI2 hw2 => ?_)
  obtain ⟨z2, rfl⟩ := hl_ri hr2
  show hl_R p l e s m below meth c b D ad t0 t1 t2 962 (hl_L i x5 x6 x7) [.int z2] M2 (n - 0 - 0)
  refine hl_sN C [963, 1796] (pc' := 1796) (L' := (hl_L i x5 x6 x7)) (st' := []) rfl rfl ?_
  exact hl_mono (by omega) (kk M2 _ _ _ hI2 (hl_Aq hA hw1 hw2 rfl rfl (by decide) (by decide)))
set_option maxRecDepth 10000 in
theorem hl_k22 (C : hl_C p l s m meth c b N xs D ad t0 t1 t2) {M : hzMem} {n : Nat} {i : Int32} {x5 x6 x7 : Option Value} (hI : hl_I M) (hA : hl_St M) (h1 : vp_in (i + Int32.ofInt 1) N) (h2 : vp_in (i + Int32.ofInt 2) N) (h3 : vp_in (i + Int32.ofInt 3) N) (h4 : vp_in (i + Int32.ofInt 4) N) (h5 : vp_in (i + Int32.ofInt 5) N) (hn : 1 ≤ n) (kk : ∀ (M' : hzMem) (y5 y6 y7 : Option Value), hl_I M' → hl_St M' → hl_R p l e s m below meth c b D ad t0 t1 t2 1796 (hl_L i y5 y6 y7) [] M' (n - 1)) : hl_R p l e s m below meth c b D ad t0 t1 t2 966 (hl_L i x5 x6 x7) [] M n := by
  refine hl_sN C [967, 968, 970, 971, 972] (pc' := 972) (L' := (hl_L i x5 x6 x7)) (st' := [.int (i + (Int32.ofInt 1)), .ref 60, .ref 0]) rfl rfl ?_
  refine hl_ld C rfl h1 ?_
  show hl_R p l e s m below meth c b D ad t0 t1 t2 973 (hl_L i x5 x6 x7) [.int (xs (i + Int32.ofInt 1).toNatClampNeg), .ref 0] M (n)
  refine hl_sN C [974, 976, 977, 978] (pc' := 978) (L' := (hl_L i x5 x6 x7)) (st' := [.int (i + (Int32.ofInt 2)), .ref 60, .int (xs (i + Int32.ofInt 1).toNatClampNeg), .ref 0]) rfl rfl ?_
  refine hl_ld C rfl h2 ?_
  show hl_R p l e s m below meth c b D ad t0 t1 t2 979 (hl_L i x5 x6 x7) [.int (xs (i + Int32.ofInt 2).toNatClampNeg), .int (xs (i + Int32.ofInt 1).toNatClampNeg), .ref 0] M (n)
  refine hl_cv C 155 rfl rfl rfl rfl (by decide) hI (hl_r0 hI [.int (xs (i + Int32.ofInt 1).toNatClampNeg), .int (xs (i + Int32.ofInt 2).toNatClampNeg)]) (Nat.le_of_ble_eq_true rfl) (Nat.le_of_ble_eq_true rfl) (Nat.le_of_ble_eq_true rfl) ⟨rfl, ⟨_, rfl, ha_rng _⟩, ⟨_, rfl, ha_rng _⟩, trivial⟩ rfl (by omega) (fun rv1 M1 hr1 hI1 hw1 => ?_)
  obtain ⟨z1, rfl⟩ := hl_ri hr1
  show hl_R p l e s m below meth c b D ad t0 t1 t2 982 (hl_L i x5 x6 x7) [.int z1] M1 (n - 0)
  refine hl_sN C [983, 984, 985, 987, 988, 989] (pc' := 989) (L' := (hl_L i x5 x6 x7)) (st' := [.int (i + (Int32.ofInt 1)), .ref 60, .ref 47]) rfl rfl ?_
  refine hl_ld C rfl h1 ?_
  show hl_R p l e s m below meth c b D ad t0 t1 t2 990 (hl_L i x5 x6 x7) [.int (xs (i + Int32.ofInt 1).toNatClampNeg), .ref 47] M1 (n - 0)
  refine hl_sN C [991, 993, 994, 995] (pc' := 995) (L' := (hl_L i x5 x6 x7)) (st' := [.int (i + (Int32.ofInt 2)), .ref 60, .int (xs (i + Int32.ofInt 1).toNatClampNeg), .ref 47]) rfl rfl ?_
  refine hl_ld C rfl h2 ?_
  show hl_R p l e s m below meth c b D ad t0 t1 t2 996 (hl_L i x5 x6 x7) [.int (xs (i + Int32.ofInt 2).toNatClampNeg), .int (xs (i + Int32.ofInt 1).toNatClampNeg), .ref 47] M1 (n - 0)
  refine hl_cv C 226 rfl rfl rfl rfl (by decide) hI1 (hl_r47 hI1 [.int (xs (i + Int32.ofInt 1).toNatClampNeg), .int (xs (i + Int32.ofInt 2).toNatClampNeg)]) (Nat.le_of_ble_eq_true rfl) (Nat.le_of_ble_eq_true rfl) (Nat.le_of_ble_eq_true rfl) ⟨rfl, ⟨_, rfl, ha_rng _⟩, ⟨_, rfl, ha_rng _⟩, trivial⟩ rfl (by omega) (fun rv2 M2 hr2 hI2 hw2 => ?_)
  obtain ⟨z2, rfl⟩ := hl_ri hr2
  show hl_R p l e s m below meth c b D ad t0 t1 t2 999 (hl_L i x5 x6 x7) [.int z2] M2 (n - 0 - 0)
  refine hl_sN C [1000, 1796] (pc' := 1796) (L' := (hl_L i x5 x6 x7)) (st' := []) rfl rfl ?_
  exact hl_mono (by omega) (kk M2 _ _ _ hI2 (hl_Aq hA hw1 hw2 rfl rfl (by decide) (by decide)))
set_option maxRecDepth 10000 in
theorem hl_k23 (C : hl_C p l s m meth c b N xs D ad t0 t1 t2) {M : hzMem} {n : Nat} {i : Int32} {x5 x6 x7 : Option Value} (hI : hl_I M) (hA : hl_St M) (h1 : vp_in (i + Int32.ofInt 1) N) (h2 : vp_in (i + Int32.ofInt 2) N) (h3 : vp_in (i + Int32.ofInt 3) N) (h4 : vp_in (i + Int32.ofInt 4) N) (h5 : vp_in (i + Int32.ofInt 5) N) (hn : 1 ≤ n) (kk : ∀ (M' : hzMem) (y5 y6 y7 : Option Value), hl_I M' → hl_St M' → hl_R p l e s m below meth c b D ad t0 t1 t2 1796 (hl_L i y5 y6 y7) [] M' (n - 1)) : hl_R p l e s m below meth c b D ad t0 t1 t2 1003 (hl_L i x5 x6 x7) [] M n := by
  refine hl_sN C [1004, 1005, 1007, 1008, 1009] (pc' := 1009) (L' := (hl_L i x5 x6 x7)) (st' := [.int (i + (Int32.ofInt 1)), .ref 60, .ref 0]) rfl rfl ?_
  refine hl_ld C rfl h1 ?_
  show hl_R p l e s m below meth c b D ad t0 t1 t2 1010 (hl_L i x5 x6 x7) [.int (xs (i + Int32.ofInt 1).toNatClampNeg), .ref 0] M (n)
  refine hl_cv C 156 rfl rfl rfl rfl (by decide) hI (hl_r0 hI [.int (xs (i + Int32.ofInt 1).toNatClampNeg)]) (Nat.le_of_ble_eq_true rfl) (Nat.le_of_ble_eq_true rfl) (Nat.le_of_ble_eq_true rfl) ⟨rfl, ⟨_, rfl, ha_rng _⟩, trivial⟩ rfl (by omega) (fun rv1 M1 hr1 hI1 hw1 => ?_)
  obtain ⟨z1, rfl⟩ := hl_ri hr1
  show hl_R p l e s m below meth c b D ad t0 t1 t2 1013 (hl_L i x5 x6 x7) [.int z1] M1 (n - 0)
  refine hl_sN C [1014, 1015, 1016, 1018, 1019, 1020] (pc' := 1020) (L' := (hl_L i x5 x6 x7)) (st' := [.int (i + (Int32.ofInt 1)), .ref 60, .ref 47]) rfl rfl ?_
  refine hl_ld C rfl h1 ?_
  show hl_R p l e s m below meth c b D ad t0 t1 t2 1021 (hl_L i x5 x6 x7) [.int (xs (i + Int32.ofInt 1).toNatClampNeg), .ref 47] M1 (n - 0)
  refine hl_cv C 227 rfl rfl rfl rfl (by decide) hI1 (hl_r47 hI1 [.int (xs (i + Int32.ofInt 1).toNatClampNeg)]) (Nat.le_of_ble_eq_true rfl) (Nat.le_of_ble_eq_true rfl) (Nat.le_of_ble_eq_true rfl) ⟨rfl, ⟨_, rfl, ha_rng _⟩, trivial⟩ rfl (by omega) (fun rv2 M2 hr2 hI2 hw2 => ?_)
  obtain ⟨z2, rfl⟩ := hl_ri hr2
  show hl_R p l e s m below meth c b D ad t0 t1 t2 1024 (hl_L i x5 x6 x7) [.int z2] M2 (n - 0 - 0)
  refine hl_sN C [1025, 1796] (pc' := 1796) (L' := (hl_L i x5 x6 x7)) (st' := []) rfl rfl ?_
  exact hl_mono (by omega) (kk M2 _ _ _ hI2 (hl_Aq hA hw1 hw2 rfl rfl (by decide) (by decide)))
set_option maxRecDepth 10000 in
theorem hl_k24 (C : hl_C p l s m meth c b N xs D ad t0 t1 t2) {M : hzMem} {n : Nat} {i : Int32} {x5 x6 x7 : Option Value} (hI : hl_I M) (hA : hl_St M) (h1 : vp_in (i + Int32.ofInt 1) N) (h2 : vp_in (i + Int32.ofInt 2) N) (h3 : vp_in (i + Int32.ofInt 3) N) (h4 : vp_in (i + Int32.ofInt 4) N) (h5 : vp_in (i + Int32.ofInt 5) N) (hn : 1 ≤ n) (kk : ∀ (M' : hzMem) (y5 y6 y7 : Option Value), hl_I M' → hl_St M' → hl_R p l e s m below meth c b D ad t0 t1 t2 1796 (hl_L i y5 y6 y7) [] M' (n - 1)) : hl_R p l e s m below meth c b D ad t0 t1 t2 1028 (hl_L i x5 x6 x7) [] M n := by
  refine hl_sN C [1029, 1030, 1032, 1033, 1034] (pc' := 1034) (L' := (hl_L i x5 x6 x7)) (st' := [.int (i + (Int32.ofInt 1)), .ref 60, .ref 0]) rfl rfl ?_
  refine hl_ld C rfl h1 ?_
  show hl_R p l e s m below meth c b D ad t0 t1 t2 1035 (hl_L i x5 x6 x7) [.int (xs (i + Int32.ofInt 1).toNatClampNeg), .ref 0] M (n)
  refine hl_cv C 157 rfl rfl rfl rfl (by decide) hI (hl_r0 hI [.int (xs (i + Int32.ofInt 1).toNatClampNeg)]) (Nat.le_of_ble_eq_true rfl) (Nat.le_of_ble_eq_true rfl) (Nat.le_of_ble_eq_true rfl) ⟨rfl, ⟨_, rfl, ha_rng _⟩, trivial⟩ rfl (by omega) (fun rv1 M1 hr1 hI1 hw1 => ?_)
  obtain ⟨z1, rfl⟩ := hl_ri hr1
  show hl_R p l e s m below meth c b D ad t0 t1 t2 1038 (hl_L i x5 x6 x7) [.int z1] M1 (n - 0)
  refine hl_sN C [1039, 1040, 1041, 1043, 1044, 1045] (pc' := 1045) (L' := (hl_L i x5 x6 x7)) (st' := [.int (i + (Int32.ofInt 1)), .ref 60, .ref 47]) rfl rfl ?_
  refine hl_ld C rfl h1 ?_
  show hl_R p l e s m below meth c b D ad t0 t1 t2 1046 (hl_L i x5 x6 x7) [.int (xs (i + Int32.ofInt 1).toNatClampNeg), .ref 47] M1 (n - 0)
  refine hl_cv C 228 rfl rfl rfl rfl (by decide) hI1 (hl_r47 hI1 [.int (xs (i + Int32.ofInt 1).toNatClampNeg)]) (Nat.le_of_ble_eq_true rfl) (Nat.le_of_ble_eq_true rfl) (Nat.le_of_ble_eq_true rfl) ⟨rfl, ⟨_, rfl, ha_rng _⟩, trivial⟩ rfl (by omega) (fun rv2 M2 hr2 hI2 hw2 => ?_)
  obtain ⟨z2, rfl⟩ := hl_ri hr2
  show hl_R p l e s m below meth c b D ad t0 t1 t2 1049 (hl_L i x5 x6 x7) [.int z2] M2 (n - 0 - 0)
  refine hl_sN C [1050, 1796] (pc' := 1796) (L' := (hl_L i x5 x6 x7)) (st' := []) rfl rfl ?_
  exact hl_mono (by omega) (kk M2 _ _ _ hI2 (hl_Aq hA hw1 hw2 rfl rfl (by decide) (by decide)))
set_option maxRecDepth 10000 in
theorem hl_k25 (C : hl_C p l s m meth c b N xs D ad t0 t1 t2) {M : hzMem} {n : Nat} {i : Int32} {x5 x6 x7 : Option Value} (hI : hl_I M) (hA : hl_St M) (h1 : vp_in (i + Int32.ofInt 1) N) (h2 : vp_in (i + Int32.ofInt 2) N) (h3 : vp_in (i + Int32.ofInt 3) N) (h4 : vp_in (i + Int32.ofInt 4) N) (h5 : vp_in (i + Int32.ofInt 5) N) (hn : 1 ≤ n) (kk : ∀ (M' : hzMem) (y5 y6 y7 : Option Value), hl_I M' → hl_St M' → hl_R p l e s m below meth c b D ad t0 t1 t2 1796 (hl_L i y5 y6 y7) [] M' (n - 1)) : hl_R p l e s m below meth c b D ad t0 t1 t2 1053 (hl_L i x5 x6 x7) [] M n := by
  refine hl_sN C [1054] (pc' := 1054) (L' := (hl_L i x5 x6 x7)) (st' := [.ref 0]) rfl rfl ?_
  refine hl_cv C 158 rfl rfl rfl rfl (by decide) hI (hl_r0 hI []) (Nat.le_of_ble_eq_true rfl) (Nat.le_of_ble_eq_true rfl) (Nat.le_of_ble_eq_true rfl) ⟨rfl, trivial⟩ rfl (by omega) (fun rv1 M1 hr1 hI1 hw1 => ?_)
  obtain ⟨z1, rfl⟩ := hl_ri hr1
  show hl_R p l e s m below meth c b D ad t0 t1 t2 1057 (hl_L i x5 x6 x7) [.int z1] M1 (n - 0)
  refine hl_sN C [1058, 1059] (pc' := 1059) (L' := (hl_L i x5 x6 x7)) (st' := [.ref 47]) rfl rfl ?_
  refine hl_cv C 229 rfl rfl rfl rfl (by decide) hI1 (hl_r47 hI1 []) (Nat.le_of_ble_eq_true rfl) (Nat.le_of_ble_eq_true rfl) (Nat.le_of_ble_eq_true rfl) ⟨rfl, trivial⟩ rfl (by omega) (fun rv2 M2 hr2 hI2 hw2 => ?_)
  obtain ⟨z2, rfl⟩ := hl_ri hr2
  show hl_R p l e s m below meth c b D ad t0 t1 t2 1062 (hl_L i x5 x6 x7) [.int z2] M2 (n - 0 - 0)
  refine hl_sN C [1063, 1796] (pc' := 1796) (L' := (hl_L i x5 x6 x7)) (st' := []) rfl rfl ?_
  exact hl_mono (by omega) (kk M2 _ _ _ hI2 (hl_Aq hA hw1 hw2 rfl rfl (by decide) (by decide)))
set_option maxRecDepth 10000 in
theorem hl_k26 (C : hl_C p l s m meth c b N xs D ad t0 t1 t2) {M : hzMem} {n : Nat} {i : Int32} {x5 x6 x7 : Option Value} (hI : hl_I M) (hA : hl_St M) (h1 : vp_in (i + Int32.ofInt 1) N) (h2 : vp_in (i + Int32.ofInt 2) N) (h3 : vp_in (i + Int32.ofInt 3) N) (h4 : vp_in (i + Int32.ofInt 4) N) (h5 : vp_in (i + Int32.ofInt 5) N) (hn : 1 ≤ n) (kk : ∀ (M' : hzMem) (y5 y6 y7 : Option Value), hl_I M' → hl_St M' → hl_R p l e s m below meth c b D ad t0 t1 t2 1796 (hl_L i y5 y6 y7) [] M' (n - 1)) : hl_R p l e s m below meth c b D ad t0 t1 t2 1066 (hl_L i x5 x6 x7) [] M n := by
  refine hl_sN C [1067, 1068, 1070, 1071, 1072] (pc' := 1072) (L' := (hl_L i x5 x6 x7)) (st' := [.int (i + (Int32.ofInt 1)), .ref 60, .ref 0]) rfl rfl ?_
  refine hl_ld C rfl h1 ?_
  show hl_R p l e s m below meth c b D ad t0 t1 t2 1073 (hl_L i x5 x6 x7) [.int (xs (i + Int32.ofInt 1).toNatClampNeg), .ref 0] M (n)
  refine hl_cv C 159 rfl rfl rfl rfl (by decide) hI (hl_r0 hI [.int (xs (i + Int32.ofInt 1).toNatClampNeg)]) (Nat.le_of_ble_eq_true rfl) (Nat.le_of_ble_eq_true rfl) (Nat.le_of_ble_eq_true rfl) ⟨rfl, ⟨_, rfl, ha_rng _⟩, trivial⟩ rfl (by omega) (fun rv1 M1 hr1 hI1 hw1 => ?_)
  obtain ⟨z1, rfl⟩ := hl_ri hr1
  show hl_R p l e s m below meth c b D ad t0 t1 t2 1076 (hl_L i x5 x6 x7) [.int z1] M1 (n - 0)
  refine hl_sN C [1077, 1078, 1079, 1081, 1082, 1083] (pc' := 1083) (L' := (hl_L i x5 x6 x7)) (st' := [.int (i + (Int32.ofInt 1)), .ref 60, .ref 47]) rfl rfl ?_
  refine hl_ld C rfl h1 ?_
  show hl_R p l e s m below meth c b D ad t0 t1 t2 1084 (hl_L i x5 x6 x7) [.int (xs (i + Int32.ofInt 1).toNatClampNeg), .ref 47] M1 (n - 0)
  refine hl_cv C 230 rfl rfl rfl rfl (by decide) hI1 (hl_r47 hI1 [.int (xs (i + Int32.ofInt 1).toNatClampNeg)]) (Nat.le_of_ble_eq_true rfl) (Nat.le_of_ble_eq_true rfl) (Nat.le_of_ble_eq_true rfl) ⟨rfl, ⟨_, rfl, ha_rng _⟩, trivial⟩ rfl (by omega) (fun rv2 M2 hr2 hI2 hw2 => ?_)
  obtain ⟨z2, rfl⟩ := hl_ri hr2
  show hl_R p l e s m below meth c b D ad t0 t1 t2 1087 (hl_L i x5 x6 x7) [.int z2] M2 (n - 0 - 0)
  refine hl_sN C [1088, 1796] (pc' := 1796) (L' := (hl_L i x5 x6 x7)) (st' := []) rfl rfl ?_
  exact hl_mono (by omega) (kk M2 _ _ _ hI2 (hl_Aq hA hw1 hw2 rfl rfl (by decide) (by decide)))
set_option maxRecDepth 10000 in
theorem hl_k27 (C : hl_C p l s m meth c b N xs D ad t0 t1 t2) {M : hzMem} {n : Nat} {i : Int32} {x5 x6 x7 : Option Value} (hI : hl_I M) (hA : hl_St M) (h1 : vp_in (i + Int32.ofInt 1) N) (h2 : vp_in (i + Int32.ofInt 2) N) (h3 : vp_in (i + Int32.ofInt 3) N) (h4 : vp_in (i + Int32.ofInt 4) N) (h5 : vp_in (i + Int32.ofInt 5) N) (hn : 1 ≤ n) (kk : ∀ (M' : hzMem) (y5 y6 y7 : Option Value), hl_I M' → hl_St M' → hl_R p l e s m below meth c b D ad t0 t1 t2 1796 (hl_L i y5 y6 y7) [] M' (n - 1)) : hl_R p l e s m below meth c b D ad t0 t1 t2 1091 (hl_L i x5 x6 x7) [] M n := by
  refine hl_sN C [1092, 1093, 1095, 1096, 1097] (pc' := 1097) (L' := (hl_L i x5 x6 x7)) (st' := [.int (i + (Int32.ofInt 1)), .ref 60, .ref 0]) rfl rfl ?_
  refine hl_ld C rfl h1 ?_
  show hl_R p l e s m below meth c b D ad t0 t1 t2 1098 (hl_L i x5 x6 x7) [.int (xs (i + Int32.ofInt 1).toNatClampNeg), .ref 0] M (n)
  refine hl_sN C [1099, 1101, 1102, 1103] (pc' := 1103) (L' := (hl_L i x5 x6 x7)) (st' := [.int (i + (Int32.ofInt 2)), .ref 60, .int (xs (i + Int32.ofInt 1).toNatClampNeg), .ref 0]) rfl rfl ?_
  refine hl_ld C rfl h2 ?_
  show hl_R p l e s m below meth c b D ad t0 t1 t2 1104 (hl_L i x5 x6 x7) [.int (xs (i + Int32.ofInt 2).toNatClampNeg), .int (xs (i + Int32.ofInt 1).toNatClampNeg), .ref 0] M (n)
  refine hl_sN C [1105, 1107, 1108, 1109] (pc' := 1109) (L' := (hl_L i x5 x6 x7)) (st' := [.int (i + (Int32.ofInt 3)), .ref 60, .int (xs (i + Int32.ofInt 2).toNatClampNeg), .int (xs (i + Int32.ofInt 1).toNatClampNeg), .ref 0]) rfl rfl ?_
  refine hl_ld C rfl h3 ?_
  show hl_R p l e s m below meth c b D ad t0 t1 t2 1110 (hl_L i x5 x6 x7) [.int (xs (i + Int32.ofInt 3).toNatClampNeg), .int (xs (i + Int32.ofInt 2).toNatClampNeg), .int (xs (i + Int32.ofInt 1).toNatClampNeg), .ref 0] M (n)
  refine hl_cv C 160 rfl rfl rfl rfl (by decide) hI (hl_r0 hI [.int (xs (i + Int32.ofInt 1).toNatClampNeg), .int (xs (i + Int32.ofInt 2).toNatClampNeg), .int (xs (i + Int32.ofInt 3).toNatClampNeg)]) (Nat.le_of_ble_eq_true rfl) (Nat.le_of_ble_eq_true rfl) (Nat.le_of_ble_eq_true rfl) ⟨rfl, ⟨_, rfl, ha_rng _⟩, ⟨_, rfl, ha_rng _⟩, ⟨_, rfl, ha_rng _⟩, trivial⟩ rfl (by omega) (fun rv1 M1 hr1 hI1 hw1 => ?_)
  obtain ⟨z1, rfl⟩ := hl_ri hr1
  show hl_R p l e s m below meth c b D ad t0 t1 t2 1113 (hl_L i x5 x6 x7) [.int z1] M1 (n - 0)
  refine hl_sN C [1114, 1115, 1116, 1118, 1119, 1120] (pc' := 1120) (L' := (hl_L i x5 x6 x7)) (st' := [.int (i + (Int32.ofInt 1)), .ref 60, .ref 47]) rfl rfl ?_
  refine hl_ld C rfl h1 ?_
  show hl_R p l e s m below meth c b D ad t0 t1 t2 1121 (hl_L i x5 x6 x7) [.int (xs (i + Int32.ofInt 1).toNatClampNeg), .ref 47] M1 (n - 0)
  refine hl_sN C [1122, 1124, 1125, 1126] (pc' := 1126) (L' := (hl_L i x5 x6 x7)) (st' := [.int (i + (Int32.ofInt 2)), .ref 60, .int (xs (i + Int32.ofInt 1).toNatClampNeg), .ref 47]) rfl rfl ?_
  refine hl_ld C rfl h2 ?_
  show hl_R p l e s m below meth c b D ad t0 t1 t2 1127 (hl_L i x5 x6 x7) [.int (xs (i + Int32.ofInt 2).toNatClampNeg), .int (xs (i + Int32.ofInt 1).toNatClampNeg), .ref 47] M1 (n - 0)
  refine hl_sN C [1128, 1130, 1131, 1132] (pc' := 1132) (L' := (hl_L i x5 x6 x7)) (st' := [.int (i + (Int32.ofInt 3)), .ref 60, .int (xs (i + Int32.ofInt 2).toNatClampNeg), .int (xs (i + Int32.ofInt 1).toNatClampNeg), .ref 47]) rfl rfl ?_
  refine hl_ld C rfl h3 ?_
  show hl_R p l e s m below meth c b D ad t0 t1 t2 1133 (hl_L i x5 x6 x7) [.int (xs (i + Int32.ofInt 3).toNatClampNeg), .int (xs (i + Int32.ofInt 2).toNatClampNeg), .int (xs (i + Int32.ofInt 1).toNatClampNeg), .ref 47] M1 (n - 0)
  refine hl_cv C 231 rfl rfl rfl rfl (by decide) hI1 (hl_r47 hI1 [.int (xs (i + Int32.ofInt 1).toNatClampNeg), .int (xs (i + Int32.ofInt 2).toNatClampNeg), .int (xs (i + Int32.ofInt 3).toNatClampNeg)]) (Nat.le_of_ble_eq_true rfl) (Nat.le_of_ble_eq_true rfl) (Nat.le_of_ble_eq_true rfl) ⟨rfl, ⟨_, rfl, ha_rng _⟩, ⟨_, rfl, ha_rng _⟩, ⟨_, rfl, ha_rng _⟩, trivial⟩ rfl (by omega) (fun rv2 M2 hr2 hI2 hw2 => ?_)
  obtain ⟨z2, rfl⟩ := hl_ri hr2
  show hl_R p l e s m below meth c b D ad t0 t1 t2 1136 (hl_L i x5 x6 x7) [.int z2] M2 (n - 0 - 0)
  refine hl_sN C [1137, 1796] (pc' := 1796) (L' := (hl_L i x5 x6 x7)) (st' := []) rfl rfl ?_
  exact hl_mono (by omega) (kk M2 _ _ _ hI2 (hl_Aq hA hw1 hw2 rfl rfl (by decide) (by decide)))
set_option maxRecDepth 10000 in
theorem hl_k28 (C : hl_C p l s m meth c b N xs D ad t0 t1 t2) {M : hzMem} {n : Nat} {i : Int32} {x5 x6 x7 : Option Value} (hI : hl_I M) (hA : hl_St M) (h1 : vp_in (i + Int32.ofInt 1) N) (h2 : vp_in (i + Int32.ofInt 2) N) (h3 : vp_in (i + Int32.ofInt 3) N) (h4 : vp_in (i + Int32.ofInt 4) N) (h5 : vp_in (i + Int32.ofInt 5) N) (hn : 1 ≤ n) (kk : ∀ (M' : hzMem) (y5 y6 y7 : Option Value), hl_I M' → hl_St M' → hl_R p l e s m below meth c b D ad t0 t1 t2 1796 (hl_L i y5 y6 y7) [] M' (n - 1)) : hl_R p l e s m below meth c b D ad t0 t1 t2 1140 (hl_L i x5 x6 x7) [] M n := by
  refine hl_sN C [1141, 1142, 1144, 1145, 1146] (pc' := 1146) (L' := (hl_L i x5 x6 x7)) (st' := [.int (i + (Int32.ofInt 1)), .ref 60, .ref 0]) rfl rfl ?_
  refine hl_ld C rfl h1 ?_
  show hl_R p l e s m below meth c b D ad t0 t1 t2 1147 (hl_L i x5 x6 x7) [.int (xs (i + Int32.ofInt 1).toNatClampNeg), .ref 0] M (n)
  refine hl_sN C [1148, 1150, 1151, 1152] (pc' := 1152) (L' := (hl_L i x5 x6 x7)) (st' := [.int (i + (Int32.ofInt 2)), .ref 60, .int (xs (i + Int32.ofInt 1).toNatClampNeg), .ref 0]) rfl rfl ?_
  refine hl_ld C rfl h2 ?_
  show hl_R p l e s m below meth c b D ad t0 t1 t2 1153 (hl_L i x5 x6 x7) [.int (xs (i + Int32.ofInt 2).toNatClampNeg), .int (xs (i + Int32.ofInt 1).toNatClampNeg), .ref 0] M (n)
  refine hl_sN C [1154, 1156, 1157, 1158] (pc' := 1158) (L' := (hl_L i x5 x6 x7)) (st' := [.int (i + (Int32.ofInt 3)), .ref 60, .int (xs (i + Int32.ofInt 2).toNatClampNeg), .int (xs (i + Int32.ofInt 1).toNatClampNeg), .ref 0]) rfl rfl ?_
  refine hl_ld C rfl h3 ?_
  show hl_R p l e s m below meth c b D ad t0 t1 t2 1159 (hl_L i x5 x6 x7) [.int (xs (i + Int32.ofInt 3).toNatClampNeg), .int (xs (i + Int32.ofInt 2).toNatClampNeg), .int (xs (i + Int32.ofInt 1).toNatClampNeg), .ref 0] M (n)
  refine hl_cv C 165 rfl rfl rfl rfl (by decide) hI (hl_r0 hI [.int (xs (i + Int32.ofInt 1).toNatClampNeg), .int (xs (i + Int32.ofInt 2).toNatClampNeg), .int (xs (i + Int32.ofInt 3).toNatClampNeg)]) (Nat.le_of_ble_eq_true rfl) (Nat.le_of_ble_eq_true rfl) (Nat.le_of_ble_eq_true rfl) ⟨rfl, ⟨_, rfl, ha_rng _⟩, ⟨_, rfl, ha_rng _⟩, ⟨_, rfl, ha_rng _⟩, trivial⟩ rfl (by omega) (fun rv1 M1 hr1 hI1 hw1 => ?_)
  obtain ⟨z1, rfl⟩ := hl_ri hr1
  show hl_R p l e s m below meth c b D ad t0 t1 t2 1162 (hl_L i x5 x6 x7) [.int z1] M1 (n - 0)
  refine hl_sN C [1163, 1164, 1165, 1167, 1168, 1169] (pc' := 1169) (L' := (hl_L i x5 x6 x7)) (st' := [.int (i + (Int32.ofInt 1)), .ref 60, .ref 47]) rfl rfl ?_
  refine hl_ld C rfl h1 ?_
  show hl_R p l e s m below meth c b D ad t0 t1 t2 1170 (hl_L i x5 x6 x7) [.int (xs (i + Int32.ofInt 1).toNatClampNeg), .ref 47] M1 (n - 0)
  refine hl_sN C [1171, 1173, 1174, 1175] (pc' := 1175) (L' := (hl_L i x5 x6 x7)) (st' := [.int (i + (Int32.ofInt 2)), .ref 60, .int (xs (i + Int32.ofInt 1).toNatClampNeg), .ref 47]) rfl rfl ?_
  refine hl_ld C rfl h2 ?_
  show hl_R p l e s m below meth c b D ad t0 t1 t2 1176 (hl_L i x5 x6 x7) [.int (xs (i + Int32.ofInt 2).toNatClampNeg), .int (xs (i + Int32.ofInt 1).toNatClampNeg), .ref 47] M1 (n - 0)
  refine hl_sN C [1177, 1179, 1180, 1181] (pc' := 1181) (L' := (hl_L i x5 x6 x7)) (st' := [.int (i + (Int32.ofInt 3)), .ref 60, .int (xs (i + Int32.ofInt 2).toNatClampNeg), .int (xs (i + Int32.ofInt 1).toNatClampNeg), .ref 47]) rfl rfl ?_
  refine hl_ld C rfl h3 ?_
  show hl_R p l e s m below meth c b D ad t0 t1 t2 1182 (hl_L i x5 x6 x7) [.int (xs (i + Int32.ofInt 3).toNatClampNeg), .int (xs (i + Int32.ofInt 2).toNatClampNeg), .int (xs (i + Int32.ofInt 1).toNatClampNeg), .ref 47] M1 (n - 0)
  refine hl_cv C 232 rfl rfl rfl rfl (by decide) hI1 (hl_r47 hI1 [.int (xs (i + Int32.ofInt 1).toNatClampNeg), .int (xs (i + Int32.ofInt 2).toNatClampNeg), .int (xs (i + Int32.ofInt 3).toNatClampNeg)]) (Nat.le_of_ble_eq_true rfl) (Nat.le_of_ble_eq_true rfl) (Nat.le_of_ble_eq_true rfl) ⟨rfl, ⟨_, rfl, ha_rng _⟩, ⟨_, rfl, ha_rng _⟩, ⟨_, rfl, ha_rng _⟩, trivial⟩ rfl (by omega) (fun rv2 M2 hr2 hI2 hw2 => ?_)
  obtain ⟨z2, rfl⟩ := hl_ri hr2
  show hl_R p l e s m below meth c b D ad t0 t1 t2 1185 (hl_L i x5 x6 x7) [.int z2] M2 (n - 0 - 0)
  refine hl_sN C [1186, 1796] (pc' := 1796) (L' := (hl_L i x5 x6 x7)) (st' := []) rfl rfl ?_
  exact hl_mono (by omega) (kk M2 _ _ _ hI2 (hl_Aq hA hw1 hw2 rfl rfl (by decide) (by decide)))
set_option maxRecDepth 10000 in
theorem hl_k29 (C : hl_C p l s m meth c b N xs D ad t0 t1 t2) {M : hzMem} {n : Nat} {i : Int32} {x5 x6 x7 : Option Value} (hI : hl_I M) (hA : hl_St M) (h1 : vp_in (i + Int32.ofInt 1) N) (h2 : vp_in (i + Int32.ofInt 2) N) (h3 : vp_in (i + Int32.ofInt 3) N) (h4 : vp_in (i + Int32.ofInt 4) N) (h5 : vp_in (i + Int32.ofInt 5) N) (hn : 1 ≤ n) (kk : ∀ (M' : hzMem) (y5 y6 y7 : Option Value), hl_I M' → hl_St M' → hl_R p l e s m below meth c b D ad t0 t1 t2 1796 (hl_L i y5 y6 y7) [] M' (n - 1)) : hl_R p l e s m below meth c b D ad t0 t1 t2 1189 (hl_L i x5 x6 x7) [] M n := by
  refine hl_sN C [1190, 1191, 1193, 1194, 1195] (pc' := 1195) (L' := (hl_L i x5 x6 x7)) (st' := [.int (i + (Int32.ofInt 1)), .ref 60, .ref 0]) rfl rfl ?_
  refine hl_ld C rfl h1 ?_
  show hl_R p l e s m below meth c b D ad t0 t1 t2 1196 (hl_L i x5 x6 x7) [.int (xs (i + Int32.ofInt 1).toNatClampNeg), .ref 0] M (n)
  refine hl_sN C [1197, 1199, 1200, 1201] (pc' := 1201) (L' := (hl_L i x5 x6 x7)) (st' := [.int (i + (Int32.ofInt 2)), .ref 60, .int (xs (i + Int32.ofInt 1).toNatClampNeg), .ref 0]) rfl rfl ?_
  refine hl_ld C rfl h2 ?_
  show hl_R p l e s m below meth c b D ad t0 t1 t2 1202 (hl_L i x5 x6 x7) [.int (xs (i + Int32.ofInt 2).toNatClampNeg), .int (xs (i + Int32.ofInt 1).toNatClampNeg), .ref 0] M (n)
  refine hl_sN C [1203, 1205, 1206, 1207] (pc' := 1207) (L' := (hl_L i x5 x6 x7)) (st' := [.int (i + (Int32.ofInt 3)), .ref 60, .int (xs (i + Int32.ofInt 2).toNatClampNeg), .int (xs (i + Int32.ofInt 1).toNatClampNeg), .ref 0]) rfl rfl ?_
  refine hl_ld C rfl h3 ?_
  show hl_R p l e s m below meth c b D ad t0 t1 t2 1208 (hl_L i x5 x6 x7) [.int (xs (i + Int32.ofInt 3).toNatClampNeg), .int (xs (i + Int32.ofInt 2).toNatClampNeg), .int (xs (i + Int32.ofInt 1).toNatClampNeg), .ref 0] M (n)
  refine hl_sN C [1209, 1211, 1212, 1213] (pc' := 1213) (L' := (hl_L i x5 x6 x7)) (st' := [.int (i + (Int32.ofInt 4)), .ref 60, .int (xs (i + Int32.ofInt 3).toNatClampNeg), .int (xs (i + Int32.ofInt 2).toNatClampNeg), .int (xs (i + Int32.ofInt 1).toNatClampNeg), .ref 0]) rfl rfl ?_
  refine hl_ld C rfl h4 ?_
  show hl_R p l e s m below meth c b D ad t0 t1 t2 1214 (hl_L i x5 x6 x7) [.int (xs (i + Int32.ofInt 4).toNatClampNeg), .int (xs (i + Int32.ofInt 3).toNatClampNeg), .int (xs (i + Int32.ofInt 2).toNatClampNeg), .int (xs (i + Int32.ofInt 1).toNatClampNeg), .ref 0] M (n)
  refine hl_cv C 166 rfl rfl rfl rfl (by decide) hI (hl_r0 hI [.int (xs (i + Int32.ofInt 1).toNatClampNeg), .int (xs (i + Int32.ofInt 2).toNatClampNeg), .int (xs (i + Int32.ofInt 3).toNatClampNeg), .int (xs (i + Int32.ofInt 4).toNatClampNeg)]) (Nat.le_of_ble_eq_true rfl) (Nat.le_of_ble_eq_true rfl) (Nat.le_of_ble_eq_true rfl) ⟨rfl, ⟨_, rfl, ha_rng _⟩, ⟨_, rfl, ha_rng _⟩, ⟨_, rfl, ha_rng _⟩, ⟨_, rfl, ha_rng _⟩, trivial⟩ rfl (by omega) (fun rv1 M1 hr1 hI1 hw1 => ?_)
  obtain ⟨z1, rfl⟩ := hl_rl hr1
  show hl_R p l e s m below meth c b D ad t0 t1 t2 1217 (hl_L i x5 x6 x7) [.long z1] M1 (n - 0)
  refine hl_sN C [1218, 1219, 1220, 1222, 1223, 1224] (pc' := 1224) (L' := (hl_L i x5 x6 x7)) (st' := [.int (i + (Int32.ofInt 1)), .ref 60, .ref 47]) rfl rfl ?_
  refine hl_ld C rfl h1 ?_
  show hl_R p l e s m below meth c b D ad t0 t1 t2 1225 (hl_L i x5 x6 x7) [.int (xs (i + Int32.ofInt 1).toNatClampNeg), .ref 47] M1 (n - 0)
  refine hl_sN C [1226, 1228, 1229, 1230] (pc' := 1230) (L' := (hl_L i x5 x6 x7)) (st' := [.int (i + (Int32.ofInt 2)), .ref 60, .int (xs (i + Int32.ofInt 1).toNatClampNeg), .ref 47]) rfl rfl ?_
  refine hl_ld C rfl h2 ?_
  show hl_R p l e s m below meth c b D ad t0 t1 t2 1231 (hl_L i x5 x6 x7) [.int (xs (i + Int32.ofInt 2).toNatClampNeg), .int (xs (i + Int32.ofInt 1).toNatClampNeg), .ref 47] M1 (n - 0)
  refine hl_sN C [1232, 1234, 1235, 1236] (pc' := 1236) (L' := (hl_L i x5 x6 x7)) (st' := [.int (i + (Int32.ofInt 3)), .ref 60, .int (xs (i + Int32.ofInt 2).toNatClampNeg), .int (xs (i + Int32.ofInt 1).toNatClampNeg), .ref 47]) rfl rfl ?_
  refine hl_ld C rfl h3 ?_
  show hl_R p l e s m below meth c b D ad t0 t1 t2 1237 (hl_L i x5 x6 x7) [.int (xs (i + Int32.ofInt 3).toNatClampNeg), .int (xs (i + Int32.ofInt 2).toNatClampNeg), .int (xs (i + Int32.ofInt 1).toNatClampNeg), .ref 47] M1 (n - 0)
  refine hl_sN C [1238, 1240, 1241, 1242] (pc' := 1242) (L' := (hl_L i x5 x6 x7)) (st' := [.int (i + (Int32.ofInt 4)), .ref 60, .int (xs (i + Int32.ofInt 3).toNatClampNeg), .int (xs (i + Int32.ofInt 2).toNatClampNeg), .int (xs (i + Int32.ofInt 1).toNatClampNeg), .ref 47]) rfl rfl ?_
  refine hl_ld C rfl h4 ?_
  show hl_R p l e s m below meth c b D ad t0 t1 t2 1243 (hl_L i x5 x6 x7) [.int (xs (i + Int32.ofInt 4).toNatClampNeg), .int (xs (i + Int32.ofInt 3).toNatClampNeg), .int (xs (i + Int32.ofInt 2).toNatClampNeg), .int (xs (i + Int32.ofInt 1).toNatClampNeg), .ref 47] M1 (n - 0)
  refine hl_cv C 237 rfl rfl rfl rfl (by decide) hI1 (hl_r47 hI1 [.int (xs (i + Int32.ofInt 1).toNatClampNeg), .int (xs (i + Int32.ofInt 2).toNatClampNeg), .int (xs (i + Int32.ofInt 3).toNatClampNeg), .int (xs (i + Int32.ofInt 4).toNatClampNeg)]) (Nat.le_of_ble_eq_true rfl) (Nat.le_of_ble_eq_true rfl) (Nat.le_of_ble_eq_true rfl) ⟨rfl, ⟨_, rfl, ha_rng _⟩, ⟨_, rfl, ha_rng _⟩, ⟨_, rfl, ha_rng _⟩, ⟨_, rfl, ha_rng _⟩, trivial⟩ rfl (by omega) (fun rv2 M2 hr2 hI2 hw2 => ?_)
  obtain ⟨z2, rfl⟩ := hl_rl hr2
  show hl_R p l e s m below meth c b D ad t0 t1 t2 1246 (hl_L i x5 x6 x7) [.long z2] M2 (n - 0 - 0)
  refine hl_sN C [1247, 1796] (pc' := 1796) (L' := (hl_L i x5 x6 x7)) (st' := []) rfl rfl ?_
  exact hl_mono (by omega) (kk M2 _ _ _ hI2 (hl_Aq hA hw1 hw2 rfl rfl (by decide) (by decide)))
set_option maxRecDepth 10000 in
theorem hl_k30 (C : hl_C p l s m meth c b N xs D ad t0 t1 t2) {M : hzMem} {n : Nat} {i : Int32} {x5 x6 x7 : Option Value} (hI : hl_I M) (hA : hl_St M) (h1 : vp_in (i + Int32.ofInt 1) N) (h2 : vp_in (i + Int32.ofInt 2) N) (h3 : vp_in (i + Int32.ofInt 3) N) (h4 : vp_in (i + Int32.ofInt 4) N) (h5 : vp_in (i + Int32.ofInt 5) N) (hn : 1 ≤ n) (kk : ∀ (M' : hzMem) (y5 y6 y7 : Option Value), hl_I M' → hl_St M' → hl_R p l e s m below meth c b D ad t0 t1 t2 1796 (hl_L i y5 y6 y7) [] M' (n - 1)) : hl_R p l e s m below meth c b D ad t0 t1 t2 1250 (hl_L i x5 x6 x7) [] M n := by
  refine hl_sN C [1251, 1252, 1254, 1255, 1256] (pc' := 1256) (L' := (hl_L i x5 x6 x7)) (st' := [.int (i + (Int32.ofInt 1)), .ref 60, .ref 0]) rfl rfl ?_
  refine hl_ld C rfl h1 ?_
  show hl_R p l e s m below meth c b D ad t0 t1 t2 1257 (hl_L i x5 x6 x7) [.int (xs (i + Int32.ofInt 1).toNatClampNeg), .ref 0] M (n)
  refine hl_cv C 167 rfl rfl rfl rfl (by decide) hI (hl_r0 hI [.int (xs (i + Int32.ofInt 1).toNatClampNeg)]) (Nat.le_of_ble_eq_true rfl) (Nat.le_of_ble_eq_true rfl) (Nat.le_of_ble_eq_true rfl) ⟨rfl, ⟨_, rfl, ha_rng _⟩, trivial⟩ rfl (by omega) (fun rv1 M1 hr1 hI1 hw1 => ?_)
  obtain ⟨z1, rfl⟩ := hl_rl hr1
  show hl_R p l e s m below meth c b D ad t0 t1 t2 1260 (hl_L i x5 x6 x7) [.long z1] M1 (n - 0)
  refine hl_sN C [1261, 1262, 1263, 1265, 1266, 1267] (pc' := 1267) (L' := (hl_L i x5 x6 x7)) (st' := [.int (i + (Int32.ofInt 1)), .ref 60, .ref 47]) rfl rfl ?_
  refine hl_ld C rfl h1 ?_
  show hl_R p l e s m below meth c b D ad t0 t1 t2 1268 (hl_L i x5 x6 x7) [.int (xs (i + Int32.ofInt 1).toNatClampNeg), .ref 47] M1 (n - 0)
  refine hl_cv C 238 rfl rfl rfl rfl (by decide) hI1 (hl_r47 hI1 [.int (xs (i + Int32.ofInt 1).toNatClampNeg)]) (Nat.le_of_ble_eq_true rfl) (Nat.le_of_ble_eq_true rfl) (Nat.le_of_ble_eq_true rfl) ⟨rfl, ⟨_, rfl, ha_rng _⟩, trivial⟩ rfl (by omega) (fun rv2 M2 hr2 hI2 hw2 => ?_)
  obtain ⟨z2, rfl⟩ := hl_rl hr2
  show hl_R p l e s m below meth c b D ad t0 t1 t2 1271 (hl_L i x5 x6 x7) [.long z2] M2 (n - 0 - 0)
  refine hl_sN C [1272, 1796] (pc' := 1796) (L' := (hl_L i x5 x6 x7)) (st' := []) rfl rfl ?_
  exact hl_mono (by omega) (kk M2 _ _ _ hI2 (hl_Aq hA hw1 hw2 rfl rfl (by decide) (by decide)))
set_option maxRecDepth 10000 in
theorem hl_k31 (C : hl_C p l s m meth c b N xs D ad t0 t1 t2) {M : hzMem} {n : Nat} {i : Int32} {x5 x6 x7 : Option Value} (hI : hl_I M) (hA : hl_St M) (h1 : vp_in (i + Int32.ofInt 1) N) (h2 : vp_in (i + Int32.ofInt 2) N) (h3 : vp_in (i + Int32.ofInt 3) N) (h4 : vp_in (i + Int32.ofInt 4) N) (h5 : vp_in (i + Int32.ofInt 5) N) (hn : 1 ≤ n) (kk : ∀ (M' : hzMem) (y5 y6 y7 : Option Value), hl_I M' → hl_St M' → hl_R p l e s m below meth c b D ad t0 t1 t2 1796 (hl_L i y5 y6 y7) [] M' (n - 1)) : hl_R p l e s m below meth c b D ad t0 t1 t2 1275 (hl_L i x5 x6 x7) [] M n := by
  refine hl_sN C [1276, 1277, 1279, 1280, 1281] (pc' := 1281) (L' := (hl_L i x5 x6 x7)) (st' := [.int (i + (Int32.ofInt 1)), .ref 60, .ref 0]) rfl rfl ?_
  refine hl_ld C rfl h1 ?_
  show hl_R p l e s m below meth c b D ad t0 t1 t2 1282 (hl_L i x5 x6 x7) [.int (xs (i + Int32.ofInt 1).toNatClampNeg), .ref 0] M (n)
  refine hl_sN C [1283, 1285, 1286, 1287] (pc' := 1287) (L' := (hl_L i x5 x6 x7)) (st' := [.int (i + (Int32.ofInt 2)), .ref 60, .int (xs (i + Int32.ofInt 1).toNatClampNeg), .ref 0]) rfl rfl ?_
  refine hl_ld C rfl h2 ?_
  show hl_R p l e s m below meth c b D ad t0 t1 t2 1288 (hl_L i x5 x6 x7) [.int (xs (i + Int32.ofInt 2).toNatClampNeg), .int (xs (i + Int32.ofInt 1).toNatClampNeg), .ref 0] M (n)
  refine hl_cv C 161 rfl rfl rfl rfl (by decide) hI (hl_r0 hI [.int (xs (i + Int32.ofInt 1).toNatClampNeg), .int (xs (i + Int32.ofInt 2).toNatClampNeg)]) (Nat.le_of_ble_eq_true rfl) (Nat.le_of_ble_eq_true rfl) (Nat.le_of_ble_eq_true rfl) ⟨rfl, ⟨_, rfl, ha_rng _⟩, ⟨_, rfl, ha_rng _⟩, trivial⟩ rfl (by omega) (fun rv1 M1 hr1 hI1 hw1 => ?_)
  obtain ⟨z1, rfl⟩ := hl_ri hr1
  show hl_R p l e s m below meth c b D ad t0 t1 t2 1291 (hl_L i x5 x6 x7) [.int z1] M1 (n - 0)
  refine hl_sN C [1292, 1293, 1294, 1296, 1297, 1298] (pc' := 1298) (L' := (hl_L i x5 x6 x7)) (st' := [.int (i + (Int32.ofInt 1)), .ref 60, .ref 47]) rfl rfl ?_
  refine hl_ld C rfl h1 ?_
  show hl_R p l e s m below meth c b D ad t0 t1 t2 1299 (hl_L i x5 x6 x7) [.int (xs (i + Int32.ofInt 1).toNatClampNeg), .ref 47] M1 (n - 0)
  refine hl_sN C [1300, 1302, 1303, 1304] (pc' := 1304) (L' := (hl_L i x5 x6 x7)) (st' := [.int (i + (Int32.ofInt 2)), .ref 60, .int (xs (i + Int32.ofInt 1).toNatClampNeg), .ref 47]) rfl rfl ?_
  refine hl_ld C rfl h2 ?_
  show hl_R p l e s m below meth c b D ad t0 t1 t2 1305 (hl_L i x5 x6 x7) [.int (xs (i + Int32.ofInt 2).toNatClampNeg), .int (xs (i + Int32.ofInt 1).toNatClampNeg), .ref 47] M1 (n - 0)
  refine hl_cv C 233 rfl rfl rfl rfl (by decide) hI1 (hl_r47 hI1 [.int (xs (i + Int32.ofInt 1).toNatClampNeg), .int (xs (i + Int32.ofInt 2).toNatClampNeg)]) (Nat.le_of_ble_eq_true rfl) (Nat.le_of_ble_eq_true rfl) (Nat.le_of_ble_eq_true rfl) ⟨rfl, ⟨_, rfl, ha_rng _⟩, ⟨_, rfl, ha_rng _⟩, trivial⟩ rfl (by omega) (fun rv2 M2 hr2 hI2 hw2 => ?_)
  obtain ⟨z2, rfl⟩ := hl_ri hr2
  show hl_R p l e s m below meth c b D ad t0 t1 t2 1308 (hl_L i x5 x6 x7) [.int z2] M2 (n - 0 - 0)
  refine hl_sN C [1309, 1796] (pc' := 1796) (L' := (hl_L i x5 x6 x7)) (st' := []) rfl rfl ?_
  exact hl_mono (by omega) (kk M2 _ _ _ hI2 (hl_Aq hA hw1 hw2 rfl rfl (by decide) (by decide)))
set_option maxRecDepth 10000 in
theorem hl_k32 (C : hl_C p l s m meth c b N xs D ad t0 t1 t2) {M : hzMem} {n : Nat} {i : Int32} {x5 x6 x7 : Option Value} (hI : hl_I M) (hA : hl_St M) (h1 : vp_in (i + Int32.ofInt 1) N) (h2 : vp_in (i + Int32.ofInt 2) N) (h3 : vp_in (i + Int32.ofInt 3) N) (h4 : vp_in (i + Int32.ofInt 4) N) (h5 : vp_in (i + Int32.ofInt 5) N) (hn : 1 ≤ n) (kk : ∀ (M' : hzMem) (y5 y6 y7 : Option Value), hl_I M' → hl_St M' → hl_R p l e s m below meth c b D ad t0 t1 t2 1796 (hl_L i y5 y6 y7) [] M' (n - 1)) : hl_R p l e s m below meth c b D ad t0 t1 t2 1312 (hl_L i x5 x6 x7) [] M n := by
  refine hl_sN C [1313, 1314, 1316, 1317, 1318] (pc' := 1318) (L' := (hl_L i x5 x6 x7)) (st' := [.int (i + (Int32.ofInt 1)), .ref 60, .ref 0]) rfl rfl ?_
  refine hl_ld C rfl h1 ?_
  show hl_R p l e s m below meth c b D ad t0 t1 t2 1319 (hl_L i x5 x6 x7) [.int (xs (i + Int32.ofInt 1).toNatClampNeg), .ref 0] M (n)
  refine hl_sN C [1320, 1322, 1323, 1324] (pc' := 1324) (L' := (hl_L i x5 x6 x7)) (st' := [.int (i + (Int32.ofInt 2)), .ref 60, .int (xs (i + Int32.ofInt 1).toNatClampNeg), .ref 0]) rfl rfl ?_
  refine hl_ld C rfl h2 ?_
  show hl_R p l e s m below meth c b D ad t0 t1 t2 1325 (hl_L i x5 x6 x7) [.int (xs (i + Int32.ofInt 2).toNatClampNeg), .int (xs (i + Int32.ofInt 1).toNatClampNeg), .ref 0] M (n)
  refine hl_cv C 162 rfl rfl rfl rfl (by decide) hI (hl_r0 hI [.int (xs (i + Int32.ofInt 1).toNatClampNeg), .int (xs (i + Int32.ofInt 2).toNatClampNeg)]) (Nat.le_of_ble_eq_true rfl) (Nat.le_of_ble_eq_true rfl) (Nat.le_of_ble_eq_true rfl) ⟨rfl, ⟨_, rfl, ha_rng _⟩, ⟨_, rfl, ha_rng _⟩, trivial⟩ rfl (by omega) (fun rv1 M1 hr1 hI1 hw1 => ?_)
  obtain ⟨z1, rfl⟩ := hl_ri hr1
  show hl_R p l e s m below meth c b D ad t0 t1 t2 1328 (hl_L i x5 x6 x7) [.int z1] M1 (n - 0)
  refine hl_sN C [1329, 1330, 1331, 1333, 1334, 1335] (pc' := 1335) (L' := (hl_L i x5 x6 x7)) (st' := [.int (i + (Int32.ofInt 1)), .ref 60, .ref 47]) rfl rfl ?_
  refine hl_ld C rfl h1 ?_
  show hl_R p l e s m below meth c b D ad t0 t1 t2 1336 (hl_L i x5 x6 x7) [.int (xs (i + Int32.ofInt 1).toNatClampNeg), .ref 47] M1 (n - 0)
  refine hl_sN C [1337, 1339, 1340, 1341] (pc' := 1341) (L' := (hl_L i x5 x6 x7)) (st' := [.int (i + (Int32.ofInt 2)), .ref 60, .int (xs (i + Int32.ofInt 1).toNatClampNeg), .ref 47]) rfl rfl ?_
  refine hl_ld C rfl h2 ?_
  show hl_R p l e s m below meth c b D ad t0 t1 t2 1342 (hl_L i x5 x6 x7) [.int (xs (i + Int32.ofInt 2).toNatClampNeg), .int (xs (i + Int32.ofInt 1).toNatClampNeg), .ref 47] M1 (n - 0)
  refine hl_cv C 234 rfl rfl rfl rfl (by decide) hI1 (hl_r47 hI1 [.int (xs (i + Int32.ofInt 1).toNatClampNeg), .int (xs (i + Int32.ofInt 2).toNatClampNeg)]) (Nat.le_of_ble_eq_true rfl) (Nat.le_of_ble_eq_true rfl) (Nat.le_of_ble_eq_true rfl) ⟨rfl, ⟨_, rfl, ha_rng _⟩, ⟨_, rfl, ha_rng _⟩, trivial⟩ rfl (by omega) (fun rv2 M2 hr2 hI2 hw2 => ?_)
  obtain ⟨z2, rfl⟩ := hl_ri hr2
  show hl_R p l e s m below meth c b D ad t0 t1 t2 1345 (hl_L i x5 x6 x7) [.int z2] M2 (n - 0 - 0)
  refine hl_sN C [1346, 1796] (pc' := 1796) (L' := (hl_L i x5 x6 x7)) (st' := []) rfl rfl ?_
  exact hl_mono (by omega) (kk M2 _ _ _ hI2 (hl_Aq hA hw1 hw2 rfl rfl (by decide) (by decide)))
set_option maxRecDepth 10000 in
theorem hl_k33 (C : hl_C p l s m meth c b N xs D ad t0 t1 t2) {M : hzMem} {n : Nat} {i : Int32} {x5 x6 x7 : Option Value} (hI : hl_I M) (hA : hl_St M) (h1 : vp_in (i + Int32.ofInt 1) N) (h2 : vp_in (i + Int32.ofInt 2) N) (h3 : vp_in (i + Int32.ofInt 3) N) (h4 : vp_in (i + Int32.ofInt 4) N) (h5 : vp_in (i + Int32.ofInt 5) N) (hn : 1 ≤ n) (kk : ∀ (M' : hzMem) (y5 y6 y7 : Option Value), hl_I M' → hl_St M' → hl_R p l e s m below meth c b D ad t0 t1 t2 1796 (hl_L i y5 y6 y7) [] M' (n - 1)) : hl_R p l e s m below meth c b D ad t0 t1 t2 1349 (hl_L i x5 x6 x7) [] M n := by
  obtain ⟨X, S, hX, hS⟩ := hp_of2 hI
  obtain ⟨σ, h0, hC, hM⟩ := hI.2.2.2
  have hsh := hl_sh h0 hC hM
  have hA0 := hA
  unfold hl_St at hA0
  rw [← hS] at hA0 hsh
  subst hX
  have hK1 := hk_33 (X := X) S (xs (i + Int32.ofInt 1).toNatClampNeg)
  have hK2 := hk_151 (X := X) (hq_33 S (xs (i + Int32.ofInt 1).toNatClampNeg)).2 (xs (i + Int32.ofInt 1).toNatClampNeg)
  have key := hm_q33 hA0 hsh.1 (xs (i + Int32.ofInt 1).toNatClampNeg)
  generalize hq_33 S (xs (i + Int32.ofInt 1).toNatClampNeg) = R1 at hK1 hK2 key
  generalize hq_151 R1.2 (xs (i + Int32.ofInt 1).toNatClampNeg) = R2 at hK2 key
  refine hl_sN C [1350, 1351, 1353, 1354, 1355] (pc' := 1355) (L' := (hl_L i x5 x6 x7)) (st' := [.int (i + (Int32.ofInt 1)), .ref 60, .ref 0]) rfl rfl ?_
  refine hl_ld C rfl h1 ?_
  show hl_R p l e s m below meth c b D ad t0 t1 t2 1356 (hl_L i x5 x6 x7) [.int (xs (i + Int32.ofInt 1).toNatClampNeg), .ref 0] (hp_mem X S) (n)
  refine hl_cx C 163 rfl rfl rfl rfl (by decide) hI (hl_r0 hI [.int (xs (i + Int32.ofInt 1).toNatClampNeg)]) (Nat.le_of_ble_eq_true rfl) (Nat.le_of_ble_eq_true rfl) (Nat.le_of_ble_eq_true rfl) ⟨rfl, ⟨_, rfl, ha_rng _⟩, trivial⟩ rfl (by omega) hK1 (fun hI1 hw1 => ?_)
  show hl_R p l e s m below meth c b D ad t0 t1 t2 1359 (hl_L i x5 x6 x7) [.int R1.1] (hp_mem X R1.2) (n - 0)
  refine hl_sN C [1360, 1361, 1363, 1364, 1365] (pc' := 1365) (L' := (hl_L i x5 x6 x7)) (st' := [.int (i + (Int32.ofInt 1)), .ref 60, .ref 47, .int R1.1]) rfl rfl ?_
  refine hl_ld C rfl h1 ?_
  show hl_R p l e s m below meth c b D ad t0 t1 t2 1366 (hl_L i x5 x6 x7) [.int (xs (i + Int32.ofInt 1).toNatClampNeg), .ref 47, .int R1.1] (hp_mem X R1.2) (n - 0)
  refine hl_cx C 235 rfl rfl rfl rfl (by decide) hI1 (hl_r47 hI1 [.int (xs (i + Int32.ofInt 1).toNatClampNeg)]) (Nat.le_of_ble_eq_true rfl) (Nat.le_of_ble_eq_true rfl) (Nat.le_of_ble_eq_true rfl) ⟨rfl, ⟨_, rfl, ha_rng _⟩, trivial⟩ rfl (by omega) hK2 (fun hI2 hw2 => ?_)
  show hl_R p l e s m below meth c b D ad t0 t1 t2 1369 (hl_L i x5 x6 x7) [.int R2.1, .int R1.1] (hp_mem X R2.2) (n - 0 - 0)
  refine hl_ic C rfl (fun _ => ?_) (fun h => absurd (show hz_cmp .eq R1.1 R2.1 = true from decide_eq_true key) (by rw [h]; exact Bool.false_ne_true))
  show hl_R p l e s m below meth c b D ad t0 t1 t2 1796 (hl_L i x5 x6 x7) [] (hp_mem X R2.2) (n - 0 - 0)
  exact hl_mono (by omega) (kk (hp_mem X R2.2) _ _ _ hI2 (hl_Aq hA hw1 hw2 rfl rfl (by decide) (by decide)))
set_option maxRecDepth 10000 in
theorem hl_k34 (C : hl_C p l s m meth c b N xs D ad t0 t1 t2) {M : hzMem} {n : Nat} {i : Int32} {x5 x6 x7 : Option Value} (hI : hl_I M) (hA : hl_St M) (h1 : vp_in (i + Int32.ofInt 1) N) (h2 : vp_in (i + Int32.ofInt 2) N) (h3 : vp_in (i + Int32.ofInt 3) N) (h4 : vp_in (i + Int32.ofInt 4) N) (h5 : vp_in (i + Int32.ofInt 5) N) (hn : 1 ≤ n) (kk : ∀ (M' : hzMem) (y5 y6 y7 : Option Value), hl_I M' → hl_St M' → hl_R p l e s m below meth c b D ad t0 t1 t2 1796 (hl_L i y5 y6 y7) [] M' (n - 1)) : hl_R p l e s m below meth c b D ad t0 t1 t2 1374 (hl_L i x5 x6 x7) [] M n := by
  refine hl_sN C [1375, 1376, 1378, 1379, 1380] (pc' := 1380) (L' := (hl_L i x5 x6 x7)) (st' := [.int (i + (Int32.ofInt 1)), .ref 60, .ref 0]) rfl rfl ?_
  refine hl_ld C rfl h1 ?_
  show hl_R p l e s m below meth c b D ad t0 t1 t2 1381 (hl_L i x5 x6 x7) [.int (xs (i + Int32.ofInt 1).toNatClampNeg), .ref 0] M (n)
  refine hl_sN C [1382, 1384, 1385, 1386] (pc' := 1386) (L' := (hl_L i x5 x6 x7)) (st' := [.int (i + (Int32.ofInt 2)), .ref 60, .int (xs (i + Int32.ofInt 1).toNatClampNeg), .ref 0]) rfl rfl ?_
  refine hl_ld C rfl h2 ?_
  show hl_R p l e s m below meth c b D ad t0 t1 t2 1387 (hl_L i x5 x6 x7) [.int (xs (i + Int32.ofInt 2).toNatClampNeg), .int (xs (i + Int32.ofInt 1).toNatClampNeg), .ref 0] M (n)
  refine hl_sN C [1388, 1390, 1391, 1392] (pc' := 1392) (L' := (hl_L i x5 x6 x7)) (st' := [.int (i + (Int32.ofInt 3)), .ref 60, .int (xs (i + Int32.ofInt 2).toNatClampNeg), .int (xs (i + Int32.ofInt 1).toNatClampNeg), .ref 0]) rfl rfl ?_
  refine hl_ld C rfl h3 ?_
  show hl_R p l e s m below meth c b D ad t0 t1 t2 1393 (hl_L i x5 x6 x7) [.int (xs (i + Int32.ofInt 3).toNatClampNeg), .int (xs (i + Int32.ofInt 2).toNatClampNeg), .int (xs (i + Int32.ofInt 1).toNatClampNeg), .ref 0] M (n)
  refine hl_cv C 164 rfl rfl rfl rfl (by decide) hI (hl_r0 hI [.int (xs (i + Int32.ofInt 1).toNatClampNeg), .int (xs (i + Int32.ofInt 2).toNatClampNeg), .int (xs (i + Int32.ofInt 3).toNatClampNeg)]) (Nat.le_of_ble_eq_true rfl) (Nat.le_of_ble_eq_true rfl) (Nat.le_of_ble_eq_true rfl) ⟨rfl, ⟨_, rfl, ha_rng _⟩, ⟨_, rfl, ha_rng _⟩, ⟨_, rfl, ha_rng _⟩, trivial⟩ rfl (by omega) (fun rv1 M1 hr1 hI1 hw1 => ?_)
  obtain ⟨z1, rfl⟩ := hl_ri hr1
  show hl_R p l e s m below meth c b D ad t0 t1 t2 1396 (hl_L i x5 x6 x7) [.int z1] M1 (n - 0)
  refine hl_sN C [1397, 1398, 1399, 1401, 1402, 1403] (pc' := 1403) (L' := (hl_L i x5 x6 x7)) (st' := [.int (i + (Int32.ofInt 1)), .ref 60, .ref 47]) rfl rfl ?_
  refine hl_ld C rfl h1 ?_
  show hl_R p l e s m below meth c b D ad t0 t1 t2 1404 (hl_L i x5 x6 x7) [.int (xs (i + Int32.ofInt 1).toNatClampNeg), .ref 47] M1 (n - 0)
  refine hl_sN C [1405, 1407, 1408, 1409] (pc' := 1409) (L' := (hl_L i x5 x6 x7)) (st' := [.int (i + (Int32.ofInt 2)), .ref 60, .int (xs (i + Int32.ofInt 1).toNatClampNeg), .ref 47]) rfl rfl ?_
  refine hl_ld C rfl h2 ?_
  show hl_R p l e s m below meth c b D ad t0 t1 t2 1410 (hl_L i x5 x6 x7) [.int (xs (i + Int32.ofInt 2).toNatClampNeg), .int (xs (i + Int32.ofInt 1).toNatClampNeg), .ref 47] M1 (n - 0)
  refine hl_sN C [1411, 1413, 1414, 1415] (pc' := 1415) (L' := (hl_L i x5 x6 x7)) (st' := [.int (i + (Int32.ofInt 3)), .ref 60, .int (xs (i + Int32.ofInt 2).toNatClampNeg), .int (xs (i + Int32.ofInt 1).toNatClampNeg), .ref 47]) rfl rfl ?_
  refine hl_ld C rfl h3 ?_
  show hl_R p l e s m below meth c b D ad t0 t1 t2 1416 (hl_L i x5 x6 x7) [.int (xs (i + Int32.ofInt 3).toNatClampNeg), .int (xs (i + Int32.ofInt 2).toNatClampNeg), .int (xs (i + Int32.ofInt 1).toNatClampNeg), .ref 47] M1 (n - 0)
  have hA1 := hl_Aw hA hw1 rfl (by decide)
  obtain ⟨X, S, hX, hS⟩ := hp_of2 hI1
  subst hX
  have hK := hk_153 (X := X) S (xs (i + Int32.ofInt 1).toNatClampNeg) (xs (i + Int32.ofInt 2).toNatClampNeg) (xs (i + Int32.ofInt 3).toNatClampNeg)
  have hg := hg_153 S (xs (i + Int32.ofInt 1).toNatClampNeg) (xs (i + Int32.ofInt 2).toNatClampNeg) (xs (i + Int32.ofInt 3).toNatClampNeg)
  generalize hq_153 S (xs (i + Int32.ofInt 1).toNatClampNeg) (xs (i + Int32.ofInt 2).toNatClampNeg) (xs (i + Int32.ofInt 3).toNatClampNeg) = R at hK hg
  refine hl_cx C 236 rfl rfl rfl rfl (by decide) hI1 (hl_r47 hI1 [.int (xs (i + Int32.ofInt 1).toNatClampNeg), .int (xs (i + Int32.ofInt 2).toNatClampNeg), .int (xs (i + Int32.ofInt 3).toNatClampNeg)]) (Nat.le_of_ble_eq_true rfl) (Nat.le_of_ble_eq_true rfl) (Nat.le_of_ble_eq_true rfl) ⟨rfl, ⟨_, rfl, ha_rng _⟩, ⟨_, rfl, ha_rng _⟩, ⟨_, rfl, ha_rng _⟩, trivial⟩ rfl (by omega) hK (fun hI2 hw2 => ?_)
  show hl_R p l e s m below meth c b D ad t0 t1 t2 1419 (hl_L i x5 x6 x7) [.int R.1] (hp_mem X R.2) (n - 0 - 0)
  refine hl_sN C [1420, 1796] (pc' := 1796) (L' := (hl_L i x5 x6 x7)) (st' := []) rfl rfl ?_
  exact hl_mono (by omega) (kk (hp_mem X R.2) _ _ _ hI2 (hl_As hA1 hw2 rfl hg))
set_option maxRecDepth 10000 in
theorem hl_k35 (C : hl_C p l s m meth c b N xs D ad t0 t1 t2) {M : hzMem} {n : Nat} {i : Int32} {x5 x6 x7 : Option Value} (hI : hl_I M) (hA : hl_St M) (h1 : vp_in (i + Int32.ofInt 1) N) (h2 : vp_in (i + Int32.ofInt 2) N) (h3 : vp_in (i + Int32.ofInt 3) N) (h4 : vp_in (i + Int32.ofInt 4) N) (h5 : vp_in (i + Int32.ofInt 5) N) (hn : 1 ≤ n) (kk : ∀ (M' : hzMem) (y5 y6 y7 : Option Value), hl_I M' → hl_St M' → hl_R p l e s m below meth c b D ad t0 t1 t2 1796 (hl_L i y5 y6 y7) [] M' (n - 1)) : hl_R p l e s m below meth c b D ad t0 t1 t2 1423 (hl_L i x5 x6 x7) [] M n := by
  obtain ⟨X, S, hX, hS⟩ := hp_of2 hI
  obtain ⟨σ, h0, hC, hM⟩ := hI.2.2.2
  have hsh := hl_sh h0 hC hM
  have hA0 := hA
  unfold hl_St at hA0
  rw [← hS] at hA0 hsh
  subst hX
  have hK1 := hk_35 (X := X) S 
  have hK2 := hk_154 (X := X) (hq_35 S).2 
  have key := hm_s35 hA0 
  generalize hq_35 S  = R1 at hK1 hK2 key
  generalize hq_154 R1.2  = R2 at hK2 key
  refine hl_sN C [1424] (pc' := 1424) (L' := (hl_L i x5 x6 x7)) (st' := [.ref 0]) rfl rfl ?_
  refine hl_cx C 168 rfl rfl rfl rfl (by decide) hI (hl_r0 hI []) (Nat.le_of_ble_eq_true rfl) (Nat.le_of_ble_eq_true rfl) (Nat.le_of_ble_eq_true rfl) ⟨rfl, trivial⟩ rfl (by omega) hK1 (fun hI1 hw1 => ?_)
  show hl_R p l e s m below meth c b D ad t0 t1 t2 1427 (hl_L i x5 x6 x7) [.int R1.1] (hp_mem X R1.2) (n - 0)
  refine hl_sN C [1428, 1429] (pc' := 1429) (L' := (hl_L i x5 x6 x7)) (st' := [.ref 47]) rfl rfl ?_
  refine hl_cx C 239 rfl rfl rfl rfl (by decide) hI1 (hl_r47 hI1 []) (Nat.le_of_ble_eq_true rfl) (Nat.le_of_ble_eq_true rfl) (Nat.le_of_ble_eq_true rfl) ⟨rfl, trivial⟩ rfl (by omega) hK2 (fun hI2 hw2 => ?_)
  show hl_R p l e s m below meth c b D ad t0 t1 t2 1432 (hl_L i x5 x6 x7) [.int R2.1] (hp_mem X R2.2) (n - 0 - 0)
  refine hl_sN C [1433, 1796] (pc' := 1796) (L' := (hl_L i x5 x6 x7)) (st' := []) rfl rfl ?_
  exact hl_mono (by omega) (kk (hp_mem X R2.2) _ _ _ hI2 (hl_Am X key.2))
set_option maxRecDepth 10000 in
theorem hl_k36 (C : hl_C p l s m meth c b N xs D ad t0 t1 t2) {M : hzMem} {n : Nat} {i : Int32} {x5 x6 x7 : Option Value} (hI : hl_I M) (hA : hl_St M) (h1 : vp_in (i + Int32.ofInt 1) N) (h2 : vp_in (i + Int32.ofInt 2) N) (h3 : vp_in (i + Int32.ofInt 3) N) (h4 : vp_in (i + Int32.ofInt 4) N) (h5 : vp_in (i + Int32.ofInt 5) N) (hn : 1 ≤ n) (kk : ∀ (M' : hzMem) (y5 y6 y7 : Option Value), hl_I M' → hl_St M' → hl_R p l e s m below meth c b D ad t0 t1 t2 1796 (hl_L i y5 y6 y7) [] M' (n - 1)) : hl_R p l e s m below meth c b D ad t0 t1 t2 1436 (hl_L i x5 x6 x7) [] M n := by
  obtain ⟨X, S, hX, hS⟩ := hp_of2 hI
  obtain ⟨σ, h0, hC, hM⟩ := hI.2.2.2
  have hsh := hl_sh h0 hC hM
  have hA0 := hA
  unfold hl_St at hA0
  rw [← hS] at hA0 hsh
  subst hX
  have hK1 := hk_36 (X := X) S 
  have hK2 := hk_155 (X := X) (hq_36 S).2 
  have key := hm_s36 hA0 
  generalize hq_36 S  = R1 at hK1 hK2 key
  generalize hq_155 R1.2  = R2 at hK2 key
  refine hl_sN C [1437] (pc' := 1437) (L' := (hl_L i x5 x6 x7)) (st' := [.ref 0]) rfl rfl ?_
  refine hl_cx C 169 rfl rfl rfl rfl (by decide) hI (hl_r0 hI []) (Nat.le_of_ble_eq_true rfl) (Nat.le_of_ble_eq_true rfl) (Nat.le_of_ble_eq_true rfl) ⟨rfl, trivial⟩ rfl (by omega) hK1 (fun hI1 hw1 => ?_)
  show hl_R p l e s m below meth c b D ad t0 t1 t2 1440 (hl_L i x5 x6 x7) [.int R1.1] (hp_mem X R1.2) (n - 0)
  refine hl_sN C [1441, 1442] (pc' := 1442) (L' := (hl_L i x5 x6 x7)) (st' := [.ref 47]) rfl rfl ?_
  refine hl_cx C 240 rfl rfl rfl rfl (by decide) hI1 (hl_r47 hI1 []) (Nat.le_of_ble_eq_true rfl) (Nat.le_of_ble_eq_true rfl) (Nat.le_of_ble_eq_true rfl) ⟨rfl, trivial⟩ rfl (by omega) hK2 (fun hI2 hw2 => ?_)
  show hl_R p l e s m below meth c b D ad t0 t1 t2 1445 (hl_L i x5 x6 x7) [.int R2.1] (hp_mem X R2.2) (n - 0 - 0)
  refine hl_sN C [1446, 1796] (pc' := 1796) (L' := (hl_L i x5 x6 x7)) (st' := []) rfl rfl ?_
  exact hl_mono (by omega) (kk (hp_mem X R2.2) _ _ _ hI2 (hl_Am X key.2))
set_option maxRecDepth 10000 in
theorem hl_k37 (C : hl_C p l s m meth c b N xs D ad t0 t1 t2) {M : hzMem} {n : Nat} {i : Int32} {x5 x6 x7 : Option Value} (hI : hl_I M) (hA : hl_St M) (h1 : vp_in (i + Int32.ofInt 1) N) (h2 : vp_in (i + Int32.ofInt 2) N) (h3 : vp_in (i + Int32.ofInt 3) N) (h4 : vp_in (i + Int32.ofInt 4) N) (h5 : vp_in (i + Int32.ofInt 5) N) (hn : 1 ≤ n) (kk : ∀ (M' : hzMem) (y5 y6 y7 : Option Value), hl_I M' → hl_St M' → hl_R p l e s m below meth c b D ad t0 t1 t2 1796 (hl_L i y5 y6 y7) [] M' (n - 1)) : hl_R p l e s m below meth c b D ad t0 t1 t2 1449 (hl_L i x5 x6 x7) [] M n := by
  refine hl_sN C [1450, 1451, 1453, 1454, 1455] (pc' := 1455) (L' := (hl_L i x5 x6 x7)) (st' := [.int (i + (Int32.ofInt 1)), .ref 60, .ref 0]) rfl rfl ?_
  refine hl_ld C rfl h1 ?_
  show hl_R p l e s m below meth c b D ad t0 t1 t2 1456 (hl_L i x5 x6 x7) [.int (xs (i + Int32.ofInt 1).toNatClampNeg), .ref 0] M (n)
  refine hl_cv C 136 rfl rfl rfl rfl (by decide) hI (hl_r0 hI [.int (xs (i + Int32.ofInt 1).toNatClampNeg)]) (Nat.le_of_ble_eq_true rfl) (Nat.le_of_ble_eq_true rfl) (Nat.le_of_ble_eq_true rfl) ⟨rfl, ⟨_, rfl, ha_rng _⟩, trivial⟩ rfl (by omega) (fun rv1 M1 hr1 hI1 hw1 => ?_)
  obtain ⟨z1, rfl⟩ := hl_ri hr1
  show hl_R p l e s m below meth c b D ad t0 t1 t2 1459 (hl_L i x5 x6 x7) [.int z1] M1 (n - 0)
  refine hl_sN C [1460, 1461, 1462, 1464, 1465, 1466] (pc' := 1466) (L' := (hl_L i x5 x6 x7)) (st' := [.int (i + (Int32.ofInt 1)), .ref 60, .ref 47]) rfl rfl ?_
  refine hl_ld C rfl h1 ?_
  show hl_R p l e s m below meth c b D ad t0 t1 t2 1467 (hl_L i x5 x6 x7) [.int (xs (i + Int32.ofInt 1).toNatClampNeg), .ref 47] M1 (n - 0)
  refine hl_cv C 206 rfl rfl rfl rfl (by decide) hI1 (hl_r47 hI1 [.int (xs (i + Int32.ofInt 1).toNatClampNeg)]) (Nat.le_of_ble_eq_true rfl) (Nat.le_of_ble_eq_true rfl) (Nat.le_of_ble_eq_true rfl) ⟨rfl, ⟨_, rfl, ha_rng _⟩, trivial⟩ rfl (by omega) (fun rv2 M2 hr2 hI2 hw2 => ?_)
  obtain ⟨z2, rfl⟩ := hl_ri hr2
  show hl_R p l e s m below meth c b D ad t0 t1 t2 1470 (hl_L i x5 x6 x7) [.int z2] M2 (n - 0 - 0)
  refine hl_sN C [1471, 1796] (pc' := 1796) (L' := (hl_L i x5 x6 x7)) (st' := []) rfl rfl ?_
  exact hl_mono (by omega) (kk M2 _ _ _ hI2 (hl_Aq hA hw1 hw2 rfl rfl (by decide) (by decide)))
set_option maxRecDepth 10000 in
theorem hl_k38 (C : hl_C p l s m meth c b N xs D ad t0 t1 t2) {M : hzMem} {n : Nat} {i : Int32} {x5 x6 x7 : Option Value} (hI : hl_I M) (hA : hl_St M) (h1 : vp_in (i + Int32.ofInt 1) N) (h2 : vp_in (i + Int32.ofInt 2) N) (h3 : vp_in (i + Int32.ofInt 3) N) (h4 : vp_in (i + Int32.ofInt 4) N) (h5 : vp_in (i + Int32.ofInt 5) N) (hn : 1 ≤ n) (kk : ∀ (M' : hzMem) (y5 y6 y7 : Option Value), hl_I M' → hl_St M' → hl_R p l e s m below meth c b D ad t0 t1 t2 1796 (hl_L i y5 y6 y7) [] M' (n - 1)) : hl_R p l e s m below meth c b D ad t0 t1 t2 1474 (hl_L i x5 x6 x7) [] M n := by
  refine hl_sN C [1475, 1476, 1478, 1479, 1480] (pc' := 1480) (L' := (hl_L i x5 x6 x7)) (st' := [.int (i + (Int32.ofInt 1)), .ref 60, .ref 0]) rfl rfl ?_
  refine hl_ld C rfl h1 ?_
  show hl_R p l e s m below meth c b D ad t0 t1 t2 1481 (hl_L i x5 x6 x7) [.int (xs (i + Int32.ofInt 1).toNatClampNeg), .ref 0] M (n)
  refine hl_sN C [1482, 1484, 1485, 1486] (pc' := 1486) (L' := (hl_L i x5 x6 x7)) (st' := [.int (i + (Int32.ofInt 2)), .ref 60, .int (xs (i + Int32.ofInt 1).toNatClampNeg), .ref 0]) rfl rfl ?_
  refine hl_ld C rfl h2 ?_
  show hl_R p l e s m below meth c b D ad t0 t1 t2 1487 (hl_L i x5 x6 x7) [.int (xs (i + Int32.ofInt 2).toNatClampNeg), .int (xs (i + Int32.ofInt 1).toNatClampNeg), .ref 0] M (n)
  refine hl_sN C [1488, 1490, 1491, 1492] (pc' := 1492) (L' := (hl_L i x5 x6 x7)) (st' := [.int (i + (Int32.ofInt 3)), .ref 60, .int (xs (i + Int32.ofInt 2).toNatClampNeg), .int (xs (i + Int32.ofInt 1).toNatClampNeg), .ref 0]) rfl rfl ?_
  refine hl_ld C rfl h3 ?_
  show hl_R p l e s m below meth c b D ad t0 t1 t2 1493 (hl_L i x5 x6 x7) [.int (xs (i + Int32.ofInt 3).toNatClampNeg), .int (xs (i + Int32.ofInt 2).toNatClampNeg), .int (xs (i + Int32.ofInt 1).toNatClampNeg), .ref 0] M (n)
  refine hl_sN C [1494, 1496, 1497, 1498] (pc' := 1498) (L' := (hl_L i x5 x6 x7)) (st' := [.int (i + (Int32.ofInt 4)), .ref 60, .int (xs (i + Int32.ofInt 3).toNatClampNeg), .int (xs (i + Int32.ofInt 2).toNatClampNeg), .int (xs (i + Int32.ofInt 1).toNatClampNeg), .ref 0]) rfl rfl ?_
  refine hl_ld C rfl h4 ?_
  show hl_R p l e s m below meth c b D ad t0 t1 t2 1499 (hl_L i x5 x6 x7) [.int (xs (i + Int32.ofInt 4).toNatClampNeg), .int (xs (i + Int32.ofInt 3).toNatClampNeg), .int (xs (i + Int32.ofInt 2).toNatClampNeg), .int (xs (i + Int32.ofInt 1).toNatClampNeg), .ref 0] M (n)
  obtain ⟨σ, h0, hC, hM⟩ := hI.2.2.2
  obtain ⟨fu1, M1, hr1, hw1, hC1⟩ := hs_c38 hx_no hI.1 hC (xs (i + Int32.ofInt 1).toNatClampNeg) (xs (i + Int32.ofInt 2).toNatClampNeg) (xs (i + Int32.ofInt 3).toNatClampNeg) (xs (i + Int32.ofInt 4).toNatClampNeg)
  refine hl_call C rfl rfl rfl (by decide) (hl_r0 hI [.int (xs (i + Int32.ofInt 1).toNatClampNeg), .int (xs (i + Int32.ofInt 2).toNatClampNeg), .int (xs (i + Int32.ofInt 3).toNatClampNeg), .int (xs (i + Int32.ofInt 4).toNatClampNeg)]) (Nat.le_of_ble_eq_true rfl) (Nat.le_of_ble_eq_true rfl) (Nat.le_of_ble_eq_true rfl) (hl_Cr (q := hzq_38) rfl (by decide) hr1) (Nat.zero_le _) ?_
  show hl_R p l e s m below meth c b D ad t0 t1 t2 1502 (hl_L i x5 x6 x7) [.int (sp_keep σ (xs (i + Int32.ofInt 1).toNatClampNeg) (xs (i + Int32.ofInt 2).toNatClampNeg) (xs (i + Int32.ofInt 3).toNatClampNeg) (xs (i + Int32.ofInt 4).toNatClampNeg)).1] M1 (n - 0)
  refine hl_sN C [1503, 1504, 1505, 1507, 1508, 1509] (pc' := 1509) (L' := (hl_L i x5 x6 x7)) (st' := [.int (i + (Int32.ofInt 1)), .ref 60, .ref 47]) rfl rfl ?_
  refine hl_ld C rfl h1 ?_
  show hl_R p l e s m below meth c b D ad t0 t1 t2 1510 (hl_L i x5 x6 x7) [.int (xs (i + Int32.ofInt 1).toNatClampNeg), .ref 47] M1 (n - 0)
  refine hl_sN C [1511, 1513, 1514, 1515] (pc' := 1515) (L' := (hl_L i x5 x6 x7)) (st' := [.int (i + (Int32.ofInt 2)), .ref 60, .int (xs (i + Int32.ofInt 1).toNatClampNeg), .ref 47]) rfl rfl ?_
  refine hl_ld C rfl h2 ?_
  show hl_R p l e s m below meth c b D ad t0 t1 t2 1516 (hl_L i x5 x6 x7) [.int (xs (i + Int32.ofInt 2).toNatClampNeg), .int (xs (i + Int32.ofInt 1).toNatClampNeg), .ref 47] M1 (n - 0)
  refine hl_sN C [1517, 1519, 1520, 1521] (pc' := 1521) (L' := (hl_L i x5 x6 x7)) (st' := [.int (i + (Int32.ofInt 3)), .ref 60, .int (xs (i + Int32.ofInt 2).toNatClampNeg), .int (xs (i + Int32.ofInt 1).toNatClampNeg), .ref 47]) rfl rfl ?_
  refine hl_ld C rfl h3 ?_
  show hl_R p l e s m below meth c b D ad t0 t1 t2 1522 (hl_L i x5 x6 x7) [.int (xs (i + Int32.ofInt 3).toNatClampNeg), .int (xs (i + Int32.ofInt 2).toNatClampNeg), .int (xs (i + Int32.ofInt 1).toNatClampNeg), .ref 47] M1 (n - 0)
  refine hl_sN C [1523, 1525, 1526, 1527] (pc' := 1527) (L' := (hl_L i x5 x6 x7)) (st' := [.int (i + (Int32.ofInt 4)), .ref 60, .int (xs (i + Int32.ofInt 3).toNatClampNeg), .int (xs (i + Int32.ofInt 2).toNatClampNeg), .int (xs (i + Int32.ofInt 1).toNatClampNeg), .ref 47]) rfl rfl ?_
  refine hl_ld C rfl h4 ?_
  show hl_R p l e s m below meth c b D ad t0 t1 t2 1528 (hl_L i x5 x6 x7) [.int (xs (i + Int32.ofInt 4).toNatClampNeg), .int (xs (i + Int32.ofInt 3).toNatClampNeg), .int (xs (i + Int32.ofInt 2).toNatClampNeg), .int (xs (i + Int32.ofInt 1).toNatClampNeg), .ref 47] M1 (n - 0)
  obtain ⟨fu2, M2, hr2, hw2, hM2⟩ := hs_m160 hx_no hw1.1 (hl_M1 hM hw1) (xs (i + Int32.ofInt 1).toNatClampNeg) (xs (i + Int32.ofInt 2).toNatClampNeg) (xs (i + Int32.ofInt 3).toNatClampNeg) (xs (i + Int32.ofInt 4).toNatClampNeg)
  refine hl_call C rfl rfl rfl (by decide) (hl_k47 hw1.1 [.int (xs (i + Int32.ofInt 1).toNatClampNeg), .int (xs (i + Int32.ofInt 2).toNatClampNeg), .int (xs (i + Int32.ofInt 3).toNatClampNeg), .int (xs (i + Int32.ofInt 4).toNatClampNeg)]) (Nat.le_of_ble_eq_true rfl) (Nat.le_of_ble_eq_true rfl) (Nat.le_of_ble_eq_true rfl) (hl_Cr (q := hzq_160) rfl (by decide) hr2) (Nat.zero_le _) ?_
  have hI2 := hl_Isp hI (hl_keep_ok h0) hw1 hC1 hw2 hM2
  show hl_R p l e s m below meth c b D ad t0 t1 t2 1531 (hl_L i x5 x6 x7) [.int (sp_keep σ (xs (i + Int32.ofInt 1).toNatClampNeg) (xs (i + Int32.ofInt 2).toNatClampNeg) (xs (i + Int32.ofInt 3).toNatClampNeg) (xs (i + Int32.ofInt 4).toNatClampNeg)).1] M2 (n - 0 - 0)
  refine hl_sN C [1532, 1796] (pc' := 1796) (L' := (hl_L i x5 x6 x7)) (st' := []) rfl rfl ?_
  exact hl_mono (by omega) (kk M2 _ _ _ hI2 (hl_Aq hA hw1 hw2 rfl rfl (by decide) (by decide)))
set_option maxRecDepth 10000 in
theorem hl_k39 (C : hl_C p l s m meth c b N xs D ad t0 t1 t2) {M : hzMem} {n : Nat} {i : Int32} {x5 x6 x7 : Option Value} (hI : hl_I M) (hA : hl_St M) (h1 : vp_in (i + Int32.ofInt 1) N) (h2 : vp_in (i + Int32.ofInt 2) N) (h3 : vp_in (i + Int32.ofInt 3) N) (h4 : vp_in (i + Int32.ofInt 4) N) (h5 : vp_in (i + Int32.ofInt 5) N) (hn : 1 ≤ n) (kk : ∀ (M' : hzMem) (y5 y6 y7 : Option Value), hl_I M' → hl_St M' → hl_R p l e s m below meth c b D ad t0 t1 t2 1796 (hl_L i y5 y6 y7) [] M' (n - 1)) : hl_R p l e s m below meth c b D ad t0 t1 t2 1535 (hl_L i x5 x6 x7) [] M n := by
  refine hl_sN C [1536, 1537, 1539, 1540, 1541] (pc' := 1541) (L' := (hl_L i x5 x6 x7)) (st' := [.int (i + (Int32.ofInt 1)), .ref 60, .ref 0]) rfl rfl ?_
  refine hl_ld C rfl h1 ?_
  show hl_R p l e s m below meth c b D ad t0 t1 t2 1542 (hl_L i x5 x6 x7) [.int (xs (i + Int32.ofInt 1).toNatClampNeg), .ref 0] M (n)
  refine hl_sN C [1543, 1545, 1546, 1547] (pc' := 1547) (L' := (hl_L i x5 x6 x7)) (st' := [.int (i + (Int32.ofInt 2)), .ref 60, .int (xs (i + Int32.ofInt 1).toNatClampNeg), .ref 0]) rfl rfl ?_
  refine hl_ld C rfl h2 ?_
  show hl_R p l e s m below meth c b D ad t0 t1 t2 1548 (hl_L i x5 x6 x7) [.int (xs (i + Int32.ofInt 2).toNatClampNeg), .int (xs (i + Int32.ofInt 1).toNatClampNeg), .ref 0] M (n)
  refine hl_sN C [1549, 1551, 1552, 1553] (pc' := 1553) (L' := (hl_L i x5 x6 x7)) (st' := [.int (i + (Int32.ofInt 3)), .ref 60, .int (xs (i + Int32.ofInt 2).toNatClampNeg), .int (xs (i + Int32.ofInt 1).toNatClampNeg), .ref 0]) rfl rfl ?_
  refine hl_ld C rfl h3 ?_
  show hl_R p l e s m below meth c b D ad t0 t1 t2 1554 (hl_L i x5 x6 x7) [.int (xs (i + Int32.ofInt 3).toNatClampNeg), .int (xs (i + Int32.ofInt 2).toNatClampNeg), .int (xs (i + Int32.ofInt 1).toNatClampNeg), .ref 0] M (n)
  obtain ⟨σ, h0, hC, hM⟩ := hI.2.2.2
  obtain ⟨fu1, M1, hr1, hw1, hC1⟩ := hs_c39 hx_no hI.1 hC (xs (i + Int32.ofInt 1).toNatClampNeg) (xs (i + Int32.ofInt 2).toNatClampNeg) (xs (i + Int32.ofInt 3).toNatClampNeg)
  refine hl_call C rfl rfl rfl (by decide) (hl_r0 hI [.int (xs (i + Int32.ofInt 1).toNatClampNeg), .int (xs (i + Int32.ofInt 2).toNatClampNeg), .int (xs (i + Int32.ofInt 3).toNatClampNeg)]) (Nat.le_of_ble_eq_true rfl) (Nat.le_of_ble_eq_true rfl) (Nat.le_of_ble_eq_true rfl) (hl_Cr (q := hzq_39) rfl (by decide) hr1) (Nat.zero_le _) ?_
  show hl_R p l e s m below meth c b D ad t0 t1 t2 1557 (hl_L i x5 x6 x7) [.int (sp_row σ (xs (i + Int32.ofInt 1).toNatClampNeg) (xs (i + Int32.ofInt 2).toNatClampNeg) (xs (i + Int32.ofInt 3).toNatClampNeg)).1] M1 (n - 0)
  refine hl_sN C [1558, 1559, 1560, 1562, 1563, 1564] (pc' := 1564) (L' := (hl_L i x5 x6 x7)) (st' := [.int (i + (Int32.ofInt 1)), .ref 60, .ref 47]) rfl rfl ?_
  refine hl_ld C rfl h1 ?_
  show hl_R p l e s m below meth c b D ad t0 t1 t2 1565 (hl_L i x5 x6 x7) [.int (xs (i + Int32.ofInt 1).toNatClampNeg), .ref 47] M1 (n - 0)
  refine hl_sN C [1566, 1568, 1569, 1570] (pc' := 1570) (L' := (hl_L i x5 x6 x7)) (st' := [.int (i + (Int32.ofInt 2)), .ref 60, .int (xs (i + Int32.ofInt 1).toNatClampNeg), .ref 47]) rfl rfl ?_
  refine hl_ld C rfl h2 ?_
  show hl_R p l e s m below meth c b D ad t0 t1 t2 1571 (hl_L i x5 x6 x7) [.int (xs (i + Int32.ofInt 2).toNatClampNeg), .int (xs (i + Int32.ofInt 1).toNatClampNeg), .ref 47] M1 (n - 0)
  refine hl_sN C [1572, 1574, 1575, 1576] (pc' := 1576) (L' := (hl_L i x5 x6 x7)) (st' := [.int (i + (Int32.ofInt 3)), .ref 60, .int (xs (i + Int32.ofInt 2).toNatClampNeg), .int (xs (i + Int32.ofInt 1).toNatClampNeg), .ref 47]) rfl rfl ?_
  refine hl_ld C rfl h3 ?_
  show hl_R p l e s m below meth c b D ad t0 t1 t2 1577 (hl_L i x5 x6 x7) [.int (xs (i + Int32.ofInt 3).toNatClampNeg), .int (xs (i + Int32.ofInt 2).toNatClampNeg), .int (xs (i + Int32.ofInt 1).toNatClampNeg), .ref 47] M1 (n - 0)
  obtain ⟨fu2, M2, hr2, hw2, hM2⟩ := hs_m161 hx_no hw1.1 (hl_M1 hM hw1) (xs (i + Int32.ofInt 1).toNatClampNeg) (xs (i + Int32.ofInt 2).toNatClampNeg) (xs (i + Int32.ofInt 3).toNatClampNeg)
  refine hl_call C rfl rfl rfl (by decide) (hl_k47 hw1.1 [.int (xs (i + Int32.ofInt 1).toNatClampNeg), .int (xs (i + Int32.ofInt 2).toNatClampNeg), .int (xs (i + Int32.ofInt 3).toNatClampNeg)]) (Nat.le_of_ble_eq_true rfl) (Nat.le_of_ble_eq_true rfl) (Nat.le_of_ble_eq_true rfl) (hl_Cr (q := hzq_161) rfl (by decide) hr2) (Nat.zero_le _) ?_
  have hI2 := hl_Isp hI (hl_row_ok h0) hw1 hC1 hw2 hM2
  show hl_R p l e s m below meth c b D ad t0 t1 t2 1580 (hl_L i x5 x6 x7) [.int (sp_row σ (xs (i + Int32.ofInt 1).toNatClampNeg) (xs (i + Int32.ofInt 2).toNatClampNeg) (xs (i + Int32.ofInt 3).toNatClampNeg)).1] M2 (n - 0 - 0)
  refine hl_sN C [1581, 1796] (pc' := 1796) (L' := (hl_L i x5 x6 x7)) (st' := []) rfl rfl ?_
  exact hl_mono (by omega) (kk M2 _ _ _ hI2 (hl_Aq hA hw1 hw2 rfl rfl (by decide) (by decide)))
set_option maxRecDepth 10000 in
theorem hl_k40 (C : hl_C p l s m meth c b N xs D ad t0 t1 t2) {M : hzMem} {n : Nat} {i : Int32} {x5 x6 x7 : Option Value} (hI : hl_I M) (hA : hl_St M) (h1 : vp_in (i + Int32.ofInt 1) N) (h2 : vp_in (i + Int32.ofInt 2) N) (h3 : vp_in (i + Int32.ofInt 3) N) (h4 : vp_in (i + Int32.ofInt 4) N) (h5 : vp_in (i + Int32.ofInt 5) N) (hn : 1 ≤ n) (kk : ∀ (M' : hzMem) (y5 y6 y7 : Option Value), hl_I M' → hl_St M' → hl_R p l e s m below meth c b D ad t0 t1 t2 1796 (hl_L i y5 y6 y7) [] M' (n - 1)) : hl_R p l e s m below meth c b D ad t0 t1 t2 1584 (hl_L i x5 x6 x7) [] M n := by
  refine hl_sN C [1585, 1586, 1588, 1589, 1590] (pc' := 1590) (L' := (hl_L i x5 x6 x7)) (st' := [.int (i + (Int32.ofInt 1)), .ref 60, .ref 0]) rfl rfl ?_
  refine hl_ld C rfl h1 ?_
  show hl_R p l e s m below meth c b D ad t0 t1 t2 1591 (hl_L i x5 x6 x7) [.int (xs (i + Int32.ofInt 1).toNatClampNeg), .ref 0] M (n)
  refine hl_sN C [1592, 1594, 1595, 1596] (pc' := 1596) (L' := (hl_L i x5 x6 x7)) (st' := [.int (i + (Int32.ofInt 2)), .ref 60, .int (xs (i + Int32.ofInt 1).toNatClampNeg), .ref 0]) rfl rfl ?_
  refine hl_ld C rfl h2 ?_
  show hl_R p l e s m below meth c b D ad t0 t1 t2 1597 (hl_L i x5 x6 x7) [.int (xs (i + Int32.ofInt 2).toNatClampNeg), .int (xs (i + Int32.ofInt 1).toNatClampNeg), .ref 0] M (n)
  refine hl_sN C [1598, 1600, 1601, 1602] (pc' := 1602) (L' := (hl_L i x5 x6 x7)) (st' := [.int (i + (Int32.ofInt 3)), .ref 60, .int (xs (i + Int32.ofInt 2).toNatClampNeg), .int (xs (i + Int32.ofInt 1).toNatClampNeg), .ref 0]) rfl rfl ?_
  refine hl_ld C rfl h3 ?_
  show hl_R p l e s m below meth c b D ad t0 t1 t2 1603 (hl_L i x5 x6 x7) [.int (xs (i + Int32.ofInt 3).toNatClampNeg), .int (xs (i + Int32.ofInt 2).toNatClampNeg), .int (xs (i + Int32.ofInt 1).toNatClampNeg), .ref 0] M (n)
  obtain ⟨σ, h0, hC, hM⟩ := hI.2.2.2
  obtain ⟨fu1, M1, hr1, hw1, hC1⟩ := hs_c40 hx_no hI.1 hC (xs (i + Int32.ofInt 1).toNatClampNeg) (xs (i + Int32.ofInt 2).toNatClampNeg) (xs (i + Int32.ofInt 3).toNatClampNeg)
  refine hl_call C rfl rfl rfl (by decide) (hl_r0 hI [.int (xs (i + Int32.ofInt 1).toNatClampNeg), .int (xs (i + Int32.ofInt 2).toNatClampNeg), .int (xs (i + Int32.ofInt 3).toNatClampNeg)]) (Nat.le_of_ble_eq_true rfl) (Nat.le_of_ble_eq_true rfl) (Nat.le_of_ble_eq_true rfl) (hl_Cr (q := hzq_40) rfl (by decide) hr1) (Nat.zero_le _) ?_
  show hl_R p l e s m below meth c b D ad t0 t1 t2 1606 (hl_L i x5 x6 x7) [.int (sp_put σ (xs (i + Int32.ofInt 1).toNatClampNeg) (xs (i + Int32.ofInt 2).toNatClampNeg) (xs (i + Int32.ofInt 3).toNatClampNeg)).1] M1 (n - 0)
  refine hl_sN C [1607, 1608, 1609, 1611, 1612, 1613] (pc' := 1613) (L' := (hl_L i x5 x6 x7)) (st' := [.int (i + (Int32.ofInt 1)), .ref 60, .ref 47]) rfl rfl ?_
  refine hl_ld C rfl h1 ?_
  show hl_R p l e s m below meth c b D ad t0 t1 t2 1614 (hl_L i x5 x6 x7) [.int (xs (i + Int32.ofInt 1).toNatClampNeg), .ref 47] M1 (n - 0)
  refine hl_sN C [1615, 1617, 1618, 1619] (pc' := 1619) (L' := (hl_L i x5 x6 x7)) (st' := [.int (i + (Int32.ofInt 2)), .ref 60, .int (xs (i + Int32.ofInt 1).toNatClampNeg), .ref 47]) rfl rfl ?_
  refine hl_ld C rfl h2 ?_
  show hl_R p l e s m below meth c b D ad t0 t1 t2 1620 (hl_L i x5 x6 x7) [.int (xs (i + Int32.ofInt 2).toNatClampNeg), .int (xs (i + Int32.ofInt 1).toNatClampNeg), .ref 47] M1 (n - 0)
  refine hl_sN C [1621, 1623, 1624, 1625] (pc' := 1625) (L' := (hl_L i x5 x6 x7)) (st' := [.int (i + (Int32.ofInt 3)), .ref 60, .int (xs (i + Int32.ofInt 2).toNatClampNeg), .int (xs (i + Int32.ofInt 1).toNatClampNeg), .ref 47]) rfl rfl ?_
  refine hl_ld C rfl h3 ?_
  show hl_R p l e s m below meth c b D ad t0 t1 t2 1626 (hl_L i x5 x6 x7) [.int (xs (i + Int32.ofInt 3).toNatClampNeg), .int (xs (i + Int32.ofInt 2).toNatClampNeg), .int (xs (i + Int32.ofInt 1).toNatClampNeg), .ref 47] M1 (n - 0)
  obtain ⟨fu2, M2, hr2, hw2, hM2⟩ := hs_m162 hx_no hw1.1 (hl_M1 hM hw1) (xs (i + Int32.ofInt 1).toNatClampNeg) (xs (i + Int32.ofInt 2).toNatClampNeg) (xs (i + Int32.ofInt 3).toNatClampNeg)
  refine hl_call C rfl rfl rfl (by decide) (hl_k47 hw1.1 [.int (xs (i + Int32.ofInt 1).toNatClampNeg), .int (xs (i + Int32.ofInt 2).toNatClampNeg), .int (xs (i + Int32.ofInt 3).toNatClampNeg)]) (Nat.le_of_ble_eq_true rfl) (Nat.le_of_ble_eq_true rfl) (Nat.le_of_ble_eq_true rfl) (hl_Cr (q := hzq_162) rfl (by decide) hr2) (Nat.zero_le _) ?_
  have hI2 := hl_Isp hI (hl_put_ok h0) hw1 hC1 hw2 hM2
  show hl_R p l e s m below meth c b D ad t0 t1 t2 1629 (hl_L i x5 x6 x7) [.int (sp_put σ (xs (i + Int32.ofInt 1).toNatClampNeg) (xs (i + Int32.ofInt 2).toNatClampNeg) (xs (i + Int32.ofInt 3).toNatClampNeg)).1] M2 (n - 0 - 0)
  refine hl_sN C [1630, 1796] (pc' := 1796) (L' := (hl_L i x5 x6 x7)) (st' := []) rfl rfl ?_
  exact hl_mono (by omega) (kk M2 _ _ _ hI2 (hl_Aq hA hw1 hw2 rfl rfl (by decide) (by decide)))
set_option maxRecDepth 10000 in
theorem hl_k42 (C : hl_C p l s m meth c b N xs D ad t0 t1 t2) {M : hzMem} {n : Nat} {i : Int32} {x5 x6 x7 : Option Value} (hI : hl_I M) (hA : hl_St M) (h1 : vp_in (i + Int32.ofInt 1) N) (h2 : vp_in (i + Int32.ofInt 2) N) (h3 : vp_in (i + Int32.ofInt 3) N) (h4 : vp_in (i + Int32.ofInt 4) N) (h5 : vp_in (i + Int32.ofInt 5) N) (hn : 1 ≤ n) (kk : ∀ (M' : hzMem) (y5 y6 y7 : Option Value), hl_I M' → hl_St M' → hl_R p l e s m below meth c b D ad t0 t1 t2 1796 (hl_L i y5 y6 y7) [] M' (n - 1)) : hl_R p l e s m below meth c b D ad t0 t1 t2 1673 (hl_L i x5 x6 x7) [] M n := by
  refine hl_sN C [1674, 1675, 1677, 1678, 1679] (pc' := 1679) (L' := (hl_L i x5 x6 x7)) (st' := [.int (i + (Int32.ofInt 1)), .ref 60, .ref 0]) rfl rfl ?_
  refine hl_ld C rfl h1 ?_
  show hl_R p l e s m below meth c b D ad t0 t1 t2 1680 (hl_L i x5 x6 x7) [.int (xs (i + Int32.ofInt 1).toNatClampNeg), .ref 0] M (n)
  refine hl_sN C [1681, 1683, 1684, 1685] (pc' := 1685) (L' := (hl_L i x5 x6 x7)) (st' := [.int (i + (Int32.ofInt 2)), .ref 60, .int (xs (i + Int32.ofInt 1).toNatClampNeg), .ref 0]) rfl rfl ?_
  refine hl_ld C rfl h2 ?_
  show hl_R p l e s m below meth c b D ad t0 t1 t2 1686 (hl_L i x5 x6 x7) [.int (xs (i + Int32.ofInt 2).toNatClampNeg), .int (xs (i + Int32.ofInt 1).toNatClampNeg), .ref 0] M (n)
  refine hl_sN C [1687, 1689, 1690, 1691] (pc' := 1691) (L' := (hl_L i x5 x6 x7)) (st' := [.int (i + (Int32.ofInt 3)), .ref 60, .int (xs (i + Int32.ofInt 2).toNatClampNeg), .int (xs (i + Int32.ofInt 1).toNatClampNeg), .ref 0]) rfl rfl ?_
  refine hl_ld C rfl h3 ?_
  show hl_R p l e s m below meth c b D ad t0 t1 t2 1692 (hl_L i x5 x6 x7) [.int (xs (i + Int32.ofInt 3).toNatClampNeg), .int (xs (i + Int32.ofInt 2).toNatClampNeg), .int (xs (i + Int32.ofInt 1).toNatClampNeg), .ref 0] M (n)
  refine hl_sN C [1693, 1695, 1696, 1697] (pc' := 1697) (L' := (hl_L i x5 x6 x7)) (st' := [.int (i + (Int32.ofInt 4)), .ref 60, .int (xs (i + Int32.ofInt 3).toNatClampNeg), .int (xs (i + Int32.ofInt 2).toNatClampNeg), .int (xs (i + Int32.ofInt 1).toNatClampNeg), .ref 0]) rfl rfl ?_
  refine hl_ld C rfl h4 ?_
  show hl_R p l e s m below meth c b D ad t0 t1 t2 1698 (hl_L i x5 x6 x7) [.int (xs (i + Int32.ofInt 4).toNatClampNeg), .int (xs (i + Int32.ofInt 3).toNatClampNeg), .int (xs (i + Int32.ofInt 2).toNatClampNeg), .int (xs (i + Int32.ofInt 1).toNatClampNeg), .ref 0] M (n)
  refine hl_sN C [1699, 1701, 1702, 1703] (pc' := 1703) (L' := (hl_L i x5 x6 x7)) (st' := [.int (i + (Int32.ofInt 5)), .ref 60, .int (xs (i + Int32.ofInt 4).toNatClampNeg), .int (xs (i + Int32.ofInt 3).toNatClampNeg), .int (xs (i + Int32.ofInt 2).toNatClampNeg), .int (xs (i + Int32.ofInt 1).toNatClampNeg), .ref 0]) rfl rfl ?_
  refine hl_ld C rfl h5 ?_
  show hl_R p l e s m below meth c b D ad t0 t1 t2 1704 (hl_L i x5 x6 x7) [.int (xs (i + Int32.ofInt 5).toNatClampNeg), .int (xs (i + Int32.ofInt 4).toNatClampNeg), .int (xs (i + Int32.ofInt 3).toNatClampNeg), .int (xs (i + Int32.ofInt 2).toNatClampNeg), .int (xs (i + Int32.ofInt 1).toNatClampNeg), .ref 0] M (n)
  obtain ⟨σ, h0, hC, hM⟩ := hI.2.2.2
  obtain ⟨fu1, M1, hr1, hw1, hC1⟩ := hs_c41 hx_no hI.1 hC (xs (i + Int32.ofInt 1).toNatClampNeg) (xs (i + Int32.ofInt 2).toNatClampNeg) (xs (i + Int32.ofInt 3).toNatClampNeg) (xs (i + Int32.ofInt 4).toNatClampNeg) (xs (i + Int32.ofInt 5).toNatClampNeg)
  refine hl_call C rfl rfl rfl (by decide) (hl_r0 hI [.int (xs (i + Int32.ofInt 1).toNatClampNeg), .int (xs (i + Int32.ofInt 2).toNatClampNeg), .int (xs (i + Int32.ofInt 3).toNatClampNeg), .int (xs (i + Int32.ofInt 4).toNatClampNeg), .int (xs (i + Int32.ofInt 5).toNatClampNeg)]) (Nat.le_of_ble_eq_true rfl) (Nat.le_of_ble_eq_true rfl) (Nat.le_of_ble_eq_true rfl) (hl_Cr (q := hzq_41) rfl (by decide) hr1) (Nat.zero_le _) ?_
  show hl_R p l e s m below meth c b D ad t0 t1 t2 1707 (hl_L i x5 x6 x7) [.int (sp_copy σ (xs (i + Int32.ofInt 1).toNatClampNeg) (xs (i + Int32.ofInt 2).toNatClampNeg) (xs (i + Int32.ofInt 3).toNatClampNeg) (xs (i + Int32.ofInt 4).toNatClampNeg) (xs (i + Int32.ofInt 5).toNatClampNeg)).1] M1 (n - 0)
  refine hl_sN C [1708, 1709, 1710, 1712, 1713, 1714] (pc' := 1714) (L' := (hl_L i x5 x6 x7)) (st' := [.int (i + (Int32.ofInt 1)), .ref 60, .ref 47]) rfl rfl ?_
  refine hl_ld C rfl h1 ?_
  show hl_R p l e s m below meth c b D ad t0 t1 t2 1715 (hl_L i x5 x6 x7) [.int (xs (i + Int32.ofInt 1).toNatClampNeg), .ref 47] M1 (n - 0)
  refine hl_sN C [1716, 1718, 1719, 1720] (pc' := 1720) (L' := (hl_L i x5 x6 x7)) (st' := [.int (i + (Int32.ofInt 2)), .ref 60, .int (xs (i + Int32.ofInt 1).toNatClampNeg), .ref 47]) rfl rfl ?_
  refine hl_ld C rfl h2 ?_
  show hl_R p l e s m below meth c b D ad t0 t1 t2 1721 (hl_L i x5 x6 x7) [.int (xs (i + Int32.ofInt 2).toNatClampNeg), .int (xs (i + Int32.ofInt 1).toNatClampNeg), .ref 47] M1 (n - 0)
  refine hl_sN C [1722, 1724, 1725, 1726] (pc' := 1726) (L' := (hl_L i x5 x6 x7)) (st' := [.int (i + (Int32.ofInt 3)), .ref 60, .int (xs (i + Int32.ofInt 2).toNatClampNeg), .int (xs (i + Int32.ofInt 1).toNatClampNeg), .ref 47]) rfl rfl ?_
  refine hl_ld C rfl h3 ?_
  show hl_R p l e s m below meth c b D ad t0 t1 t2 1727 (hl_L i x5 x6 x7) [.int (xs (i + Int32.ofInt 3).toNatClampNeg), .int (xs (i + Int32.ofInt 2).toNatClampNeg), .int (xs (i + Int32.ofInt 1).toNatClampNeg), .ref 47] M1 (n - 0)
  refine hl_sN C [1728, 1730, 1731, 1732] (pc' := 1732) (L' := (hl_L i x5 x6 x7)) (st' := [.int (i + (Int32.ofInt 4)), .ref 60, .int (xs (i + Int32.ofInt 3).toNatClampNeg), .int (xs (i + Int32.ofInt 2).toNatClampNeg), .int (xs (i + Int32.ofInt 1).toNatClampNeg), .ref 47]) rfl rfl ?_
  refine hl_ld C rfl h4 ?_
  show hl_R p l e s m below meth c b D ad t0 t1 t2 1733 (hl_L i x5 x6 x7) [.int (xs (i + Int32.ofInt 4).toNatClampNeg), .int (xs (i + Int32.ofInt 3).toNatClampNeg), .int (xs (i + Int32.ofInt 2).toNatClampNeg), .int (xs (i + Int32.ofInt 1).toNatClampNeg), .ref 47] M1 (n - 0)
  refine hl_sN C [1734, 1736, 1737, 1738] (pc' := 1738) (L' := (hl_L i x5 x6 x7)) (st' := [.int (i + (Int32.ofInt 5)), .ref 60, .int (xs (i + Int32.ofInt 4).toNatClampNeg), .int (xs (i + Int32.ofInt 3).toNatClampNeg), .int (xs (i + Int32.ofInt 2).toNatClampNeg), .int (xs (i + Int32.ofInt 1).toNatClampNeg), .ref 47]) rfl rfl ?_
  refine hl_ld C rfl h5 ?_
  show hl_R p l e s m below meth c b D ad t0 t1 t2 1739 (hl_L i x5 x6 x7) [.int (xs (i + Int32.ofInt 5).toNatClampNeg), .int (xs (i + Int32.ofInt 4).toNatClampNeg), .int (xs (i + Int32.ofInt 3).toNatClampNeg), .int (xs (i + Int32.ofInt 2).toNatClampNeg), .int (xs (i + Int32.ofInt 1).toNatClampNeg), .ref 47] M1 (n - 0)
  obtain ⟨fu2, M2, hr2, hw2, hM2⟩ := hs_m164 hx_no hw1.1 (hl_M1 hM hw1) (xs (i + Int32.ofInt 1).toNatClampNeg) (xs (i + Int32.ofInt 2).toNatClampNeg) (xs (i + Int32.ofInt 3).toNatClampNeg) (xs (i + Int32.ofInt 4).toNatClampNeg) (xs (i + Int32.ofInt 5).toNatClampNeg)
  refine hl_call C rfl rfl rfl (by decide) (hl_k47 hw1.1 [.int (xs (i + Int32.ofInt 1).toNatClampNeg), .int (xs (i + Int32.ofInt 2).toNatClampNeg), .int (xs (i + Int32.ofInt 3).toNatClampNeg), .int (xs (i + Int32.ofInt 4).toNatClampNeg), .int (xs (i + Int32.ofInt 5).toNatClampNeg)]) (Nat.le_of_ble_eq_true rfl) (Nat.le_of_ble_eq_true rfl) (Nat.le_of_ble_eq_true rfl) (hl_Cr (q := hzq_164) rfl (by decide) hr2) (Nat.zero_le _) ?_
  have hI2 := hl_Isp hI (hl_copy_ok h0) hw1 hC1 hw2 hM2
  show hl_R p l e s m below meth c b D ad t0 t1 t2 1742 (hl_L i x5 x6 x7) [.int (sp_copy σ (xs (i + Int32.ofInt 1).toNatClampNeg) (xs (i + Int32.ofInt 2).toNatClampNeg) (xs (i + Int32.ofInt 3).toNatClampNeg) (xs (i + Int32.ofInt 4).toNatClampNeg) (xs (i + Int32.ofInt 5).toNatClampNeg)).1] M2 (n - 0 - 0)
  refine hl_sN C [1743, 1796] (pc' := 1796) (L' := (hl_L i x5 x6 x7)) (st' := []) rfl rfl ?_
  exact hl_mono (by omega) (kk M2 _ _ _ hI2 (hl_Aq hA hw1 hw2 rfl rfl (by decide) (by decide)))
set_option maxRecDepth 10000 in
theorem hl_k43 (C : hl_C p l s m meth c b N xs D ad t0 t1 t2) {M : hzMem} {n : Nat} {i : Int32} {x5 x6 x7 : Option Value} (hI : hl_I M) (hA : hl_St M) (h1 : vp_in (i + Int32.ofInt 1) N) (h2 : vp_in (i + Int32.ofInt 2) N) (h3 : vp_in (i + Int32.ofInt 3) N) (h4 : vp_in (i + Int32.ofInt 4) N) (h5 : vp_in (i + Int32.ofInt 5) N) (hn : 1 ≤ n) (kk : ∀ (M' : hzMem) (y5 y6 y7 : Option Value), hl_I M' → hl_St M' → hl_R p l e s m below meth c b D ad t0 t1 t2 1796 (hl_L i y5 y6 y7) [] M' (n - 1)) : hl_R p l e s m below meth c b D ad t0 t1 t2 1746 (hl_L i x5 x6 x7) [] M n := by
  refine hl_sN C [1747, 1748, 1750, 1751, 1752] (pc' := 1752) (L' := (hl_L i x5 x6 x7)) (st' := [.int (i + (Int32.ofInt 1)), .ref 60, .ref 0]) rfl rfl ?_
  refine hl_ld C rfl h1 ?_
  show hl_R p l e s m below meth c b D ad t0 t1 t2 1753 (hl_L i x5 x6 x7) [.int (xs (i + Int32.ofInt 1).toNatClampNeg), .ref 0] M (n)
  obtain ⟨σ, h0, hC, hM⟩ := hI.2.2.2
  obtain ⟨fu1, hr1⟩ := hs_c42 hI.1 hC h0.1 (xs (i + Int32.ofInt 1).toNatClampNeg)
  refine hl_call C rfl rfl rfl (by decide) (hl_r0 hI [.int (xs (i + Int32.ofInt 1).toNatClampNeg)]) (Nat.le_of_ble_eq_true rfl) (Nat.le_of_ble_eq_true rfl) (Nat.le_of_ble_eq_true rfl) (hl_Cr (q := hzq_42) rfl (by decide) hr1) (by omega) ?_
  show hl_R p l e s m below meth c b D ad t0 t1 t2 1756 (hl_L i x5 x6 x7) [.int (sp_cost σ (xs (i + Int32.ofInt 1).toNatClampNeg))] M (n - 0)
  refine hl_sN C [1757, 1758, 1759, 1761, 1762, 1763] (pc' := 1763) (L' := (hl_L i x5 x6 x7)) (st' := [.int (i + (Int32.ofInt 1)), .ref 60, .ref 47]) rfl rfl ?_
  refine hl_ld C rfl h1 ?_
  show hl_R p l e s m below meth c b D ad t0 t1 t2 1764 (hl_L i x5 x6 x7) [.int (xs (i + Int32.ofInt 1).toNatClampNeg), .ref 47] M (n - 0)
  obtain ⟨fu2, hr2⟩ := hs_m165 hI.1 hM h0.1 (xs (i + Int32.ofInt 1).toNatClampNeg)
  refine hl_call C rfl rfl rfl (by decide) (hl_r47 hI [.int (xs (i + Int32.ofInt 1).toNatClampNeg)]) (Nat.le_of_ble_eq_true rfl) (Nat.le_of_ble_eq_true rfl) (Nat.le_of_ble_eq_true rfl) (hl_Cr (q := hzq_165) rfl (by decide) hr2) (by omega) ?_
  show hl_R p l e s m below meth c b D ad t0 t1 t2 1767 (hl_L i x5 x6 x7) [.int (sp_cost σ (xs (i + Int32.ofInt 1).toNatClampNeg))] M (n - 0 - 0)
  refine hl_sN C [1768, 1796] (pc' := 1796) (L' := (hl_L i x5 x6 x7)) (st' := []) rfl rfl ?_
  exact hl_mono (by omega) (kk M _ _ _ hI hA)
set_option maxRecDepth 10000 in
theorem hl_k44 (C : hl_C p l s m meth c b N xs D ad t0 t1 t2) {M : hzMem} {n : Nat} {i : Int32} {x5 x6 x7 : Option Value} (hI : hl_I M) (hA : hl_St M) (h1 : vp_in (i + Int32.ofInt 1) N) (h2 : vp_in (i + Int32.ofInt 2) N) (h3 : vp_in (i + Int32.ofInt 3) N) (h4 : vp_in (i + Int32.ofInt 4) N) (h5 : vp_in (i + Int32.ofInt 5) N) (hn : 1 ≤ n) (kk : ∀ (M' : hzMem) (y5 y6 y7 : Option Value), hl_I M' → hl_St M' → hl_R p l e s m below meth c b D ad t0 t1 t2 1796 (hl_L i y5 y6 y7) [] M' (n - 1)) : hl_R p l e s m below meth c b D ad t0 t1 t2 1771 (hl_L i x5 x6 x7) [] M n := by
  refine hl_sN C [1772, 1773, 1775, 1776, 1777] (pc' := 1777) (L' := (hl_L i x5 x6 x7)) (st' := [.int (i + (Int32.ofInt 1)), .ref 60, .ref 0]) rfl rfl ?_
  refine hl_ld C rfl h1 ?_
  show hl_R p l e s m below meth c b D ad t0 t1 t2 1778 (hl_L i x5 x6 x7) [.int (xs (i + Int32.ofInt 1).toNatClampNeg), .ref 0] M (n)
  obtain ⟨σ, h0, hC, hM⟩ := hI.2.2.2
  obtain ⟨fu1, hr1⟩ := hs_c43 hI.1 hC h0.1 (xs (i + Int32.ofInt 1).toNatClampNeg)
  refine hl_call C rfl rfl rfl (by decide) (hl_r0 hI [.int (xs (i + Int32.ofInt 1).toNatClampNeg)]) (Nat.le_of_ble_eq_true rfl) (Nat.le_of_ble_eq_true rfl) (Nat.le_of_ble_eq_true rfl) (hl_Cr (q := hzq_43) rfl (by decide) hr1) (by omega) ?_
  show hl_R p l e s m below meth c b D ad t0 t1 t2 1781 (hl_L i x5 x6 x7) [.int (sp_toss σ (xs (i + Int32.ofInt 1).toNatClampNeg))] M (n - 1)
  refine hl_sN C [1782, 1783, 1784, 1786, 1787, 1788] (pc' := 1788) (L' := (hl_L i x5 x6 x7)) (st' := [.int (i + (Int32.ofInt 1)), .ref 60, .ref 47]) rfl rfl ?_
  refine hl_ld C rfl h1 ?_
  show hl_R p l e s m below meth c b D ad t0 t1 t2 1789 (hl_L i x5 x6 x7) [.int (xs (i + Int32.ofInt 1).toNatClampNeg), .ref 47] M (n - 1)
  obtain ⟨fu2, hr2⟩ := hs_m166 hI.1 hM h0.1 (xs (i + Int32.ofInt 1).toNatClampNeg)
  refine hl_call C rfl rfl rfl (by decide) (hl_r47 hI [.int (xs (i + Int32.ofInt 1).toNatClampNeg)]) (Nat.le_of_ble_eq_true rfl) (Nat.le_of_ble_eq_true rfl) (Nat.le_of_ble_eq_true rfl) (hl_Cr (q := hzq_166) rfl (by decide) hr2) (by omega) ?_
  show hl_R p l e s m below meth c b D ad t0 t1 t2 1792 (hl_L i x5 x6 x7) [.int (sp_toss σ (xs (i + Int32.ofInt 1).toNatClampNeg))] M (n - 1 - 0)
  refine hl_sN C [1793, 1796] (pc' := 1796) (L' := (hl_L i x5 x6 x7)) (st' := []) rfl rfl ?_
  exact hl_mono (by omega) (kk M _ _ _ hI hA)
end HL
