section HL
variable {p : Program} {l : Launch} {e : Env} {s : State} {m : MethodId} {below : List Frame} {meth : Method} {c : Code} {b : Nat} {D : va_G} {ad : Nat → Nat} {t0 t1 t2 : ClassId} {N : Nat} {xs : Nat → Int32}
/-- the row of one long, read -/
theorem hl_ll (C : hl_C p l s m meth c b N xs D ad t0 t1 t2) {pc : Nat} {a : Int} {x y h : Nat} {L : List (Option Value)} {r : List Value} {M : hzMem} {n : Nat} {g : Nat → Int64} (hg : M[59]? = some (.inl (1, 1, .inr (.inl g)))) (hf : hz_fetch 215 pc = some (.laload, a, x, y, h)) (kk : hl_R p l e s m below meth c b D ad t0 t1 t2 (pc + 1) L (.long (g 0) :: r) M n) : hl_R p l e s m below meth c b D ad t0 t1 t2 pc L (.int (Int32.ofInt 0) :: .ref 59 :: r) M n := by
  intro ls H locs cells slots hL hW hc hs
  obtain ⟨hfl, hx, hb, hr, hml, hown, hts, hX, hbl, hlocks, hN, hK, had, hN3⟩ := C
  obtain ⟨hdD, hdA, hdW⟩ := hz_fetch_ok (k := 215) rfl (hz_okW_all 215 (by decide +kernel)) hf
  obtain ⟨len, hd, hlen⟩ := hz_okD_ok hdD
  have hl : len = 1 := by
    rcases hlen with ⟨_, _, _, _, q⟩ | ⟨_, _, q⟩ | q
    · cases q
    · cases q
    · exact q
  subst hl
  have hst : hz_mem .laload x y (.int (Int32.ofInt 0) :: .ref 59 :: r) M = some (.long (g 0) :: r, M) := by
    simp only [hz_mem, hg]
    rfl
  exact hz_mem_ok hx hb hts hown hK hst hd trivial hW (fun H1 locs1 hW1 => kk ls H1 locs1 cells slots hL hW1 hc hs)
end HL
theorem hl_I47 {M : hzMem} {vs : List Value} (hI : hl_I M) (hO : M[47]? = some (.inr (3, vs))) (q : Int32) : hl_I (M.set 47 (.inr (3, vs.set 16 (.int q)))) := by
  obtain ⟨hi, hl, ⟨g, hg⟩, σ, h0, h1, h2⟩ := hI
  have hs : ha_shp (.inl (3, hm_f47)) (.inr (3, vs)) := by
    obtain ⟨e, hM, hs⟩ := hi 47 _ hm_W47
    cases hO.symm.trans hM
    exact hs
  have hr := ha_rng q
  exact ⟨ha_inv_set hi hO (fun sh h => by cases hm_W47.symm.trans h; exact hm_shps hs rfl hr.1 hr.2), by rw [List.length_set]; exact hl, ⟨g, (List.getElem?_set_ne (by decide)).trans hg⟩, σ, h0, hl_Ck h1 (fun j a b => List.getElem?_set_ne (by omega)), hl_Mk h2 (fun j a b => List.getElem?_set_ne (by omega))⟩
section HL
variable {p : Program} {l : Launch} {e : Env} {s : State} {m : MethodId} {below : List Frame} {meth : Method} {c : Code} {b : Nat} {D : va_G} {ad : Nat → Nat} {t0 t1 t2 : ClassId} {N : Nat} {xs : Nat → Int32}
theorem hl_if (C : hl_C p l s m meth c b N xs D ad t0 t1 t2) {pc : Nat} {k : Jvm.ClassFile.Cond} {o a : Int} {x y h : Nat} {L : List (Option Value)} {st : List Value} {M : hzMem} {n : Nat} {v : Int32} (hf : hz_fetch 215 pc = some (.ifCond k o, a, x, y, h)) (k1 : hz_cmp k v 0 = true → hl_R p l e s m below meth c b D ad t0 t1 t2 x L st M n) (k2 : hz_cmp k v 0 = false → hl_R p l e s m below meth c b D ad t0 t1 t2 (pc + 3) L st M n) : hl_R p l e s m below meth c b D ad t0 t1 t2 pc L (.int v :: st) M n := by
  cases hc : hz_cmp k v 0 with
  | true => exact hl_s1 C (pc' := x) (L' := L) (st' := st) (by simp [hz_s1, hf, hz_kind, hz_br, hc]) (k1 hc)
  | false => exact hl_s1 C (pc' := pc + 3) (L' := L) (st' := st) (by simp [hz_s1, hf, hz_kind, hz_br, hc]) (k2 hc)
theorem lg_self (x : Int64) : lg_cmp x x = 0 := by
  unfold lg_cmp
  rw [if_neg (by rw [gt_iff_lt, Int64.lt_iff_toInt_lt]; omega)]
  simp
end HL
