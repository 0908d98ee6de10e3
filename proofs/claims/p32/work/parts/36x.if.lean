section HL
variable {p : Program} {l : Launch} {e : Env} {s : State} {m : MethodId} {below : List Frame} {meth : Method} {c : Code} {b : Nat} {D : va_G} {ad : Nat → Nat} {t0 t1 t2 : ClassId} {N : Nat} {xs : Nat → Int32}
theorem hl_if (C : hl_C p l s m meth c b N xs D ad t0 t1 t2) {pc : Nat} {k : Jvm.ClassFile.Cond} {o a : Int} {x y h : Nat} {L : List (Option Value)} {st : List Value} {M : hzMem} {n : Nat} {v : Int32} (hf : hz_fetch 215 pc = some (.ifCond k o, a, x, y, h)) (k1 : hz_cmp k v 0 = true → hl_R p l e s m below meth c b D ad t0 t1 t2 x L st M n) (k2 : hz_cmp k v 0 = false → hl_R p l e s m below meth c b D ad t0 t1 t2 (pc + 3) L st M n) : hl_R p l e s m below meth c b D ad t0 t1 t2 pc L (.int v :: st) M n := by
  cases hc : hz_cmp k v 0 with
  | true => exact hl_s1 C (pc' := x) (L' := L) (st' := st) (by simp [hz_s1, hf, hz_kind, hz_br, hc]) (k1 hc)
  | false => exact hl_s1 C (pc' := pc + 3) (L' := L) (st' := st) (by simp [hz_s1, hf, hz_kind, hz_br, hc]) (k2 hc)
theorem lg_self (x : Int64) : lg_cmp x x = 0 := by
  unfold lg_cmp
  rw [if_neg (by rw [gt_iff_lt, Int64.lt_iff_toInt_lt]; omega)]
  simp
end HL
