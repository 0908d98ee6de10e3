/-! THE METHODS THAT CATCH, in the pure machine; all that is told of the methods holds -/
theorem hx_run0 {p : Program} {l : Launch} {e : Env} {R : Room} {s : State} {m : MethodId} {args : Array Value} {below : List Frame} {meth : Method} {c : Code} {H : Heap} {locs : List Loc} {cells slots mc ms : Nat} {g : JFrame} {rest : List Value} {Qa : State → Outcome → State → Prop} {free : Addr → Prop}
    (h : vx_Run p l e R s m args below meth c H locs cells slots mc ms g rest Qa (fun _ _ _ => False) free) : va_Run p l e R s m args below meth c H locs cells slots mc ms g rest Qa free := by
  intro T hT X
  rcases h T hT X with h | ⟨q, st₀, t, T', L, E, ce, h0, X', hL, e1, e2, hf, hr⟩
  · exact h
  · exact hf.elim
set_option maxRecDepth 100000 in
theorem hx_CW {l : Launch} (hfl : l.stackTraces = false) {D : va_G} {ad : Nat → Nat} {t0 t1 t2 : ClassId} (k f : Int32) (M : hzMem) : hz_CW l D ad (hz_tys t0 t1 t2) 69 [.int k, .int f] M (some (.int (hx_r k f))) M := by
  intro p e R s m args below meth c H locs cells slots Q ls pc rest A H0 j own z zb zn zr rc fr lx cs hh hz hx hown hts hN hK hW hA hml hd hlink hfr hlc hcr hsr hsum kk
  obtain ⟨rfl, rfl, rfl, rfl, rfl, rfl, rfl, rfl⟩ : z = hzy_69 ∧ zb = prog_1_method_72_code ∧ zn = 3 ∧ zr = some .int ∧ rc = 99 ∧ fr = 8 ∧ lx = 260 ∧ cs = 1 := by
    cases hz
    exact ⟨rfl, rfl, rfl, rfl, rfl, rfl, rfl, rfl⟩
  have hmem : Cond.codeWith hzy_69 prog_1_method_72_code 3 (some .int) hx_hh ∈ hzTB := hx_tb 680 rfl (by decide +kernel)
  have hG : GoodIn hzTB (Cond.codeWith hzy_69 prog_1_method_72_code 3 (some .int) hx_hh :: hzTB) := by
    have key : ∀ w ∈ hzTB, w ∈ hzTB ∧ ((w.onTables && w.keeps) = true ∨ ∃ ty, w = .arrayClass ty) := fun w hw => ⟨hw, good_of_word (List.mem_filter.mp hw).2⟩
    intro w hw
    rcases List.mem_cons.mp hw with rfl | hw
    · exact key _ hmem
    · exact key w hw
  refine hz_back (hx_run0 (vx_runSX (hh := hx_hh) (As := List.map (hz_eV ad) [.int k, .int f]) (rest := rest) ⟨hx, rfl, hml, hown, hts⟩ (hx_fcM hfl (D := D) (ad := ad) (t0 := t0) (t1 := t1) (t2 := t2) k f M H.size) ⟨⟨rfl, rfl, hfr, by show 8 + (3 + 11) + 260 ≤ R.locals; omega, pay_in hts hG, List.mem_cons_self⟩, hts _ hmem, hts _ (hx_tb 39 rfl (by decide +kernel)), ⟨by decide, by decide⟩, fun sig h => ?_, hlink, hts _ (hx_tb 679 rfl (by decide +kernel))⟩ ⟨hz_blind _ _ _, fun U hU hw => ⟨rfl, by rw [hU], by rw [hU]; exact hW.1, va_K.moved hw.alike hK, hW.2.1.weaken (fun _ _ _ _ => trivial), hz_NS_call hN hW hA hU hw⟩⟩ rfl rfl rfl rfl (lv_room hsum) hd ⟨hcr, hsr⟩)) hW hA kk
  have h2 : (parseMethodDescriptor hzy_69.desc).map (fun d => d.parameters.length) = some 2 := by decide +kernel
  rw [h] at h2
  exact (Option.some.inj h2).symm
/-- what the pure machine is told of the methods that throw or catch -/
def hx_ext (x : Nat) (As : List Value) (M : hzMem) : Option (Option (Option Value × hzMem)) := if x = 69 then (match As with
    | [.int k, .int f] => some (some (some (.int (hx_r k f)), M))
    | _ => some none) else if x = 214 ∨ x = 215 then some none else none
theorem hx_ext_hn {x : Nat} {As : List Value} {M : hzMem} {q : hzN} (h : hzM[x]? = some q) : hx_ext x As M = none ↔ q.2.2.2.2.2.2.2.2.1 ≠ 0 := by
  rw [← hx_iff h]
  unfold hx_ext
  split
  · rename_i h2
    refine ⟨fun z => ?_, fun z => absurd (Or.inl h2) z⟩
    split at z <;> cases z
  · rename_i h1
    split
    · rename_i h2
      exact ⟨fun z => (by cases z), fun z => absurd (Or.inr h2) z⟩
    · rename_i h2
      exact ⟨fun _ z => z.elim h1 h2, fun _ => rfl⟩
theorem hx_no : hm_no hx_ext := fun x As M q hq hz => (hx_ext_hn hq).mpr hz
theorem hx_sound {l : Launch} (hfl : l.stackTraces = false) {D : va_G} {ad : Nat → Nat} {t0 t1 t2 : ClassId} {n k pc : Nat} {L : List (Option Value)} {st : List Value} {M : hzMem} {b : Nat} {rv : Option Value} {M' : hzMem} (h : hz_run hx_ext n k pc L st M b = some (rv, M')) : hz_Snd l D ad t0 t1 t2 k pc L st M b rv M' :=
  hz_sound hx_ext hz_okW_all hz_okM_all (fun x As M z zb zn zr rc f lx cs hh hz => hx_ext_hn hz) (fun x As M rv M' h => by
    unfold hx_ext at h
    split at h
    · rename_i hx
      subst hx
      split at h
      · cases h
        exact hx_CW hfl _ _ _
      · cases h
    · split at h <;> cases h) n k pc L st M b rv M' h
theorem hx_v2 : ha_val hx_ext hw_W (69, [.inl ((-2147483648), 2147483647), .inl ((-2147483648), 2147483647)], some (.inl ((-2147483648), 2147483647)), []) := by
  intro As M hA hi q hq
  match As, hA with
  | [v1, v2], ⟨⟨k, h1, _⟩, ⟨f, h2, _⟩, _⟩ =>
    subst h1
    subst h2
    exact ⟨0, some (.int (hx_r k f)), M, rfl, ⟨hx_r k f, rfl, (ha_rng _).1, (ha_rng _).2⟩, hm_wok hi⟩
/-- all that is told of the methods -/
theorem hx_all : ∀ Y ∈ hw_Y, ha_val hx_ext hw_W Y := by
  refine hw_val hx_no (fun Y hY => ?_)
  have h8 : hw_Y.take 8 = [hm_Y0, hm_Y1, (69, [.inl ((-2147483648), 2147483647), .inl ((-2147483648), 2147483647)], some (.inl ((-2147483648), 2147483647)), []), (202, [.inr (.inl 1)], none, [1]), (202, [.inr (.inl 10)], none, [10]), hm_Y5, hm_Y6, hm_Y7] := rfl
  rw [h8] at hY
  rcases List.mem_cons.mp hY with rfl | hY
  · exact hm_v0 hx_no
  rcases List.mem_cons.mp hY with rfl | hY
  · exact hm_v1 hx_no
  rcases List.mem_cons.mp hY with rfl | hY
  · exact hx_v2
  rcases List.mem_cons.mp hY with rfl | hY
  · exact hm_clock hx_no 1 rfl
  rcases List.mem_cons.mp hY with rfl | hY
  · exact hm_clock hx_no 10 rfl
  rcases List.mem_cons.mp hY with rfl | hY
  · exact hm_v5 hx_no
  rcases List.mem_cons.mp hY with rfl | hY
  · exact hm_v6 hx_no
  rcases List.mem_cons.mp hY with rfl | hY
  · exact hm_v7 hx_no
  · exact absurd hY List.not_mem_nil
