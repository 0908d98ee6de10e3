section HZL
variable {p : Program} {l : Launch} {e : Env} {R : Room} {s : State} {m : MethodId} {args : Array Value} {below : List Frame} {meth : Method} {c : Code} {H : Heap} {locs : List Loc} {cells slots : Nat} {Q : State → Prop}
variable {cc : ByteArray} {pc : Nat} {ls : Array Slot} {ad : Nat → Nat} {own : String}
theorem hz_f1 {ad : Nat → Nat} {i : Nat} {v : Value} (j : Nat) (w : Value) (h1 : j ≠ i) (_ : ¬ (v.category = 2 ∧ j = i + 1)) (h3 : ¬ (j + 1 = i ∧ w.category = 2)) : (fun q : Nat × Value => !(q.1 == i) && !(q.1 + 1 == i && q.2.category == 2)) (j, hz_eV ad w) = true := by
  simp only [Bool.and_eq_true, Bool.not_eq_true', beq_eq_false_iff_ne, ne_eq, Bool.and_eq_false_iff, hz_eV_cat]
  refine ⟨h1, ?_⟩
  by_cases a : j + 1 = i
  · exact Or.inr (fun b => h3 ⟨a, b⟩)
  · exact Or.inl a
theorem hz_f2 {ad : Nat → Nat} {i : Nat} {v : Value} (hv : v.category = 2) (j : Nat) (w : Value) (h1 : j ≠ i) (h2 : ¬ (v.category = 2 ∧ j = i + 1)) (h3 : ¬ (j + 1 = i ∧ w.category = 2)) : (fun q : Nat × Value => !(q.1 == i) && (!(q.1 == i + 1) && !(q.1 + 1 == i && q.2.category == 2))) (j, hz_eV ad w) = true := by
  simp only [Bool.and_eq_true, Bool.not_eq_true', beq_eq_false_iff_ne, ne_eq, Bool.and_eq_false_iff, hz_eV_cat]
  refine ⟨h1, fun a => h2 ⟨hv, a⟩, ?_⟩
  by_cases a : j + 1 = i
  · exact Or.inr (fun b => h3 ⟨a, b⟩)
  · exact Or.inl a
theorem hz_ldi_ok {nL : Nat} {L L' : List (Option Value)} {i : Nat} {r st' : List Value} (h : hz_ldi L i r = some (L', st')) : L' = L ∧ ∃ x, L[i]? = some (some (.int x)) ∧ st' = .int x :: r := by
  unfold hz_ldi at h
  split at h
  · rename_i x hg; cases h; exact ⟨rfl, x, hg, rfl⟩
  · cases h
theorem hz_lda_ok {nL : Nat} {L L' : List (Option Value)} {i : Nat} {r st' : List Value} (h : hz_lda L i r = some (L', st')) : L' = L ∧ ∃ x, L[i]? = some (some (.ref x)) ∧ st' = .ref x :: r := by
  unfold hz_lda at h
  split at h
  · rename_i x hg; cases h; exact ⟨rfl, x, hg, rfl⟩
  · cases h
theorem hz_ldl_ok {nL : Nat} {L L' : List (Option Value)} {i : Nat} {r st' : List Value} (h : hz_ldl L i r = some (L', st')) : L' = L ∧ ∃ x, L[i]? = some (some (.long x)) ∧ st' = .long x :: r := by
  unfold hz_ldl at h
  split at h
  · rename_i x hg; cases h; exact ⟨rfl, x, hg, rfl⟩
  · cases h
theorem hz_sto_ok {L L' : List (Option Value)} {i : Nat} {v : Value} {r st' : List Value} (h : hz_sto L i v r = some (L', st')) : i + (v.category - 1) < L.length ∧ L' = hz_put L i v ∧ st' = r := by
  unfold hz_sto at h
  split at h
  · rename_i q; cases h; exact ⟨q, rfl, rfl⟩
  · cases h
set_option maxHeartbeats 4000000 in
theorem hz_loc_ok (hx : p.tables.exec = Jvm.exec) (hb : c.code = cc) {nL : Nat} {i : Instr} {L L' : List (Option Value)} {st st' : List Value} (h : hz_loc i L st = some (L', st')) (hd : decode cc pc = .ok (i, hz_len i)) (hL : hz_lH ad ls nL L)
    (kk : ∀ ls', hz_lH ad ls' nL L' → W p l e R s m args below meth c H locs cells slots Q (F0 m (pc + hz_len i) ls' (st'.map (hz_eV ad)))) : W p l e R s m args below meth c H locs cells slots Q (F0 m pc ls (st.map (hz_eV ad))) := by
  have hlen := hL.2.2.1
  unfold hz_loc at h
  split at h
  · obtain ⟨rfl, x, hg, rfl⟩ := hz_ldi_ok (nL := nL) h
    exact lv_iload_n hx hb hd rfl (hL.2.2.2 _ _ hg) (kk ls hL)
  · obtain ⟨rfl, x, hg, rfl⟩ := hz_ldi_ok (nL := nL) h
    exact lv_iload hx hb hd (hL.2.2.2 _ _ hg) (kk ls hL)
  · obtain ⟨rfl, x, hg, rfl⟩ := hz_lda_ok (nL := nL) h
    exact lv_aload_n hx hb hd rfl (hL.2.2.2 _ _ hg) (kk ls hL)
  · obtain ⟨rfl, x, hg, rfl⟩ := hz_lda_ok (nL := nL) h
    exact lv_aload hx hb hd (hL.2.2.2 _ _ hg) (kk ls hL)
  · obtain ⟨rfl, x, hg, rfl⟩ := hz_ldl_ok (nL := nL) h
    exact lv_lload_n hx hb hd rfl (hL.2.2.2 _ _ hg) (kk ls hL)
  · obtain ⟨rfl, x, hg, rfl⟩ := hz_ldl_ok (nL := nL) h
    exact lv_lload hx hb hd (hL.2.2.2 _ _ hg) (kk ls hL)
  · obtain ⟨hi, rfl, rfl⟩ := hz_sto_ok h
    exact lv_istore_n hx hb hd rfl (hz_lH_has hL) (hlen ▸ hi) rfl (fun ls' h' => kk ls' (hz_put_ok (v := .int _) hL hi h' hz_f1))
  · obtain ⟨hi, rfl, rfl⟩ := hz_sto_ok h
    exact lv_istore hx hb hd (hz_lH_has hL) (hlen ▸ hi) rfl (fun ls' h' => kk ls' (hz_put_ok (v := .int _) hL hi h' hz_f1))
  · obtain ⟨hi, rfl, rfl⟩ := hz_sto_ok h
    exact lv_astore_n hx hb hd rfl (hz_lH_has hL) (hlen ▸ hi) rfl (fun ls' h' => kk ls' (hz_put_ok (v := .ref _) hL hi h' hz_f1))
  · obtain ⟨hi, rfl, rfl⟩ := hz_sto_ok h
    exact lv_astore hx hb hd (hz_lH_has hL) (hlen ▸ hi) rfl (fun ls' h' => kk ls' (hz_put_ok (v := .ref _) hL hi h' hz_f1))
  · obtain ⟨hi, rfl, rfl⟩ := hz_sto_ok h
    exact lv_lstore_n hx hb hd rfl (hz_lH_has hL) (hlen ▸ hi) rfl (fun ls' h' => kk ls' (hz_put_ok (v := .long _) hL hi h' (hz_f2 rfl)))
  · obtain ⟨hi, rfl, rfl⟩ := hz_sto_ok h
    exact lv_lstore hx hb hd (hz_lH_has hL) (hlen ▸ hi) rfl (fun ls' h' => kk ls' (hz_put_ok (v := .long _) hL hi h' (hz_f2 rfl)))
  · split at h
    · rename_i x hg
      obtain ⟨hi, rfl, rfl⟩ := hz_sto_ok h
      obtain ⟨k0, hk0⟩ := List.getElem?_of_mem ((hz_as_mem ad L 0 _).mpr ⟨_, _, hg, rfl⟩)
      rw [Nat.zero_add] at hk0
      exact lv_iinc hx hb hd (hz_lH_has hL) hk0 rfl (hlen ▸ hi) rfl (fun ls' h' => kk ls' (hz_put_ok (v := .int _) hL hi h' hz_f1))
    · cases h
  · cases h
end HZL
