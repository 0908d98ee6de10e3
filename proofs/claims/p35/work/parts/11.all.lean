theorem hz_rng {f : Nat → Bool} {a n : Nat} (h : (List.range' a n).all f = true) (k : Nat) (h1 : a ≤ k) (h2 : k < a + n) : f k = true :=
  List.all_eq_true.mp h k (by rw [List.mem_range'_1]; exact ⟨h1, h2⟩)
theorem hz_okC_all (k : Nat) (h : k < 221) : hz_okC k = true := by
  rcases Nat.lt_or_ge k 20 with q0 | q0
  · exact hz_rng hz_ca0 k (by omega) (by omega)
  rcases Nat.lt_or_ge k 40 with q1 | q1
  · exact hz_rng hz_ca1 k (by omega) (by omega)
  rcases Nat.lt_or_ge k 60 with q2 | q2
  · exact hz_rng hz_ca2 k (by omega) (by omega)
  rcases Nat.lt_or_ge k 80 with q3 | q3
  · exact hz_rng hz_ca3 k (by omega) (by omega)
  rcases Nat.lt_or_ge k 100 with q4 | q4
  · exact hz_rng hz_ca4 k (by omega) (by omega)
  rcases Nat.lt_or_ge k 120 with q5 | q5
  · exact hz_rng hz_ca5 k (by omega) (by omega)
  rcases Nat.lt_or_ge k 140 with q6 | q6
  · exact hz_rng hz_ca6 k (by omega) (by omega)
  rcases Nat.lt_or_ge k 160 with q7 | q7
  · exact hz_rng hz_ca7 k (by omega) (by omega)
  rcases Nat.lt_or_ge k 180 with q8 | q8
  · exact hz_rng hz_ca8 k (by omega) (by omega)
  rcases Nat.lt_or_ge k 200 with q9 | q9
  · exact hz_rng hz_ca9 k (by omega) (by omega)
  rcases Nat.lt_or_ge k 215 with q10 | q10
  · exact hz_rng hz_ca10 k (by omega) (by omega)
  rcases Nat.lt_or_ge k 216 with q11 | q11
  · rw [show k = 215 by omega]
    exact hz_okC_law
  rcases Nat.lt_or_ge k 221 with q12 | q12
  · exact hz_rng hz_ca12 k (by omega) (by omega)
  omega
theorem hz_wdb {L : List (Nat × Jvm.Cond)} (h : L.all (fun q => decide (lw_tbl[q.1]? = some q.2) && (goodWord q.2 || hz_isN q.2)) = true) : hz_wds L := by
  intro q hq
  have h1 := List.all_eq_true.mp h q hq
  rw [Bool.and_eq_true, decide_eq_true_eq] at h1
  exact ⟨List.mem_of_getElem? h1.1, h1.2⟩
theorem hz_okW_all (k : Nat) (h : k < hzM.length) : hz_okW k := by
  rw [hz_len9] at h
  refine ⟨hz_okC_all k h, ?_⟩
  rcases Nat.lt_or_ge k 20 with q0 | q0
  · exact hz_wdb (hz_rng hz_cb0 k (by omega) (by omega))
  rcases Nat.lt_or_ge k 40 with q1 | q1
  · exact hz_wdb (hz_rng hz_cb1 k (by omega) (by omega))
  rcases Nat.lt_or_ge k 60 with q2 | q2
  · exact hz_wdb (hz_rng hz_cb2 k (by omega) (by omega))
  rcases Nat.lt_or_ge k 80 with q3 | q3
  · exact hz_wdb (hz_rng hz_cb3 k (by omega) (by omega))
  rcases Nat.lt_or_ge k 100 with q4 | q4
  · exact hz_wdb (hz_rng hz_cb4 k (by omega) (by omega))
  rcases Nat.lt_or_ge k 120 with q5 | q5
  · exact hz_wdb (hz_rng hz_cb5 k (by omega) (by omega))
  rcases Nat.lt_or_ge k 140 with q6 | q6
  · exact hz_wdb (hz_rng hz_cb6 k (by omega) (by omega))
  rcases Nat.lt_or_ge k 160 with q7 | q7
  · exact hz_wdb (hz_rng hz_cb7 k (by omega) (by omega))
  rcases Nat.lt_or_ge k 180 with q8 | q8
  · exact hz_wdb (hz_rng hz_cb8 k (by omega) (by omega))
  rcases Nat.lt_or_ge k 200 with q9 | q9
  · exact hz_wdb (hz_rng hz_cb9 k (by omega) (by omega))
  rcases Nat.lt_or_ge k 215 with q10 | q10
  · exact hz_wdb (hz_rng hz_cb10 k (by omega) (by omega))
  rcases Nat.lt_or_ge k 216 with q11 | q11
  · exact hz_wdb (hz_rng hz_cb11 k (by omega) (by omega))
  rcases Nat.lt_or_ge k 221 with q12 | q12
  · exact hz_wdb (hz_rng hz_cb12 k (by omega) (by omega))
  omega
theorem hz_mch {a n k : Nat} {q : hzN} (hk : hzM[k]? = some q) (h1 : a ≤ k) (h2 : k < a + n) : q ∈ (hzM.drop a).take n := by
  refine List.mem_of_getElem? (i := k - a) ?_
  rw [List.getElem?_take_of_lt (by omega), List.getElem?_drop, show a + (k - a) = k by omega]
  exact hk
theorem hz_mcw {a n k : Nat} {q : hzN} (hk : hzM[k]? = some q) (h1 : a ≤ k) (h2 : k < a + n) (h : (((hzM.drop a).take n).flatMap hz_ndM).map (fun q => lw_tbl[q.1]?) = (((hzM.drop a).take n).flatMap hz_ndM).map (fun q => some q.2)) : ∀ z ∈ hz_ndM q, lw_tbl[z.1]? = some z.2 := by
  intro z hz
  exact List.map_inj_left.mp h z (List.mem_flatMap.mpr ⟨q, hz_mch hk h1 h2, hz⟩)
theorem hz_okM_w (k : Nat) (h : k < 221) {q : hzN} (hk : hzM[k]? = some q) : ∀ z ∈ hz_ndM q, lw_tbl[z.1]? = some z.2 := by
  rcases Nat.lt_or_ge k 20 with q0 | q0
  · exact hz_mcw hk (by omega) (by omega) hz_cc0
  rcases Nat.lt_or_ge k 40 with q1 | q1
  · exact hz_mcw hk (by omega) (by omega) hz_cc1
  rcases Nat.lt_or_ge k 60 with q2 | q2
  · exact hz_mcw hk (by omega) (by omega) hz_cc2
  rcases Nat.lt_or_ge k 80 with q3 | q3
  · exact hz_mcw hk (by omega) (by omega) hz_cc3
  rcases Nat.lt_or_ge k 100 with q4 | q4
  · exact hz_mcw hk (by omega) (by omega) hz_cc4
  rcases Nat.lt_or_ge k 120 with q5 | q5
  · exact hz_mcw hk (by omega) (by omega) hz_cc5
  rcases Nat.lt_or_ge k 140 with q6 | q6
  · exact hz_mcw hk (by omega) (by omega) hz_cc6
  rcases Nat.lt_or_ge k 160 with q7 | q7
  · exact hz_mcw hk (by omega) (by omega) hz_cc7
  rcases Nat.lt_or_ge k 180 with q8 | q8
  · exact hz_mcw hk (by omega) (by omega) hz_cc8
  rcases Nat.lt_or_ge k 200 with q9 | q9
  · exact hz_mcw hk (by omega) (by omega) hz_cc9
  rcases Nat.lt_or_ge k 220 with q10 | q10
  · exact hz_mcw hk (by omega) (by omega) hz_cc10
  rcases Nat.lt_or_ge k 221 with q11 | q11
  · exact hz_mcw hk (by omega) (by omega) hz_cc11
  omega
theorem hz_okM_p (k : Nat) (h : k < 221) {q : hzN} (hk : hzM[k]? = some q) : (decide (q.2.2.2.2.2.2.2.2.1 = 0) || decide ((parseMethodDescriptor q.1.desc).map (fun d => d.parameters.length) = some q.2.2.2.2.2.2.2.2.2.2.2.2)) = true := by
  rcases Nat.lt_or_ge k 20 with q0 | q0
  · exact List.all_eq_true.mp hz_ce0 q (hz_mch hk (by omega) (by omega))
  rcases Nat.lt_or_ge k 40 with q1 | q1
  · exact List.all_eq_true.mp hz_ce1 q (hz_mch hk (by omega) (by omega))
  rcases Nat.lt_or_ge k 60 with q2 | q2
  · exact List.all_eq_true.mp hz_ce2 q (hz_mch hk (by omega) (by omega))
  rcases Nat.lt_or_ge k 80 with q3 | q3
  · exact List.all_eq_true.mp hz_ce3 q (hz_mch hk (by omega) (by omega))
  rcases Nat.lt_or_ge k 100 with q4 | q4
  · exact List.all_eq_true.mp hz_ce4 q (hz_mch hk (by omega) (by omega))
  rcases Nat.lt_or_ge k 120 with q5 | q5
  · exact List.all_eq_true.mp hz_ce5 q (hz_mch hk (by omega) (by omega))
  rcases Nat.lt_or_ge k 140 with q6 | q6
  · exact List.all_eq_true.mp hz_ce6 q (hz_mch hk (by omega) (by omega))
  rcases Nat.lt_or_ge k 160 with q7 | q7
  · exact List.all_eq_true.mp hz_ce7 q (hz_mch hk (by omega) (by omega))
  rcases Nat.lt_or_ge k 180 with q8 | q8
  · exact List.all_eq_true.mp hz_ce8 q (hz_mch hk (by omega) (by omega))
  rcases Nat.lt_or_ge k 200 with q9 | q9
  · exact List.all_eq_true.mp hz_ce9 q (hz_mch hk (by omega) (by omega))
  rcases Nat.lt_or_ge k 220 with q10 | q10
  · exact List.all_eq_true.mp hz_ce10 q (hz_mch hk (by omega) (by omega))
  rcases Nat.lt_or_ge k 221 with q11 | q11
  · exact List.all_eq_true.mp hz_ce11 q (hz_mch hk (by omega) (by omega))
  omega
theorem hz_okM_all (k : Nat) (h : k < hzM.length) : hz_okM k := by
  rw [hz_len9] at h
  intro y b nL ret rc fr lc cs hc hi hs hn np hk h0
  have hmem := List.mem_of_getElem? hk
  have h1 := List.all_eq_true.mp hz_cf _ hmem
  have h2 := hz_okM_p k h hk
  simp only [Bool.or_eq_true, Bool.and_eq_true, decide_eq_true_eq] at h1 h2
  have h1 := h1.resolve_left h0
  have h2 := h2.resolve_left h0
  refine ⟨h1.1, h1.2.1, h1.2.2, h2, fun hrc => ?_, fun q hq => ⟨List.mem_of_getElem? (hz_okM_w k h hk q hq), List.all_eq_true.mp hz_cd q (List.mem_flatMap.mpr ⟨_, hmem, hq⟩)⟩⟩
  have h3 := List.map_inj_left.mp hz_cg _ hmem
  simp only [if_neg hrc] at h3
  exact h3
