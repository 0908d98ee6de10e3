/-! WORDS BY THEIR PLACE, fast: the tables one by one -/
def hz_ix (i : Nat) : Option Jvm.Cond := if i < 38 then (k2_sels lw_privs)[i]? else if i - 38 < 240 then tables_1_1[i - 38]? else if i - 278 < 240 then tables_1_2[i - 278]? else if i - 518 < 240 then tables_1_3[i - 518]? else if i - 758 < 240 then tables_1_4[i - 758]? else tables_1_5[i - 998]?
theorem hz_ix0 : (k2_sels lw_privs).length = 38 := by decide +kernel
theorem hz_ix1 : tables_1_1.length = 240 := by decide +kernel
theorem hz_ix2 : tables_1_2.length = 240 := by decide +kernel
theorem hz_ix3 : tables_1_3.length = 240 := by decide +kernel
theorem hz_ix4 : tables_1_4.length = 240 := by decide +kernel
theorem hz_ix_ok (i : Nat) : hz_ix i = lw_tbl[i]? := by
  unfold hz_ix lw_tbl tables_1
  by_cases q0 : i < 38
  · rw [if_pos q0, List.getElem?_append_left (by rw [hz_ix0]; exact q0)]
  rw [if_neg q0, List.getElem?_append_right (by rw [hz_ix0]; omega), hz_ix0]
  by_cases q1 : i - 38 < 240
  · rw [if_pos q1, List.getElem?_append_left (by rw [hz_ix1]; exact q1)]
  rw [if_neg q1, List.getElem?_append_right (by rw [hz_ix1]; omega), hz_ix1, show i - 38 - 240 = i - 278 by omega]
  by_cases q2 : i - 278 < 240
  · rw [if_pos q2, List.getElem?_append_left (by rw [hz_ix2]; exact q2)]
  rw [if_neg q2, List.getElem?_append_right (by rw [hz_ix2]; omega), hz_ix2, show i - 278 - 240 = i - 518 by omega]
  by_cases q3 : i - 518 < 240
  · rw [if_pos q3, List.getElem?_append_left (by rw [hz_ix3]; exact q3)]
  rw [if_neg q3, List.getElem?_append_right (by rw [hz_ix3]; omega), hz_ix3, show i - 518 - 240 = i - 758 by omega]
  by_cases q4 : i - 758 < 240
  · rw [if_pos q4, List.getElem?_append_left (by rw [hz_ix4]; exact q4)]
  rw [if_neg q4, List.getElem?_append_right (by rw [hz_ix4]; omega), hz_ix4, show i - 758 - 240 = i - 998 by omega]
theorem hz_ixm {L : List (Nat × Jvm.Cond)} {R : List (Option Jvm.Cond)} (h : L.map (fun q => hz_ix q.1) = R) : L.map (fun q => lw_tbl[q.1]?) = R := by
  rw [← h]
  exact List.map_congr_left (fun q _ => (hz_ix_ok q.1).symm)
theorem hz_ixb {k : List Nat} (h : k.all (fun k => (hz_ndC k).all (fun q => decide (hz_ix q.1 = some q.2) && (goodWord q.2 || hz_isN q.2))) = true) : k.all (fun k => (hz_ndC k).all (fun q => decide (lw_tbl[q.1]? = some q.2) && (goodWord q.2 || hz_isN q.2))) = true := by
  have e : (fun k => (hz_ndC k).all (fun q => decide (lw_tbl[q.1]? = some q.2) && (goodWord q.2 || hz_isN q.2))) = (fun k => (hz_ndC k).all (fun q => decide (hz_ix q.1 = some q.2) && (goodWord q.2 || hz_isN q.2))) := by
    funext k
    congr 1
    funext q
    rw [hz_ix_ok]
  rw [e]
  exact h
/-! THE TABLES ARE THE CLAIM's: by the kernel -/
theorem hz_len9 : hzM.length = 221 := by decide +kernel
set_option maxRecDepth 100000 in
theorem hz_ca0 : (List.range' 0 20).all hz_okC = true := hz_okQ_all (by decide +kernel)
set_option maxRecDepth 100000 in
theorem hz_ca1 : (List.range' 20 20).all hz_okC = true := hz_okQ_all (by decide +kernel)
set_option maxRecDepth 100000 in
theorem hz_ca2 : (List.range' 40 20).all hz_okC = true := hz_okQ_all (by decide +kernel)
set_option maxRecDepth 100000 in
theorem hz_ca3 : (List.range' 60 20).all hz_okC = true := hz_okQ_all (by decide +kernel)
set_option maxRecDepth 100000 in
theorem hz_ca4 : (List.range' 80 20).all hz_okC = true := hz_okQ_all (by decide +kernel)
set_option maxRecDepth 100000 in
theorem hz_ca5 : (List.range' 100 20).all hz_okC = true := hz_okQ_all (by decide +kernel)
set_option maxRecDepth 100000 in
theorem hz_ca6 : (List.range' 120 20).all hz_okC = true := hz_okQ_all (by decide +kernel)
set_option maxRecDepth 100000 in
theorem hz_ca7 : (List.range' 140 20).all hz_okC = true := hz_okQ_all (by decide +kernel)
set_option maxRecDepth 100000 in
theorem hz_ca8 : (List.range' 160 20).all hz_okC = true := hz_okQ_all (by decide +kernel)
set_option maxRecDepth 100000 in
theorem hz_ca9 : (List.range' 180 20).all hz_okC = true := hz_okQ_all (by decide +kernel)
set_option maxRecDepth 100000 in
theorem hz_ca10 : (List.range' 200 15).all hz_okC = true := hz_okQ_all (by decide +kernel)
set_option maxRecDepth 100000 in
theorem hz_ca12 : (List.range' 216 5).all hz_okC = true := hz_okQ_all (by decide +kernel)
set_option maxRecDepth 100000 in
theorem hz_cb0 : (List.range' 0 20).all (fun k => (hz_ndC k).all (fun q => decide (lw_tbl[q.1]? = some q.2) && (goodWord q.2 || hz_isN q.2))) = true := hz_ixb (by decide +kernel)
set_option maxRecDepth 100000 in
theorem hz_cb1 : (List.range' 20 20).all (fun k => (hz_ndC k).all (fun q => decide (lw_tbl[q.1]? = some q.2) && (goodWord q.2 || hz_isN q.2))) = true := hz_ixb (by decide +kernel)
set_option maxRecDepth 100000 in
theorem hz_cb2 : (List.range' 40 20).all (fun k => (hz_ndC k).all (fun q => decide (lw_tbl[q.1]? = some q.2) && (goodWord q.2 || hz_isN q.2))) = true := hz_ixb (by decide +kernel)
set_option maxRecDepth 100000 in
theorem hz_cb3 : (List.range' 60 20).all (fun k => (hz_ndC k).all (fun q => decide (lw_tbl[q.1]? = some q.2) && (goodWord q.2 || hz_isN q.2))) = true := hz_ixb (by decide +kernel)
set_option maxRecDepth 100000 in
theorem hz_cb4 : (List.range' 80 20).all (fun k => (hz_ndC k).all (fun q => decide (lw_tbl[q.1]? = some q.2) && (goodWord q.2 || hz_isN q.2))) = true := hz_ixb (by decide +kernel)
set_option maxRecDepth 100000 in
theorem hz_cb5 : (List.range' 100 20).all (fun k => (hz_ndC k).all (fun q => decide (lw_tbl[q.1]? = some q.2) && (goodWord q.2 || hz_isN q.2))) = true := hz_ixb (by decide +kernel)
set_option maxRecDepth 100000 in
theorem hz_cb6 : (List.range' 120 20).all (fun k => (hz_ndC k).all (fun q => decide (lw_tbl[q.1]? = some q.2) && (goodWord q.2 || hz_isN q.2))) = true := hz_ixb (by decide +kernel)
set_option maxRecDepth 100000 in
theorem hz_cb7 : (List.range' 140 20).all (fun k => (hz_ndC k).all (fun q => decide (lw_tbl[q.1]? = some q.2) && (goodWord q.2 || hz_isN q.2))) = true := hz_ixb (by decide +kernel)
set_option maxRecDepth 100000 in
theorem hz_cb8 : (List.range' 160 20).all (fun k => (hz_ndC k).all (fun q => decide (lw_tbl[q.1]? = some q.2) && (goodWord q.2 || hz_isN q.2))) = true := hz_ixb (by decide +kernel)
set_option maxRecDepth 100000 in
theorem hz_cb9 : (List.range' 180 20).all (fun k => (hz_ndC k).all (fun q => decide (lw_tbl[q.1]? = some q.2) && (goodWord q.2 || hz_isN q.2))) = true := hz_ixb (by decide +kernel)
set_option maxRecDepth 100000 in
theorem hz_cb10 : (List.range' 200 15).all (fun k => (hz_ndC k).all (fun q => decide (lw_tbl[q.1]? = some q.2) && (goodWord q.2 || hz_isN q.2))) = true := hz_ixb (by decide +kernel)
set_option maxRecDepth 100000 in
theorem hz_cb11 : (List.range' 215 1).all (fun k => (hz_ndC k).all (fun q => decide (lw_tbl[q.1]? = some q.2) && (goodWord q.2 || hz_isN q.2))) = true := hz_ixb (by decide +kernel)
set_option maxRecDepth 100000 in
theorem hz_cb12 : (List.range' 216 5).all (fun k => (hz_ndC k).all (fun q => decide (lw_tbl[q.1]? = some q.2) && (goodWord q.2 || hz_isN q.2))) = true := hz_ixb (by decide +kernel)
set_option maxRecDepth 100000 in
theorem hz_cc0 : (((hzM.drop 0).take 20).flatMap hz_ndM).map (fun q => lw_tbl[q.1]?) = (((hzM.drop 0).take 20).flatMap hz_ndM).map (fun q => some q.2) := hz_ixm rfl
set_option maxRecDepth 100000 in
theorem hz_cc1 : (((hzM.drop 20).take 20).flatMap hz_ndM).map (fun q => lw_tbl[q.1]?) = (((hzM.drop 20).take 20).flatMap hz_ndM).map (fun q => some q.2) := hz_ixm rfl
set_option maxRecDepth 100000 in
theorem hz_cc2 : (((hzM.drop 40).take 20).flatMap hz_ndM).map (fun q => lw_tbl[q.1]?) = (((hzM.drop 40).take 20).flatMap hz_ndM).map (fun q => some q.2) := hz_ixm rfl
set_option maxRecDepth 100000 in
theorem hz_cc3 : (((hzM.drop 60).take 20).flatMap hz_ndM).map (fun q => lw_tbl[q.1]?) = (((hzM.drop 60).take 20).flatMap hz_ndM).map (fun q => some q.2) := hz_ixm rfl
set_option maxRecDepth 100000 in
theorem hz_cc4 : (((hzM.drop 80).take 20).flatMap hz_ndM).map (fun q => lw_tbl[q.1]?) = (((hzM.drop 80).take 20).flatMap hz_ndM).map (fun q => some q.2) := hz_ixm rfl
set_option maxRecDepth 100000 in
theorem hz_cc5 : (((hzM.drop 100).take 20).flatMap hz_ndM).map (fun q => lw_tbl[q.1]?) = (((hzM.drop 100).take 20).flatMap hz_ndM).map (fun q => some q.2) := hz_ixm rfl
set_option maxRecDepth 100000 in
theorem hz_cc6 : (((hzM.drop 120).take 20).flatMap hz_ndM).map (fun q => lw_tbl[q.1]?) = (((hzM.drop 120).take 20).flatMap hz_ndM).map (fun q => some q.2) := hz_ixm rfl
set_option maxRecDepth 100000 in
theorem hz_cc7 : (((hzM.drop 140).take 20).flatMap hz_ndM).map (fun q => lw_tbl[q.1]?) = (((hzM.drop 140).take 20).flatMap hz_ndM).map (fun q => some q.2) := hz_ixm rfl
set_option maxRecDepth 100000 in
theorem hz_cc8 : (((hzM.drop 160).take 20).flatMap hz_ndM).map (fun q => lw_tbl[q.1]?) = (((hzM.drop 160).take 20).flatMap hz_ndM).map (fun q => some q.2) := hz_ixm rfl
set_option maxRecDepth 100000 in
theorem hz_cc9 : (((hzM.drop 180).take 20).flatMap hz_ndM).map (fun q => lw_tbl[q.1]?) = (((hzM.drop 180).take 20).flatMap hz_ndM).map (fun q => some q.2) := hz_ixm rfl
set_option maxRecDepth 100000 in
theorem hz_cc10 : (((hzM.drop 200).take 20).flatMap hz_ndM).map (fun q => lw_tbl[q.1]?) = (((hzM.drop 200).take 20).flatMap hz_ndM).map (fun q => some q.2) := hz_ixm rfl
set_option maxRecDepth 100000 in
theorem hz_cc11 : (((hzM.drop 220).take 1).flatMap hz_ndM).map (fun q => lw_tbl[q.1]?) = (((hzM.drop 220).take 1).flatMap hz_ndM).map (fun q => some q.2) := hz_ixm rfl
set_option maxRecDepth 100000 in
theorem hz_cd : (hzM.flatMap hz_ndM).all (fun q => goodWord q.2 || hz_isN q.2) = true := by decide +kernel
set_option maxRecDepth 100000 in
theorem hz_ce0 : ((hzM.drop 0).take 20).all (fun q => decide (q.2.2.2.2.2.2.2.2.1 = 0) || decide ((parseMethodDescriptor q.1.desc).map (fun d => d.parameters.length) = some q.2.2.2.2.2.2.2.2.2.2.2.2)) = true := by decide +kernel
set_option maxRecDepth 100000 in
theorem hz_ce1 : ((hzM.drop 20).take 20).all (fun q => decide (q.2.2.2.2.2.2.2.2.1 = 0) || decide ((parseMethodDescriptor q.1.desc).map (fun d => d.parameters.length) = some q.2.2.2.2.2.2.2.2.2.2.2.2)) = true := by decide +kernel
set_option maxRecDepth 100000 in
theorem hz_ce2 : ((hzM.drop 40).take 20).all (fun q => decide (q.2.2.2.2.2.2.2.2.1 = 0) || decide ((parseMethodDescriptor q.1.desc).map (fun d => d.parameters.length) = some q.2.2.2.2.2.2.2.2.2.2.2.2)) = true := by decide +kernel
set_option maxRecDepth 100000 in
theorem hz_ce3 : ((hzM.drop 60).take 20).all (fun q => decide (q.2.2.2.2.2.2.2.2.1 = 0) || decide ((parseMethodDescriptor q.1.desc).map (fun d => d.parameters.length) = some q.2.2.2.2.2.2.2.2.2.2.2.2)) = true := by decide +kernel
set_option maxRecDepth 100000 in
theorem hz_ce4 : ((hzM.drop 80).take 20).all (fun q => decide (q.2.2.2.2.2.2.2.2.1 = 0) || decide ((parseMethodDescriptor q.1.desc).map (fun d => d.parameters.length) = some q.2.2.2.2.2.2.2.2.2.2.2.2)) = true := by decide +kernel
set_option maxRecDepth 100000 in
theorem hz_ce5 : ((hzM.drop 100).take 20).all (fun q => decide (q.2.2.2.2.2.2.2.2.1 = 0) || decide ((parseMethodDescriptor q.1.desc).map (fun d => d.parameters.length) = some q.2.2.2.2.2.2.2.2.2.2.2.2)) = true := by decide +kernel
set_option maxRecDepth 100000 in
theorem hz_ce6 : ((hzM.drop 120).take 20).all (fun q => decide (q.2.2.2.2.2.2.2.2.1 = 0) || decide ((parseMethodDescriptor q.1.desc).map (fun d => d.parameters.length) = some q.2.2.2.2.2.2.2.2.2.2.2.2)) = true := by decide +kernel
set_option maxRecDepth 100000 in
theorem hz_ce7 : ((hzM.drop 140).take 20).all (fun q => decide (q.2.2.2.2.2.2.2.2.1 = 0) || decide ((parseMethodDescriptor q.1.desc).map (fun d => d.parameters.length) = some q.2.2.2.2.2.2.2.2.2.2.2.2)) = true := by decide +kernel
set_option maxRecDepth 100000 in
theorem hz_ce8 : ((hzM.drop 160).take 20).all (fun q => decide (q.2.2.2.2.2.2.2.2.1 = 0) || decide ((parseMethodDescriptor q.1.desc).map (fun d => d.parameters.length) = some q.2.2.2.2.2.2.2.2.2.2.2.2)) = true := by decide +kernel
set_option maxRecDepth 100000 in
theorem hz_ce9 : ((hzM.drop 180).take 20).all (fun q => decide (q.2.2.2.2.2.2.2.2.1 = 0) || decide ((parseMethodDescriptor q.1.desc).map (fun d => d.parameters.length) = some q.2.2.2.2.2.2.2.2.2.2.2.2)) = true := by decide +kernel
set_option maxRecDepth 100000 in
theorem hz_ce10 : ((hzM.drop 200).take 20).all (fun q => decide (q.2.2.2.2.2.2.2.2.1 = 0) || decide ((parseMethodDescriptor q.1.desc).map (fun d => d.parameters.length) = some q.2.2.2.2.2.2.2.2.2.2.2.2)) = true := by decide +kernel
set_option maxRecDepth 100000 in
theorem hz_ce11 : ((hzM.drop 220).take 1).all (fun q => decide (q.2.2.2.2.2.2.2.2.1 = 0) || decide ((parseMethodDescriptor q.1.desc).map (fun d => d.parameters.length) = some q.2.2.2.2.2.2.2.2.2.2.2.2)) = true := by decide +kernel
set_option maxRecDepth 100000 in
theorem hz_cf : hzM.all (fun q => decide (q.2.2.2.2.2.2.2.2.1 = 0) || (plainFor q.1 && (decide (q.1.cls ≠ "java/lang/invoke/MethodHandle") && decide (q.1.cls ≠ "java/lang/invoke/VarHandle")))) = true := by decide +kernel
set_option maxRecDepth 100000 in
theorem hz_cg : hzM.map (fun q => if q.2.2.2.2.1 = 99 then (some q.1.cls : Option String) else (hzCl[q.2.2.2.2.1]?).map (fun z => z.1)) = hzM.map (fun q => some q.1.cls) := rfl
