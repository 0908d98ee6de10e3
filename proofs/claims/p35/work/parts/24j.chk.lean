/-! checks 9 -/
set_option maxRecDepth 100000 in
theorem hw_c47 : (List.range' 210 6).all (fun i => match hw_Y[i]? with
  | some Y => ha_chk (hw_Y.take i) (hw_Hs i) hw_W 4000 Y
  | none => false) = true := by decide +kernel
set_option maxRecDepth 100000 in
theorem hw_c48 : (List.range' 216 7).all (fun i => match hw_Y[i]? with
  | some Y => ha_chk (hw_Y.take i) (hw_Hs i) hw_W 4000 Y
  | none => false) = true := by decide +kernel
set_option maxRecDepth 100000 in
theorem hw_c49 : (List.range' 223 3).all (fun i => match hw_Y[i]? with
  | some Y => ha_chk (hw_Y.take i) (hw_Hs i) hw_W 4000 Y
  | none => false) = true := by decide +kernel
set_option maxRecDepth 100000 in
theorem hw_c50 : (List.range' 226 4).all (fun i => match hw_Y[i]? with
  | some Y => ha_chk (hw_Y.take i) (hw_Hs i) hw_W 4000 Y
  | none => false) = true := by decide +kernel
set_option maxRecDepth 100000 in
theorem hw_c51 : (List.range' 230 1).all (fun i => match hw_Y[i]? with
  | some Y => ha_chk (hw_Y.take i) (hw_Hs i) hw_W 4000 Y
  | none => false) = true := by decide +kernel
