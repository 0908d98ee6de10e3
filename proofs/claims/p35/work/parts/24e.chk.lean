/-! checks 4 -/
set_option maxRecDepth 100000 in
theorem hw_c24 : (List.range' 160 1).all (fun i => match hw_Y[i]? with
  | some Y => ha_chk (hw_Y.take i) (hw_Hs i) hw_W 4000 Y
  | none => false) = true := by decide +kernel
set_option maxRecDepth 100000 in
theorem hw_c25 : (List.range' 161 1).all (fun i => match hw_Y[i]? with
  | some Y => ha_chk (hw_Y.take i) (hw_Hs i) hw_W 4000 Y
  | none => false) = true := by decide +kernel
set_option maxRecDepth 100000 in
theorem hw_c26 : (List.range' 162 1).all (fun i => match hw_Y[i]? with
  | some Y => ha_chk (hw_Y.take i) (hw_Hs i) hw_W 4000 Y
  | none => false) = true := by decide +kernel
