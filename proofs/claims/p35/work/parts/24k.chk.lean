/-! checks 10 -/
set_option maxRecDepth 100000 in
theorem hw_c52 : (List.range' 231 1).all (fun i => match hw_Y[i]? with
  | some Y => ha_chk (hw_Y.take i) (hw_Hs i) hw_W 4000 Y
  | none => false) = true := by decide +kernel
set_option maxRecDepth 100000 in
theorem hw_c53 : (List.range' 232 1).all (fun i => match hw_Y[i]? with
  | some Y => ha_chk (hw_Y.take i) (hw_Hs i) hw_W 4000 Y
  | none => false) = true := by decide +kernel
set_option maxRecDepth 100000 in
theorem hw_c54 : (List.range' 233 1).all (fun i => match hw_Y[i]? with
  | some Y => ha_chk (hw_Y.take i) (hw_Hs i) hw_W 4000 Y
  | none => false) = true := by decide +kernel
set_option maxRecDepth 100000 in
theorem hw_c55 : (List.range' 234 2).all (fun i => match hw_Y[i]? with
  | some Y => ha_chk (hw_Y.take i) (hw_Hs i) hw_W 4000 Y
  | none => false) = true := by decide +kernel
