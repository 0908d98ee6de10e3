/-! checks 6 -/
set_option maxRecDepth 100000 in
theorem hw_c33 : (List.range' 173 3).all (fun i => match hw_Y[i]? with
  | some Y => ha_chk (hw_Y.take i) (hw_Hs i) hw_W 4000 Y
  | none => false) = true := by decide +kernel
set_option maxRecDepth 100000 in
theorem hw_c34 : (List.range' 176 3).all (fun i => match hw_Y[i]? with
  | some Y => ha_chk (hw_Y.take i) (hw_Hs i) hw_W 4000 Y
  | none => false) = true := by decide +kernel
set_option maxRecDepth 100000 in
theorem hw_c35 : (List.range' 179 1).all (fun i => match hw_Y[i]? with
  | some Y => ha_chk (hw_Y.take i) (hw_Hs i) hw_W 4000 Y
  | none => false) = true := by decide +kernel
set_option maxRecDepth 100000 in
theorem hw_c36 : (List.range' 180 2).all (fun i => match hw_Y[i]? with
  | some Y => ha_chk (hw_Y.take i) (hw_Hs i) hw_W 4000 Y
  | none => false) = true := by decide +kernel
set_option maxRecDepth 100000 in
theorem hw_c37 : (List.range' 182 5).all (fun i => match hw_Y[i]? with
  | some Y => ha_chk (hw_Y.take i) (hw_Hs i) hw_W 4000 Y
  | none => false) = true := by decide +kernel
