set_option maxRecDepth 100000 in
theorem hw_c6 : (List.range' 128 20).all (fun i => match hw_Y[i]? with
  | some Y => ha_chk (hw_Y.take i) hw_H hw_W 4000 Y
  | none => false) = true := by decide +kernel
set_option maxRecDepth 100000 in
theorem hw_c7 : (List.range' 148 20).all (fun i => match hw_Y[i]? with
  | some Y => ha_chk (hw_Y.take i) hw_H hw_W 4000 Y
  | none => false) = true := by decide +kernel
set_option maxRecDepth 100000 in
theorem hw_c8 : (List.range' 168 20).all (fun i => match hw_Y[i]? with
  | some Y => ha_chk (hw_Y.take i) hw_H hw_W 4000 Y
  | none => false) = true := by decide +kernel
set_option maxRecDepth 100000 in
theorem hw_c9 : (List.range' 188 20).all (fun i => match hw_Y[i]? with
  | some Y => ha_chk (hw_Y.take i) hw_H hw_W 4000 Y
  | none => false) = true := by decide +kernel
set_option maxRecDepth 100000 in
theorem hw_c10 : (List.range' 208 20).all (fun i => match hw_Y[i]? with
  | some Y => ha_chk (hw_Y.take i) hw_H hw_W 4000 Y
  | none => false) = true := by decide +kernel
set_option maxRecDepth 100000 in
theorem hw_c11 : (List.range' 228 17).all (fun i => match hw_Y[i]? with
  | some Y => ha_chk (hw_Y.take i) hw_H hw_W 4000 Y
  | none => false) = true := by decide +kernel
