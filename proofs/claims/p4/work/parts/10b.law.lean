/-! the law's code -/
set_option maxRecDepth 100000 in
theorem hz_cl0 : ((hzc_215.drop 0).take 3).all (fun B => B.all (fun e => hz_okD code e.1 e.2.1 && hz_okA 11 426 e.1 e.2.1 e.2.2.1 e.2.2.2.1 e.2.2.2.2.1)) = true := by decide +kernel
set_option maxRecDepth 100000 in
theorem hz_cl1 : ((hzc_215.drop 3).take 3).all (fun B => B.all (fun e => hz_okD code e.1 e.2.1 && hz_okA 11 426 e.1 e.2.1 e.2.2.1 e.2.2.2.1 e.2.2.2.2.1)) = true := by decide +kernel
set_option maxRecDepth 100000 in
theorem hz_cl2 : ((hzc_215.drop 6).take 3).all (fun B => B.all (fun e => hz_okD code e.1 e.2.1 && hz_okA 11 426 e.1 e.2.1 e.2.2.1 e.2.2.2.1 e.2.2.2.2.1)) = true := by decide +kernel
set_option maxRecDepth 100000 in
theorem hz_cl3 : ((hzc_215.drop 9).take 3).all (fun B => B.all (fun e => hz_okD code e.1 e.2.1 && hz_okA 11 426 e.1 e.2.1 e.2.2.1 e.2.2.2.1 e.2.2.2.2.1)) = true := by decide +kernel
set_option maxRecDepth 100000 in
theorem hz_cl4 : ((hzc_215.drop 12).take 3).all (fun B => B.all (fun e => hz_okD code e.1 e.2.1 && hz_okA 11 426 e.1 e.2.1 e.2.2.1 e.2.2.2.1 e.2.2.2.2.1)) = true := by decide +kernel
set_option maxRecDepth 100000 in
theorem hz_cl5 : ((hzc_215.drop 15).take 3).all (fun B => B.all (fun e => hz_okD code e.1 e.2.1 && hz_okA 11 426 e.1 e.2.1 e.2.2.1 e.2.2.2.1 e.2.2.2.2.1)) = true := by decide +kernel
set_option maxRecDepth 100000 in
theorem hz_cl6 : ((hzc_215.drop 18).take 3).all (fun B => B.all (fun e => hz_okD code e.1 e.2.1 && hz_okA 11 426 e.1 e.2.1 e.2.2.1 e.2.2.2.1 e.2.2.2.2.1)) = true := by decide +kernel
set_option maxRecDepth 100000 in
theorem hz_cl7 : ((hzc_215.drop 21).take 3).all (fun B => B.all (fun e => hz_okD code e.1 e.2.1 && hz_okA 11 426 e.1 e.2.1 e.2.2.1 e.2.2.2.1 e.2.2.2.2.1)) = true := by decide +kernel
set_option maxRecDepth 100000 in
theorem hz_cl8 : ((hzc_215.drop 24).take 3).all (fun B => B.all (fun e => hz_okD code e.1 e.2.1 && hz_okA 11 426 e.1 e.2.1 e.2.2.1 e.2.2.2.1 e.2.2.2.2.1)) = true := by decide +kernel
set_option maxRecDepth 100000 in
theorem hz_cl9 : ((hzc_215.drop 27).take 3).all (fun B => B.all (fun e => hz_okD code e.1 e.2.1 && hz_okA 11 426 e.1 e.2.1 e.2.2.1 e.2.2.2.1 e.2.2.2.2.1)) = true := by decide +kernel
set_option maxRecDepth 100000 in
theorem hz_cl10 : ((hzc_215.drop 30).take 3).all (fun B => B.all (fun e => hz_okD code e.1 e.2.1 && hz_okA 11 426 e.1 e.2.1 e.2.2.1 e.2.2.2.1 e.2.2.2.2.1)) = true := by decide +kernel
set_option maxRecDepth 100000 in
theorem hz_cl11 : ((hzc_215.drop 33).take 3).all (fun B => B.all (fun e => hz_okD code e.1 e.2.1 && hz_okA 11 426 e.1 e.2.1 e.2.2.1 e.2.2.2.1 e.2.2.2.2.1)) = true := by decide +kernel
set_option maxRecDepth 100000 in
theorem hz_cl12 : ((hzc_215.drop 36).take 3).all (fun B => B.all (fun e => hz_okD code e.1 e.2.1 && hz_okA 11 426 e.1 e.2.1 e.2.2.1 e.2.2.2.1 e.2.2.2.2.1)) = true := by decide +kernel
set_option maxRecDepth 100000 in
theorem hz_cl13 : ((hzc_215.drop 39).take 3).all (fun B => B.all (fun e => hz_okD code e.1 e.2.1 && hz_okA 11 426 e.1 e.2.1 e.2.2.1 e.2.2.2.1 e.2.2.2.2.1)) = true := by decide +kernel
set_option maxRecDepth 100000 in
theorem hz_cl14 : ((hzc_215.drop 42).take 3).all (fun B => B.all (fun e => hz_okD code e.1 e.2.1 && hz_okA 11 426 e.1 e.2.1 e.2.2.1 e.2.2.2.1 e.2.2.2.2.1)) = true := by decide +kernel
set_option maxRecDepth 100000 in
theorem hz_cl15 : ((hzc_215.drop 45).take 3).all (fun B => B.all (fun e => hz_okD code e.1 e.2.1 && hz_okA 11 426 e.1 e.2.1 e.2.2.1 e.2.2.2.1 e.2.2.2.2.1)) = true := by decide +kernel
set_option maxRecDepth 100000 in
theorem hz_cl16 : ((hzc_215.drop 48).take 3).all (fun B => B.all (fun e => hz_okD code e.1 e.2.1 && hz_okA 11 426 e.1 e.2.1 e.2.2.1 e.2.2.2.1 e.2.2.2.2.1)) = true := by decide +kernel
set_option maxRecDepth 100000 in
theorem hz_cl17 : ((hzc_215.drop 51).take 3).all (fun B => B.all (fun e => hz_okD code e.1 e.2.1 && hz_okA 11 426 e.1 e.2.1 e.2.2.1 e.2.2.2.1 e.2.2.2.2.1)) = true := by decide +kernel
set_option maxRecDepth 100000 in
theorem hz_cl18 : ((hzc_215.drop 54).take 3).all (fun B => B.all (fun e => hz_okD code e.1 e.2.1 && hz_okA 11 426 e.1 e.2.1 e.2.2.1 e.2.2.2.1 e.2.2.2.2.1)) = true := by decide +kernel
