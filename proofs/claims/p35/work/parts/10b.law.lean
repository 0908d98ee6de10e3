/-! the law's code -/
set_option maxRecDepth 100000 in
theorem hz_okC_law : hz_okC 215 = true := hz_okQ_ok (by decide +kernel)
