theorem hz_len9 : hzM.length = 221 := by decide +kernel
