/-! WORDS, by computation -/
theorem ck_ct_97 : ackc [ct_99, ct_99_1, ct_99_2, ct_99_3, ct_99_4] ct_97 cu_ct_97 0 10091 = true := by decide +kernel
theorem ck_ct_97_1 : ackc [ct_99_5, ct_99_6, ct_99_7, ct_99_8] ct_97_1 cu_ct_97_1 0 9392 = true := by decide +kernel
theorem ck_ct_97_2 : ackc [ct_99_9, ct_99_10, ct_99_11] ct_97_2 cu_ct_97_2 0 1910 = true := by decide +kernel
