/-! LARGE CONTRACTS, by computation -/
theorem ck_ct_106 : ackc [] ct_106 cu_ct_106 0 1585 = true := by decide +kernel
theorem ck_ct_162 : ackc [] ct_162 cu_ct_162 0 750 = true := by decide +kernel
theorem ck_ct_178 : ackc [ct_175_1] ct_178 cu_ct_178 3 999 = true := by decide +kernel
theorem ck_ct_179 : ackc [ct_174, ct_174_1, ct_175, ct_178] ct_179 cu_ct_179 3 5271 = true := by decide +kernel
theorem ck_ct_115 : ackc [ct_41, ct_49, ct_78] ct_115 cu_ct_115 0 2639 = true := by decide +kernel
theorem ck_ct_187 : ackc [ct_183] ct_187 cu_ct_187 0 1578 = true := by decide +kernel
theorem ck_ct_116 : ackc [ct_56, ct_56_1, ct_56_2, ct_74] ct_116 cu_ct_116 0 923 = true := by decide +kernel
theorem ck_ct_191 : ackc [ct_170, ct_188, ct_188_1, ct_188_2, ct_188_3] ct_191 cu_ct_191 3 928 = true := by decide +kernel
theorem ck_ct_197 : ackc [ct_195, ct_196_1] ct_197 cu_ct_197 3 1193 = true := by decide +kernel
