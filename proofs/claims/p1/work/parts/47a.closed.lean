theorem wc_foresee : P0 122 (0, [some (.ref 0)], [], 102, xshC, xMt) (fun r => r.1 = some (.int (-1))) := P0.map (n := 40000) (by decide +kernel)
theorem wc_needs : P0 123 (0, [some (.ref 0)], [], 102, xshC, xMt) (fun r => r.1 = some (.int 8)) := P0.map (n := 40000) (by decide +kernel)
theorem wc_turned : P0 124 (0, [some (.ref 0)], [], 102, xshC, xMt) (fun r => r.1 = some (.int (-1))) := P0.map (n := 40000) (by decide +kernel)
