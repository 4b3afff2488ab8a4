theorem tt_X10_plank : (xrun0 false 10000 130 (0, xent 130 [.ref 0], [], 102, xsh0, xMt)).map (fun r => r.1) = some (some (.int (0))) := by decide +kernel
theorem tt_X11_plank : (xrun0 false 10000 215 (0, xent 215 [.ref 56], [], 102, xsh0, xMt)).map (fun r => r.1) = some (some (.int (0))) := by decide +kernel
theorem tt_X10_rule : (xrun0 false 10000 113 (0, xent 113 [.ref 0], [], 102, xsh0, xMt)).map (fun r => r.1) = some (some (.int (-10))) := by decide +kernel
theorem tt_X11_rule : (xrun0 false 10000 180 (0, xent 180 [.ref 56], [], 102, xsh0, xMt)).map (fun r => r.1) = some (some (.int (-10))) := by decide +kernel
theorem tt_X10_ballot : (xrun0 false 10000 120 (0, xent 120 [.ref 0], [], 102, xsh0, xMt)).map (fun r => r.1) = some (some (.int (-1))) := by decide +kernel
theorem tt_X11_ballot : (xrun0 false 10000 199 (0, xent 199 [.ref 56], [], 102, xsh0, xMt)).map (fun r => r.1) = some (some (.int (-1))) := by decide +kernel
