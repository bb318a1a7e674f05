/-! ===== the way to the loop's head ===== -/
set_option maxRecDepth 100000 in
theorem qpre_fuel : qfuel (qstart (qbxL 5)) = 3984 := by decide +kernel
set_option maxRecDepth 100000 in
theorem qpre_run : (List.range 6).all (fun L => qpreOk (qstart (qbxL L))) = true := by decide +kernel
