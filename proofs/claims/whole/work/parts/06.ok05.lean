/-! printed by gen.py: the checks of the tables -/
set_option maxRecDepth 100000 in
theorem ok_k179_0 : k179_0.all (fun e => okI 179 e.1 e.2) = true := by decide +kernel
set_option maxRecDepth 100000 in
theorem ok_k179_1 : k179_1.all (fun e => okI 179 e.1 e.2) = true := by decide +kernel
set_option maxRecDepth 100000 in
theorem ok_k179_2 : k179_2.all (fun e => okI 179 e.1 e.2) = true := by decide +kernel
