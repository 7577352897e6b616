/-! printed by gen.py: the checks of the tables -/
set_option maxRecDepth 100000 in
theorem ok_k179_12 : k179_12.all (fun e => okI 179 e.1 e.2) = true := by decide +kernel
set_option maxRecDepth 100000 in
theorem ok_k179_13 : k179_13.all (fun e => okI 179 e.1 e.2) = true := by decide +kernel
set_option maxRecDepth 100000 in
theorem ok_k179_14 : k179_14.all (fun e => okI 179 e.1 e.2) = true := by decide +kernel
