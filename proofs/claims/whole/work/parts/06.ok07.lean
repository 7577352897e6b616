/-! printed by gen.py: the checks of the tables -/
set_option maxRecDepth 100000 in
theorem ok_k179_6 : k179_6.all (fun e => okI 179 e.1 e.2) = true := by decide +kernel
set_option maxRecDepth 100000 in
theorem ok_k179_7 : k179_7.all (fun e => okI 179 e.1 e.2) = true := by decide +kernel
set_option maxRecDepth 100000 in
theorem ok_k179_8 : k179_8.all (fun e => okI 179 e.1 e.2) = true := by decide +kernel
