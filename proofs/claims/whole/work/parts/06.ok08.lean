/-! printed by gen.py: the checks of the tables -/
set_option maxRecDepth 100000 in
theorem ok_k179_9 : k179_9.all (fun e => okI 179 e.1 e.2) = true := by decide +kernel
set_option maxRecDepth 100000 in
theorem ok_k179_10 : k179_10.all (fun e => okI 179 e.1 e.2) = true := by decide +kernel
set_option maxRecDepth 100000 in
theorem ok_k179_11 : k179_11.all (fun e => okI 179 e.1 e.2) = true := by decide +kernel
