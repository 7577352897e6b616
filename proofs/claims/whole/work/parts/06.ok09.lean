/-! printed by gen.py: the checks of the tables -/
set_option maxRecDepth 100000 in
theorem ok_k181_12 : k181_12.all (fun e => okI 181 e.1 e.2) = true := by decide +kernel
set_option maxRecDepth 100000 in
theorem ok_k181_13 : k181_13.all (fun e => okI 181 e.1 e.2) = true := by decide +kernel
set_option maxRecDepth 100000 in
theorem ok_k181_14 : k181_14.all (fun e => okI 181 e.1 e.2) = true := by decide +kernel
