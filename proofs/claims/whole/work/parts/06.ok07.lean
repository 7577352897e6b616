/-! printed by gen.py: the checks of the tables -/
set_option maxRecDepth 100000 in
theorem ok_k181_6 : k181_6.all (fun e => okI 181 e.1 e.2) = true := by decide +kernel
set_option maxRecDepth 100000 in
theorem ok_k181_7 : k181_7.all (fun e => okI 181 e.1 e.2) = true := by decide +kernel
set_option maxRecDepth 100000 in
theorem ok_k181_8 : k181_8.all (fun e => okI 181 e.1 e.2) = true := by decide +kernel
