/-! printed by gen.py: the checks of the tables -/
set_option maxRecDepth 100000 in
theorem ok_k181_9 : k181_9.all (fun e => okI 181 e.1 e.2) = true := by decide +kernel
set_option maxRecDepth 100000 in
theorem ok_k181_10 : k181_10.all (fun e => okI 181 e.1 e.2) = true := by decide +kernel
set_option maxRecDepth 100000 in
theorem ok_k181_11 : k181_11.all (fun e => okI 181 e.1 e.2) = true := by decide +kernel
