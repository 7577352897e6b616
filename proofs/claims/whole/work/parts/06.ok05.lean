/-! printed by gen.py: the checks of the tables -/
set_option maxRecDepth 100000 in
theorem ok_k181_0 : k181_0.all (fun e => okI 181 e.1 e.2) = true := by decide +kernel
set_option maxRecDepth 100000 in
theorem ok_k181_1 : k181_1.all (fun e => okI 181 e.1 e.2) = true := by decide +kernel
set_option maxRecDepth 100000 in
theorem ok_k181_2 : k181_2.all (fun e => okI 181 e.1 e.2) = true := by decide +kernel
