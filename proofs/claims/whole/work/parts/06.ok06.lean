/-! printed by gen.py: the checks of the tables -/
set_option maxRecDepth 100000 in
theorem ok_k181_3 : k181_3.all (fun e => okI 181 e.1 e.2) = true := by decide +kernel
set_option maxRecDepth 100000 in
theorem ok_k181_4 : k181_4.all (fun e => okI 181 e.1 e.2) = true := by decide +kernel
set_option maxRecDepth 100000 in
theorem ok_k181_5 : k181_5.all (fun e => okI 181 e.1 e.2) = true := by decide +kernel
