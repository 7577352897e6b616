/-! printed by gen.py: the checks of the tables -/
set_option maxRecDepth 100000 in
theorem ok_k173 : k173.all (fun e => okI 173 e.1 e.2) = true := by decide +kernel
set_option maxRecDepth 100000 in
theorem ok_k174 : k174.all (fun e => okI 174 e.1 e.2) = true := by decide +kernel
set_option maxRecDepth 100000 in
theorem ok_k175 : k175.all (fun e => okI 175 e.1 e.2) = true := by decide +kernel
set_option maxRecDepth 100000 in
theorem ok_k176 : k176.all (fun e => okI 176 e.1 e.2) = true := by decide +kernel
set_option maxRecDepth 100000 in
theorem ok_k177 : k177.all (fun e => okI 177 e.1 e.2) = true := by decide +kernel
set_option maxRecDepth 100000 in
theorem ok_k178 : k178.all (fun e => okI 178 e.1 e.2) = true := by decide +kernel
