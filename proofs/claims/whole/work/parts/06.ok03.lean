/-! printed by gen.py: the checks of the tables -/
set_option maxRecDepth 100000 in
theorem ok_k147 : k147.all (fun e => okI 147 e.1 e.2) = true := by decide +kernel
set_option maxRecDepth 100000 in
theorem ok_k148 : k148.all (fun e => okI 148 e.1 e.2) = true := by decide +kernel
set_option maxRecDepth 100000 in
theorem ok_k149 : k149.all (fun e => okI 149 e.1 e.2) = true := by decide +kernel
set_option maxRecDepth 100000 in
theorem ok_k150 : k150.all (fun e => okI 150 e.1 e.2) = true := by decide +kernel
set_option maxRecDepth 100000 in
theorem ok_k151 : k151.all (fun e => okI 151 e.1 e.2) = true := by decide +kernel
set_option maxRecDepth 100000 in
theorem ok_k152 : k152.all (fun e => okI 152 e.1 e.2) = true := by decide +kernel
set_option maxRecDepth 100000 in
theorem ok_k153 : k153.all (fun e => okI 153 e.1 e.2) = true := by decide +kernel
set_option maxRecDepth 100000 in
theorem ok_k154 : k154.all (fun e => okI 154 e.1 e.2) = true := by decide +kernel
set_option maxRecDepth 100000 in
theorem ok_k155 : k155.all (fun e => okI 155 e.1 e.2) = true := by decide +kernel
set_option maxRecDepth 100000 in
theorem ok_k156 : k156.all (fun e => okI 156 e.1 e.2) = true := by decide +kernel
set_option maxRecDepth 100000 in
theorem ok_k157 : k157.all (fun e => okI 157 e.1 e.2) = true := by decide +kernel
set_option maxRecDepth 100000 in
theorem ok_k158 : k158.all (fun e => okI 158 e.1 e.2) = true := by decide +kernel
set_option maxRecDepth 100000 in
theorem ok_k159 : k159.all (fun e => okI 159 e.1 e.2) = true := by decide +kernel
set_option maxRecDepth 100000 in
theorem ok_k160 : k160.all (fun e => okI 160 e.1 e.2) = true := by decide +kernel
set_option maxRecDepth 100000 in
theorem ok_k161 : k161.all (fun e => okI 161 e.1 e.2) = true := by decide +kernel
set_option maxRecDepth 100000 in
theorem ok_k162 : k162.all (fun e => okI 162 e.1 e.2) = true := by decide +kernel
set_option maxRecDepth 100000 in
theorem ok_k163 : k163.all (fun e => okI 163 e.1 e.2) = true := by decide +kernel
set_option maxRecDepth 100000 in
theorem ok_k164 : k164.all (fun e => okI 164 e.1 e.2) = true := by decide +kernel
set_option maxRecDepth 100000 in
theorem ok_k165 : k165.all (fun e => okI 165 e.1 e.2) = true := by decide +kernel
set_option maxRecDepth 100000 in
theorem ok_k166 : k166.all (fun e => okI 166 e.1 e.2) = true := by decide +kernel
set_option maxRecDepth 100000 in
theorem ok_k167 : k167.all (fun e => okI 167 e.1 e.2) = true := by decide +kernel
set_option maxRecDepth 100000 in
theorem ok_k168 : k168.all (fun e => okI 168 e.1 e.2) = true := by decide +kernel
set_option maxRecDepth 100000 in
theorem ok_k169 : k169.all (fun e => okI 169 e.1 e.2) = true := by decide +kernel
set_option maxRecDepth 100000 in
theorem ok_k170 : k170.all (fun e => okI 170 e.1 e.2) = true := by decide +kernel
set_option maxRecDepth 100000 in
theorem ok_k171 : k171.all (fun e => okI 171 e.1 e.2) = true := by decide +kernel
set_option maxRecDepth 100000 in
theorem ok_k172 : k172.all (fun e => okI 172 e.1 e.2) = true := by decide +kernel
