/-! printed by gen.py: the checks of the tables -/
set_option maxRecDepth 100000 in
theorem ok_k109 : k109.all (fun e => okI 109 e.1 e.2) = true := by decide +kernel
set_option maxRecDepth 100000 in
theorem ok_k110 : k110.all (fun e => okI 110 e.1 e.2) = true := by decide +kernel
set_option maxRecDepth 100000 in
theorem ok_k111 : k111.all (fun e => okI 111 e.1 e.2) = true := by decide +kernel
set_option maxRecDepth 100000 in
theorem ok_k112 : k112.all (fun e => okI 112 e.1 e.2) = true := by decide +kernel
set_option maxRecDepth 100000 in
theorem ok_k113 : k113.all (fun e => okI 113 e.1 e.2) = true := by decide +kernel
set_option maxRecDepth 100000 in
theorem ok_k114 : k114.all (fun e => okI 114 e.1 e.2) = true := by decide +kernel
set_option maxRecDepth 100000 in
theorem ok_k115 : k115.all (fun e => okI 115 e.1 e.2) = true := by decide +kernel
set_option maxRecDepth 100000 in
theorem ok_k116 : k116.all (fun e => okI 116 e.1 e.2) = true := by decide +kernel
set_option maxRecDepth 100000 in
theorem ok_k117 : k117.all (fun e => okI 117 e.1 e.2) = true := by decide +kernel
set_option maxRecDepth 100000 in
theorem ok_k118 : k118.all (fun e => okI 118 e.1 e.2) = true := by decide +kernel
set_option maxRecDepth 100000 in
theorem ok_k119 : k119.all (fun e => okI 119 e.1 e.2) = true := by decide +kernel
set_option maxRecDepth 100000 in
theorem ok_k120 : k120.all (fun e => okI 120 e.1 e.2) = true := by decide +kernel
set_option maxRecDepth 100000 in
theorem ok_k121 : k121.all (fun e => okI 121 e.1 e.2) = true := by decide +kernel
set_option maxRecDepth 100000 in
theorem ok_k122 : k122.all (fun e => okI 122 e.1 e.2) = true := by decide +kernel
set_option maxRecDepth 100000 in
theorem ok_k123 : k123.all (fun e => okI 123 e.1 e.2) = true := by decide +kernel
set_option maxRecDepth 100000 in
theorem ok_k124 : k124.all (fun e => okI 124 e.1 e.2) = true := by decide +kernel
set_option maxRecDepth 100000 in
theorem ok_k125 : k125.all (fun e => okI 125 e.1 e.2) = true := by decide +kernel
set_option maxRecDepth 100000 in
theorem ok_k126 : k126.all (fun e => okI 126 e.1 e.2) = true := by decide +kernel
set_option maxRecDepth 100000 in
theorem ok_k127 : k127.all (fun e => okI 127 e.1 e.2) = true := by decide +kernel
set_option maxRecDepth 100000 in
theorem ok_k128 : k128.all (fun e => okI 128 e.1 e.2) = true := by decide +kernel
set_option maxRecDepth 100000 in
theorem ok_k129 : k129.all (fun e => okI 129 e.1 e.2) = true := by decide +kernel
set_option maxRecDepth 100000 in
theorem ok_k130 : k130.all (fun e => okI 130 e.1 e.2) = true := by decide +kernel
set_option maxRecDepth 100000 in
theorem ok_k131 : k131.all (fun e => okI 131 e.1 e.2) = true := by decide +kernel
set_option maxRecDepth 100000 in
theorem ok_k132 : k132.all (fun e => okI 132 e.1 e.2) = true := by decide +kernel
set_option maxRecDepth 100000 in
theorem ok_k133 : k133.all (fun e => okI 133 e.1 e.2) = true := by decide +kernel
set_option maxRecDepth 100000 in
theorem ok_k134 : k134.all (fun e => okI 134 e.1 e.2) = true := by decide +kernel
set_option maxRecDepth 100000 in
theorem ok_k135 : k135.all (fun e => okI 135 e.1 e.2) = true := by decide +kernel
set_option maxRecDepth 100000 in
theorem ok_k136 : k136.all (fun e => okI 136 e.1 e.2) = true := by decide +kernel
set_option maxRecDepth 100000 in
theorem ok_k137 : k137.all (fun e => okI 137 e.1 e.2) = true := by decide +kernel
set_option maxRecDepth 100000 in
theorem ok_k138 : k138.all (fun e => okI 138 e.1 e.2) = true := by decide +kernel
set_option maxRecDepth 100000 in
theorem ok_k139 : k139.all (fun e => okI 139 e.1 e.2) = true := by decide +kernel
set_option maxRecDepth 100000 in
theorem ok_k140 : k140.all (fun e => okI 140 e.1 e.2) = true := by decide +kernel
set_option maxRecDepth 100000 in
theorem ok_k141 : k141.all (fun e => okI 141 e.1 e.2) = true := by decide +kernel
set_option maxRecDepth 100000 in
theorem ok_k142 : k142.all (fun e => okI 142 e.1 e.2) = true := by decide +kernel
set_option maxRecDepth 100000 in
theorem ok_k143 : k143.all (fun e => okI 143 e.1 e.2) = true := by decide +kernel
set_option maxRecDepth 100000 in
theorem ok_k144 : k144.all (fun e => okI 144 e.1 e.2) = true := by decide +kernel
set_option maxRecDepth 100000 in
theorem ok_k145 : k145.all (fun e => okI 145 e.1 e.2) = true := by decide +kernel
set_option maxRecDepth 100000 in
theorem ok_k146 : k146.all (fun e => okI 146 e.1 e.2) = true := by decide +kernel
