/-! printed by gen.py: the checks of the tables -/
set_option maxRecDepth 100000 in
theorem ok_k49 : k49.all (fun e => okI 49 e.1 e.2) = true := by decide +kernel
set_option maxRecDepth 100000 in
theorem ok_k50 : k50.all (fun e => okI 50 e.1 e.2) = true := by decide +kernel
set_option maxRecDepth 100000 in
theorem ok_k51 : k51.all (fun e => okI 51 e.1 e.2) = true := by decide +kernel
set_option maxRecDepth 100000 in
theorem ok_k52 : k52.all (fun e => okI 52 e.1 e.2) = true := by decide +kernel
set_option maxRecDepth 100000 in
theorem ok_k53 : k53.all (fun e => okI 53 e.1 e.2) = true := by decide +kernel
set_option maxRecDepth 100000 in
theorem ok_k54 : k54.all (fun e => okI 54 e.1 e.2) = true := by decide +kernel
set_option maxRecDepth 100000 in
theorem ok_k55 : k55.all (fun e => okI 55 e.1 e.2) = true := by decide +kernel
set_option maxRecDepth 100000 in
theorem ok_k56 : k56.all (fun e => okI 56 e.1 e.2) = true := by decide +kernel
set_option maxRecDepth 100000 in
theorem ok_k57 : k57.all (fun e => okI 57 e.1 e.2) = true := by decide +kernel
set_option maxRecDepth 100000 in
theorem ok_k58 : k58.all (fun e => okI 58 e.1 e.2) = true := by decide +kernel
set_option maxRecDepth 100000 in
theorem ok_k59 : k59.all (fun e => okI 59 e.1 e.2) = true := by decide +kernel
set_option maxRecDepth 100000 in
theorem ok_k60 : k60.all (fun e => okI 60 e.1 e.2) = true := by decide +kernel
set_option maxRecDepth 100000 in
theorem ok_k61 : k61.all (fun e => okI 61 e.1 e.2) = true := by decide +kernel
set_option maxRecDepth 100000 in
theorem ok_k62 : k62.all (fun e => okI 62 e.1 e.2) = true := by decide +kernel
set_option maxRecDepth 100000 in
theorem ok_k63 : k63.all (fun e => okI 63 e.1 e.2) = true := by decide +kernel
set_option maxRecDepth 100000 in
theorem ok_k64 : k64.all (fun e => okI 64 e.1 e.2) = true := by decide +kernel
set_option maxRecDepth 100000 in
theorem ok_k65 : k65.all (fun e => okI 65 e.1 e.2) = true := by decide +kernel
set_option maxRecDepth 100000 in
theorem ok_k66 : k66.all (fun e => okI 66 e.1 e.2) = true := by decide +kernel
set_option maxRecDepth 100000 in
theorem ok_k67 : k67.all (fun e => okI 67 e.1 e.2) = true := by decide +kernel
set_option maxRecDepth 100000 in
theorem ok_k68 : k68.all (fun e => okI 68 e.1 e.2) = true := by decide +kernel
set_option maxRecDepth 100000 in
theorem ok_k69 : k69.all (fun e => okI 69 e.1 e.2) = true := by decide +kernel
set_option maxRecDepth 100000 in
theorem ok_k70 : k70.all (fun e => okI 70 e.1 e.2) = true := by decide +kernel
set_option maxRecDepth 100000 in
theorem ok_k71 : k71.all (fun e => okI 71 e.1 e.2) = true := by decide +kernel
set_option maxRecDepth 100000 in
theorem ok_k72 : k72.all (fun e => okI 72 e.1 e.2) = true := by decide +kernel
set_option maxRecDepth 100000 in
theorem ok_k73 : k73.all (fun e => okI 73 e.1 e.2) = true := by decide +kernel
set_option maxRecDepth 100000 in
theorem ok_k74 : k74.all (fun e => okI 74 e.1 e.2) = true := by decide +kernel
set_option maxRecDepth 100000 in
theorem ok_k75 : k75.all (fun e => okI 75 e.1 e.2) = true := by decide +kernel
set_option maxRecDepth 100000 in
theorem ok_k76 : k76.all (fun e => okI 76 e.1 e.2) = true := by decide +kernel
set_option maxRecDepth 100000 in
theorem ok_k77 : k77.all (fun e => okI 77 e.1 e.2) = true := by decide +kernel
set_option maxRecDepth 100000 in
theorem ok_k78 : k78.all (fun e => okI 78 e.1 e.2) = true := by decide +kernel
set_option maxRecDepth 100000 in
theorem ok_k79 : k79.all (fun e => okI 79 e.1 e.2) = true := by decide +kernel
set_option maxRecDepth 100000 in
theorem ok_k80 : k80.all (fun e => okI 80 e.1 e.2) = true := by decide +kernel
set_option maxRecDepth 100000 in
theorem ok_k81 : k81.all (fun e => okI 81 e.1 e.2) = true := by decide +kernel
set_option maxRecDepth 100000 in
theorem ok_k82 : k82.all (fun e => okI 82 e.1 e.2) = true := by decide +kernel
set_option maxRecDepth 100000 in
theorem ok_k83 : k83.all (fun e => okI 83 e.1 e.2) = true := by decide +kernel
set_option maxRecDepth 100000 in
theorem ok_k84 : k84.all (fun e => okI 84 e.1 e.2) = true := by decide +kernel
set_option maxRecDepth 100000 in
theorem ok_k85 : k85.all (fun e => okI 85 e.1 e.2) = true := by decide +kernel
set_option maxRecDepth 100000 in
theorem ok_k86 : k86.all (fun e => okI 86 e.1 e.2) = true := by decide +kernel
set_option maxRecDepth 100000 in
theorem ok_k87 : k87.all (fun e => okI 87 e.1 e.2) = true := by decide +kernel
set_option maxRecDepth 100000 in
theorem ok_k88 : k88.all (fun e => okI 88 e.1 e.2) = true := by decide +kernel
set_option maxRecDepth 100000 in
theorem ok_k89 : k89.all (fun e => okI 89 e.1 e.2) = true := by decide +kernel
set_option maxRecDepth 100000 in
theorem ok_k90 : k90.all (fun e => okI 90 e.1 e.2) = true := by decide +kernel
set_option maxRecDepth 100000 in
theorem ok_k91 : k91.all (fun e => okI 91 e.1 e.2) = true := by decide +kernel
set_option maxRecDepth 100000 in
theorem ok_k92 : k92.all (fun e => okI 92 e.1 e.2) = true := by decide +kernel
set_option maxRecDepth 100000 in
theorem ok_k93 : k93.all (fun e => okI 93 e.1 e.2) = true := by decide +kernel
set_option maxRecDepth 100000 in
theorem ok_k94 : k94.all (fun e => okI 94 e.1 e.2) = true := by decide +kernel
set_option maxRecDepth 100000 in
theorem ok_k95 : k95.all (fun e => okI 95 e.1 e.2) = true := by decide +kernel
set_option maxRecDepth 100000 in
theorem ok_k96 : k96.all (fun e => okI 96 e.1 e.2) = true := by decide +kernel
set_option maxRecDepth 100000 in
theorem ok_k97 : k97.all (fun e => okI 97 e.1 e.2) = true := by decide +kernel
set_option maxRecDepth 100000 in
theorem ok_k98 : k98.all (fun e => okI 98 e.1 e.2) = true := by decide +kernel
set_option maxRecDepth 100000 in
theorem ok_k99 : k99.all (fun e => okI 99 e.1 e.2) = true := by decide +kernel
set_option maxRecDepth 100000 in
theorem ok_k100 : k100.all (fun e => okI 100 e.1 e.2) = true := by decide +kernel
set_option maxRecDepth 100000 in
theorem ok_k101 : k101.all (fun e => okI 101 e.1 e.2) = true := by decide +kernel
set_option maxRecDepth 100000 in
theorem ok_k102 : k102.all (fun e => okI 102 e.1 e.2) = true := by decide +kernel
set_option maxRecDepth 100000 in
theorem ok_k103 : k103.all (fun e => okI 103 e.1 e.2) = true := by decide +kernel
set_option maxRecDepth 100000 in
theorem ok_k104 : k104.all (fun e => okI 104 e.1 e.2) = true := by decide +kernel
set_option maxRecDepth 100000 in
theorem ok_k105 : k105.all (fun e => okI 105 e.1 e.2) = true := by decide +kernel
set_option maxRecDepth 100000 in
theorem ok_k106 : k106.all (fun e => okI 106 e.1 e.2) = true := by decide +kernel
set_option maxRecDepth 100000 in
theorem ok_k107 : k107.all (fun e => okI 107 e.1 e.2) = true := by decide +kernel
set_option maxRecDepth 100000 in
theorem ok_k108 : k108.all (fun e => okI 108 e.1 e.2) = true := by decide +kernel
