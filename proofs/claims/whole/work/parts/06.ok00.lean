/-! printed by gen.py: the checks of the tables -/
set_option maxRecDepth 100000 in
theorem ok_k0 : k0.all (fun e => okI 0 e.1 e.2) = true := by decide +kernel
set_option maxRecDepth 100000 in
theorem ok_k1 : k1.all (fun e => okI 1 e.1 e.2) = true := by decide +kernel
set_option maxRecDepth 100000 in
theorem ok_k2 : k2.all (fun e => okI 2 e.1 e.2) = true := by decide +kernel
set_option maxRecDepth 100000 in
theorem ok_k3 : k3.all (fun e => okI 3 e.1 e.2) = true := by decide +kernel
set_option maxRecDepth 100000 in
theorem ok_k4 : k4.all (fun e => okI 4 e.1 e.2) = true := by decide +kernel
set_option maxRecDepth 100000 in
theorem ok_k5 : k5.all (fun e => okI 5 e.1 e.2) = true := by decide +kernel
set_option maxRecDepth 100000 in
theorem ok_k6 : k6.all (fun e => okI 6 e.1 e.2) = true := by decide +kernel
set_option maxRecDepth 100000 in
theorem ok_k7 : k7.all (fun e => okI 7 e.1 e.2) = true := by decide +kernel
set_option maxRecDepth 100000 in
theorem ok_k8 : k8.all (fun e => okI 8 e.1 e.2) = true := by decide +kernel
set_option maxRecDepth 100000 in
theorem ok_k9 : k9.all (fun e => okI 9 e.1 e.2) = true := by decide +kernel
set_option maxRecDepth 100000 in
theorem ok_k10 : k10.all (fun e => okI 10 e.1 e.2) = true := by decide +kernel
set_option maxRecDepth 100000 in
theorem ok_k11 : k11.all (fun e => okI 11 e.1 e.2) = true := by decide +kernel
set_option maxRecDepth 100000 in
theorem ok_k12 : k12.all (fun e => okI 12 e.1 e.2) = true := by decide +kernel
set_option maxRecDepth 100000 in
theorem ok_k13 : k13.all (fun e => okI 13 e.1 e.2) = true := by decide +kernel
set_option maxRecDepth 100000 in
theorem ok_k14 : k14.all (fun e => okI 14 e.1 e.2) = true := by decide +kernel
set_option maxRecDepth 100000 in
theorem ok_k15 : k15.all (fun e => okI 15 e.1 e.2) = true := by decide +kernel
set_option maxRecDepth 100000 in
theorem ok_k16 : k16.all (fun e => okI 16 e.1 e.2) = true := by decide +kernel
set_option maxRecDepth 100000 in
theorem ok_k17 : k17.all (fun e => okI 17 e.1 e.2) = true := by decide +kernel
set_option maxRecDepth 100000 in
theorem ok_k18 : k18.all (fun e => okI 18 e.1 e.2) = true := by decide +kernel
set_option maxRecDepth 100000 in
theorem ok_k19 : k19.all (fun e => okI 19 e.1 e.2) = true := by decide +kernel
set_option maxRecDepth 100000 in
theorem ok_k20 : k20.all (fun e => okI 20 e.1 e.2) = true := by decide +kernel
set_option maxRecDepth 100000 in
theorem ok_k21 : k21.all (fun e => okI 21 e.1 e.2) = true := by decide +kernel
set_option maxRecDepth 100000 in
theorem ok_k22 : k22.all (fun e => okI 22 e.1 e.2) = true := by decide +kernel
set_option maxRecDepth 100000 in
theorem ok_k23 : k23.all (fun e => okI 23 e.1 e.2) = true := by decide +kernel
set_option maxRecDepth 100000 in
theorem ok_k24 : k24.all (fun e => okI 24 e.1 e.2) = true := by decide +kernel
set_option maxRecDepth 100000 in
theorem ok_k25 : k25.all (fun e => okI 25 e.1 e.2) = true := by decide +kernel
set_option maxRecDepth 100000 in
theorem ok_k26 : k26.all (fun e => okI 26 e.1 e.2) = true := by decide +kernel
set_option maxRecDepth 100000 in
theorem ok_k27 : k27.all (fun e => okI 27 e.1 e.2) = true := by decide +kernel
set_option maxRecDepth 100000 in
theorem ok_k28 : k28.all (fun e => okI 28 e.1 e.2) = true := by decide +kernel
set_option maxRecDepth 100000 in
theorem ok_k29 : k29.all (fun e => okI 29 e.1 e.2) = true := by decide +kernel
set_option maxRecDepth 100000 in
theorem ok_k30 : k30.all (fun e => okI 30 e.1 e.2) = true := by decide +kernel
set_option maxRecDepth 100000 in
theorem ok_k31 : k31.all (fun e => okI 31 e.1 e.2) = true := by decide +kernel
set_option maxRecDepth 100000 in
theorem ok_k32 : k32.all (fun e => okI 32 e.1 e.2) = true := by decide +kernel
set_option maxRecDepth 100000 in
theorem ok_k33 : k33.all (fun e => okI 33 e.1 e.2) = true := by decide +kernel
set_option maxRecDepth 100000 in
theorem ok_k34 : k34.all (fun e => okI 34 e.1 e.2) = true := by decide +kernel
set_option maxRecDepth 100000 in
theorem ok_k35 : k35.all (fun e => okI 35 e.1 e.2) = true := by decide +kernel
set_option maxRecDepth 100000 in
theorem ok_k36 : k36.all (fun e => okI 36 e.1 e.2) = true := by decide +kernel
set_option maxRecDepth 100000 in
theorem ok_k37 : k37.all (fun e => okI 37 e.1 e.2) = true := by decide +kernel
set_option maxRecDepth 100000 in
theorem ok_k38 : k38.all (fun e => okI 38 e.1 e.2) = true := by decide +kernel
set_option maxRecDepth 100000 in
theorem ok_k39 : k39.all (fun e => okI 39 e.1 e.2) = true := by decide +kernel
set_option maxRecDepth 100000 in
theorem ok_k40 : k40.all (fun e => okI 40 e.1 e.2) = true := by decide +kernel
set_option maxRecDepth 100000 in
theorem ok_k41 : k41.all (fun e => okI 41 e.1 e.2) = true := by decide +kernel
set_option maxRecDepth 100000 in
theorem ok_k42 : k42.all (fun e => okI 42 e.1 e.2) = true := by decide +kernel
set_option maxRecDepth 100000 in
theorem ok_k43 : k43.all (fun e => okI 43 e.1 e.2) = true := by decide +kernel
set_option maxRecDepth 100000 in
theorem ok_k44 : k44.all (fun e => okI 44 e.1 e.2) = true := by decide +kernel
set_option maxRecDepth 100000 in
theorem ok_k45 : k45.all (fun e => okI 45 e.1 e.2) = true := by decide +kernel
set_option maxRecDepth 100000 in
theorem ok_k46 : k46.all (fun e => okI 46 e.1 e.2) = true := by decide +kernel
set_option maxRecDepth 100000 in
theorem ok_k47 : k47.all (fun e => okI 47 e.1 e.2) = true := by decide +kernel
set_option maxRecDepth 100000 in
theorem ok_k48 : k48.all (fun e => okI 48 e.1 e.2) = true := by decide +kernel
