set_option maxRecDepth 100000 in
theorem cd_k0 : cd_r0.all (cd_chk 0) = true := by decide +kernel
set_option maxRecDepth 100000 in
theorem cd_k1 : cd_r1.all (cd_chk 1) = true := by decide +kernel
set_option maxRecDepth 100000 in
theorem cd_k2 : cd_r2.all (cd_chk 2) = true := by decide +kernel
set_option maxRecDepth 100000 in
theorem cd_k3 : cd_r3.all (cd_chk 3) = true := by decide +kernel
set_option maxRecDepth 100000 in
theorem cd_k4 : cd_r4.all (cd_chk 4) = true := by decide +kernel
set_option maxRecDepth 100000 in
theorem cd_k5 : cd_r5.all (cd_chk 5) = true := by decide +kernel
set_option maxRecDepth 100000 in
theorem cd_k6 : cd_r6.all (cd_chk 6) = true := by decide +kernel
set_option maxRecDepth 100000 in
theorem cd_k7 : cd_r7.all (cd_chk 7) = true := by decide +kernel
set_option maxRecDepth 100000 in
theorem cd_k8 : cd_r8.all (cd_chk 8) = true := by decide +kernel
set_option maxRecDepth 100000 in
theorem cd_k9 : cd_r9.all (cd_chk 9) = true := by decide +kernel
set_option maxRecDepth 100000 in
theorem cd_k10 : cd_r10.all (cd_chk 10) = true := by decide +kernel
set_option maxRecDepth 100000 in
theorem cd_k11 : cd_r11.all (cd_chk 11) = true := by decide +kernel
set_option maxRecDepth 100000 in
theorem cd_k12 : cd_r12.all (cd_chk 12) = true := by decide +kernel
set_option maxRecDepth 100000 in
theorem cd_k13 : cd_r13.all (cd_chk 13) = true := by decide +kernel
set_option maxRecDepth 100000 in
theorem cd_k14 : cd_r14.all (cd_chk 14) = true := by decide +kernel
set_option maxRecDepth 100000 in
theorem cd_k15 : cd_r15.all (cd_chk 15) = true := by decide +kernel
set_option maxRecDepth 100000 in
theorem cd_k16 : cd_r16.all (cd_chk 16) = true := by decide +kernel
set_option maxRecDepth 100000 in
theorem cd_k17 : cd_r17.all (cd_chk 17) = true := by decide +kernel
