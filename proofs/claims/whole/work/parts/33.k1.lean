set_option maxRecDepth 100000 in
theorem cd_k18 : cd_r18.all (cd_chk 18) = true := by decide +kernel
set_option maxRecDepth 100000 in
theorem cd_k19 : cd_r19.all (cd_chk 19) = true := by decide +kernel
set_option maxRecDepth 100000 in
theorem cd_k20 : cd_r20.all (cd_chk 20) = true := by decide +kernel
set_option maxRecDepth 100000 in
theorem cd_k21 : cd_r21.all (cd_chk 21) = true := by decide +kernel
set_option maxRecDepth 100000 in
theorem cd_k22 : cd_r22.all (cd_chk 22) = true := by decide +kernel
set_option maxRecDepth 100000 in
theorem cd_k23 : cd_r23.all (cd_chk 23) = true := by decide +kernel
set_option maxRecDepth 100000 in
theorem cd_k24 : cd_r24.all (cd_chk 24) = true := by decide +kernel
set_option maxRecDepth 100000 in
theorem cd_k25 : cd_r25.all (cd_chk 25) = true := by decide +kernel
set_option maxRecDepth 100000 in
theorem cd_k26 : cd_r26.all (cd_chk 26) = true := by decide +kernel
set_option maxRecDepth 100000 in
theorem cd_k27 : cd_r27.all (cd_chk 27) = true := by decide +kernel
set_option maxRecDepth 100000 in
theorem cd_k28 : cd_r28.all (cd_chk 28) = true := by decide +kernel
set_option maxRecDepth 100000 in
theorem cd_k29 : cd_r29.all (cd_chk 29) = true := by decide +kernel
set_option maxRecDepth 100000 in
theorem cd_k30 : cd_r30.all (cd_chk 30) = true := by decide +kernel
set_option maxRecDepth 100000 in
theorem cd_k31 : cd_r31.all (cd_chk 31) = true := by decide +kernel
set_option maxRecDepth 100000 in
theorem cd_k32 : cd_r32.all (cd_chk 32) = true := by decide +kernel
set_option maxRecDepth 100000 in
theorem cd_k33 : cd_r33.all (cd_chk 33) = true := by decide +kernel
set_option maxRecDepth 100000 in
theorem cd_k34 : cd_r34.all (cd_chk 34) = true := by decide +kernel
set_option maxRecDepth 100000 in
theorem cd_k35 : cd_r35.all (cd_chk 35) = true := by decide +kernel
set_option maxRecDepth 100000 in
theorem cd_k36 : cd_r36.all (cd_chk 36) = true := by decide +kernel
set_option maxRecDepth 100000 in
theorem cd_k37 : cd_r37.all (cd_chk 37) = true := by decide +kernel
set_option maxRecDepth 100000 in
theorem cd_k38 : cd_r38.all (cd_chk 38) = true := by decide +kernel
set_option maxRecDepth 100000 in
theorem cd_k39 : cd_r39.all (cd_chk 39) = true := by decide +kernel
set_option maxRecDepth 100000 in
theorem cd_k40 : cd_r40.all (cd_chk 40) = true := by decide +kernel
set_option maxRecDepth 100000 in
theorem cd_k41 : cd_r41.all (cd_chk 41) = true := by decide +kernel
set_option maxRecDepth 100000 in
theorem cd_k42 : cd_r42.all (cd_chk 42) = true := by decide +kernel
set_option maxRecDepth 100000 in
theorem cd_k43 : cd_r43.all (cd_chk 43) = true := by decide +kernel
set_option maxRecDepth 100000 in
theorem cd_k44 : cd_r44.all (cd_chk 44) = true := by decide +kernel
set_option maxRecDepth 100000 in
theorem cd_k45 : cd_r45.all (cd_chk 45) = true := by decide +kernel
set_option maxRecDepth 100000 in
theorem cd_k46 : cd_r46.all (cd_chk 46) = true := by decide +kernel
set_option maxRecDepth 100000 in
theorem cd_k47 : cd_r47.all (cd_chk 47) = true := by decide +kernel
set_option maxRecDepth 100000 in
theorem cd_k48 : cd_r48.all (cd_chk 48) = true := by decide +kernel
set_option maxRecDepth 100000 in
theorem cd_k49 : cd_r49.all (cd_chk 49) = true := by decide +kernel
set_option maxRecDepth 100000 in
theorem cd_k50 : cd_r50.all (cd_chk 50) = true := by decide +kernel
set_option maxRecDepth 100000 in
theorem cd_k51 : cd_r51.all (cd_chk 51) = true := by decide +kernel
