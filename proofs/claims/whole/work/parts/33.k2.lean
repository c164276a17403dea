set_option maxRecDepth 100000 in
theorem cd_k52 : cd_r52.all (cd_chk 52) = true := by decide +kernel
set_option maxRecDepth 100000 in
theorem cd_k53 : cd_r53.all (cd_chk 53) = true := by decide +kernel
set_option maxRecDepth 100000 in
theorem cd_k54 : cd_r54.all (cd_chk 54) = true := by decide +kernel
set_option maxRecDepth 100000 in
theorem cd_k55 : cd_r55.all (cd_chk 55) = true := by decide +kernel
set_option maxRecDepth 100000 in
theorem cd_k56 : cd_r56.all (cd_chk 56) = true := by decide +kernel
set_option maxRecDepth 100000 in
theorem cd_k57 : cd_r57.all (cd_chk 57) = true := by decide +kernel
set_option maxRecDepth 100000 in
theorem cd_k58 : cd_r58.all (cd_chk 58) = true := by decide +kernel
set_option maxRecDepth 100000 in
theorem cd_k59 : cd_r59.all (cd_chk 59) = true := by decide +kernel
set_option maxRecDepth 100000 in
theorem cd_k60 : cd_r60.all (cd_chk 60) = true := by decide +kernel
set_option maxRecDepth 100000 in
theorem cd_k61 : cd_r61.all (cd_chk 61) = true := by decide +kernel
set_option maxRecDepth 100000 in
theorem cd_k62 : cd_r62.all (cd_chk 62) = true := by decide +kernel
set_option maxRecDepth 100000 in
theorem cd_k63 : cd_r63.all (cd_chk 63) = true := by decide +kernel
set_option maxRecDepth 100000 in
theorem cd_k64 : cd_r64.all (cd_chk 64) = true := by decide +kernel
set_option maxRecDepth 100000 in
theorem cd_k65 : cd_r65.all (cd_chk 65) = true := by decide +kernel
set_option maxRecDepth 100000 in
theorem cd_k66 : cd_r66.all (cd_chk 66) = true := by decide +kernel
set_option maxRecDepth 100000 in
theorem cd_k67 : cd_r67.all (cd_chk 67) = true := by decide +kernel
set_option maxRecDepth 100000 in
theorem cd_k68 : cd_r68.all (cd_chk 68) = true := by decide +kernel
set_option maxRecDepth 100000 in
theorem cd_k69 : cd_r69.all (cd_chk 69) = true := by decide +kernel
set_option maxRecDepth 100000 in
theorem cd_k70 : cd_r70.all (cd_chk 70) = true := by decide +kernel
set_option maxRecDepth 100000 in
theorem cd_k71 : cd_r71.all (cd_chk 71) = true := by decide +kernel
set_option maxRecDepth 100000 in
theorem cd_k72 : cd_r72.all (cd_chk 72) = true := by decide +kernel
set_option maxRecDepth 100000 in
theorem cd_k73 : cd_r73.all (cd_chk 73) = true := by decide +kernel
set_option maxRecDepth 100000 in
theorem cd_k74 : cd_r74.all (cd_chk 74) = true := by decide +kernel
set_option maxRecDepth 100000 in
theorem cd_k75 : cd_r75.all (cd_chk 75) = true := by decide +kernel
set_option maxRecDepth 100000 in
theorem cd_k76 : cd_r76.all (cd_chk 76) = true := by decide +kernel
set_option maxRecDepth 100000 in
theorem cd_k77 : cd_r77.all (cd_chk 77) = true := by decide +kernel
