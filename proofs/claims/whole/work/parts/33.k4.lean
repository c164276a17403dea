set_option maxRecDepth 100000 in
theorem cd_k95 : cd_r95.all (cd_chk 95) = true := by decide +kernel
set_option maxRecDepth 100000 in
theorem cd_k96 : cd_r96.all (cd_chk 96) = true := by decide +kernel
set_option maxRecDepth 100000 in
theorem cd_k97 : cd_r97.all (cd_chk 97) = true := by decide +kernel
set_option maxRecDepth 100000 in
theorem cd_k98 : cd_r98.all (cd_chk 98) = true := by decide +kernel
set_option maxRecDepth 100000 in
theorem cd_k99 : cd_r99.all (cd_chk 99) = true := by decide +kernel
set_option maxRecDepth 100000 in
theorem cd_k100 : cd_r100.all (cd_chk 100) = true := by decide +kernel
set_option maxRecDepth 100000 in
theorem cd_k101 : cd_r101.all (cd_chk 101) = true := by decide +kernel
set_option maxRecDepth 100000 in
theorem cd_k102 : cd_r102.all (cd_chk 102) = true := by decide +kernel
set_option maxRecDepth 100000 in
theorem cd_k103 : cd_r103.all (cd_chk 103) = true := by decide +kernel
set_option maxRecDepth 100000 in
theorem cd_k104 : cd_r104.all (cd_chk 104) = true := by decide +kernel
set_option maxRecDepth 100000 in
theorem cd_k105 : cd_r105.all (cd_chk 105) = true := by decide +kernel
set_option maxRecDepth 100000 in
theorem cd_k106 : cd_r106.all (cd_chk 106) = true := by decide +kernel
set_option maxRecDepth 100000 in
theorem cd_k107 : cd_r107.all (cd_chk 107) = true := by decide +kernel
set_option maxRecDepth 100000 in
theorem cd_k108 : cd_r108.all (cd_chk 108) = true := by decide +kernel
set_option maxRecDepth 100000 in
theorem cd_k109 : cd_r109.all (cd_chk 109) = true := by decide +kernel
set_option maxRecDepth 100000 in
theorem cd_k110 : cd_r110.all (cd_chk 110) = true := by decide +kernel
set_option maxRecDepth 100000 in
theorem cd_k111 : cd_r111.all (cd_chk 111) = true := by decide +kernel
