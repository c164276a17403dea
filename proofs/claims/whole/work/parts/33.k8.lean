set_option maxRecDepth 100000 in
theorem cd_k153 : cd_r153.all (cd_chk 153) = true := by decide +kernel
set_option maxRecDepth 100000 in
theorem cd_k154 : cd_r154.all (cd_chk 154) = true := by decide +kernel
set_option maxRecDepth 100000 in
theorem cd_k155 : cd_r155.all (cd_chk 155) = true := by decide +kernel
set_option maxRecDepth 100000 in
theorem cd_k156 : cd_r156.all (cd_chk 156) = true := by decide +kernel
set_option maxRecDepth 100000 in
theorem cd_k157 : cd_r157.all (cd_chk 157) = true := by decide +kernel
