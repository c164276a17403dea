set_option maxRecDepth 100000 in
theorem cd_k155 : cd_r155.all (cd_chk 155) = true := by decide +kernel
set_option maxRecDepth 100000 in
theorem cd_k156 : cd_r156.all (cd_chk 156) = true := by decide +kernel
set_option maxRecDepth 100000 in
theorem cd_k157 : cd_r157.all (cd_chk 157) = true := by decide +kernel
set_option maxRecDepth 100000 in
theorem cd_k158 : cd_r158.all (cd_chk 158) = true := by decide +kernel
set_option maxRecDepth 100000 in
theorem cd_k159 : cd_r159.all (cd_chk 159) = true := by decide +kernel
set_option maxRecDepth 100000 in
theorem cd_k160 : cd_r160.all (cd_chk 160) = true := by decide +kernel
set_option maxRecDepth 100000 in
theorem cd_k161 : cd_r161.all (cd_chk 161) = true := by decide +kernel
