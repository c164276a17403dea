set_option maxRecDepth 100000 in
theorem cd_k142 : cd_r142.all (cd_chk 142) = true := by decide +kernel
set_option maxRecDepth 100000 in
theorem cd_k143 : cd_r143.all (cd_chk 143) = true := by decide +kernel
set_option maxRecDepth 100000 in
theorem cd_k144 : cd_r144.all (cd_chk 144) = true := by decide +kernel
set_option maxRecDepth 100000 in
theorem cd_k145 : cd_r145.all (cd_chk 145) = true := by decide +kernel
set_option maxRecDepth 100000 in
theorem cd_k146 : cd_r146.all (cd_chk 146) = true := by decide +kernel
set_option maxRecDepth 100000 in
theorem cd_k147 : cd_r147.all (cd_chk 147) = true := by decide +kernel
set_option maxRecDepth 100000 in
theorem cd_k148 : cd_r148.all (cd_chk 148) = true := by decide +kernel
set_option maxRecDepth 100000 in
theorem cd_k149 : cd_r149.all (cd_chk 149) = true := by decide +kernel
set_option maxRecDepth 100000 in
theorem cd_k150 : cd_r150.all (cd_chk 150) = true := by decide +kernel
set_option maxRecDepth 100000 in
theorem cd_k151 : cd_r151.all (cd_chk 151) = true := by decide +kernel
set_option maxRecDepth 100000 in
theorem cd_k152 : cd_r152.all (cd_chk 152) = true := by decide +kernel
set_option maxRecDepth 100000 in
theorem cd_k153 : cd_r153.all (cd_chk 153) = true := by decide +kernel
set_option maxRecDepth 100000 in
theorem cd_k154 : cd_r154.all (cd_chk 154) = true := by decide +kernel
