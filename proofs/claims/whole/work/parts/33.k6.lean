set_option maxRecDepth 100000 in
theorem cd_k129 : cd_r129.all (cd_chk 129) = true := by decide +kernel
set_option maxRecDepth 100000 in
theorem cd_k130 : cd_r130.all (cd_chk 130) = true := by decide +kernel
set_option maxRecDepth 100000 in
theorem cd_k131 : cd_r131.all (cd_chk 131) = true := by decide +kernel
set_option maxRecDepth 100000 in
theorem cd_k132 : cd_r132.all (cd_chk 132) = true := by decide +kernel
set_option maxRecDepth 100000 in
theorem cd_k133 : cd_r133.all (cd_chk 133) = true := by decide +kernel
set_option maxRecDepth 100000 in
theorem cd_k134 : cd_r134.all (cd_chk 134) = true := by decide +kernel
set_option maxRecDepth 100000 in
theorem cd_k135 : cd_r135.all (cd_chk 135) = true := by decide +kernel
set_option maxRecDepth 100000 in
theorem cd_k136 : cd_r136.all (cd_chk 136) = true := by decide +kernel
set_option maxRecDepth 100000 in
theorem cd_k137 : cd_r137.all (cd_chk 137) = true := by decide +kernel
set_option maxRecDepth 100000 in
theorem cd_k138 : cd_r138.all (cd_chk 138) = true := by decide +kernel
set_option maxRecDepth 100000 in
theorem cd_k139 : cd_r139.all (cd_chk 139) = true := by decide +kernel
set_option maxRecDepth 100000 in
theorem cd_k140 : cd_r140.all (cd_chk 140) = true := by decide +kernel
set_option maxRecDepth 100000 in
theorem cd_k141 : cd_r141.all (cd_chk 141) = true := by decide +kernel
