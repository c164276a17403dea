set_option maxRecDepth 100000 in
theorem cd_k78 : cd_r78.all (cd_chk 78) = true := by decide +kernel
set_option maxRecDepth 100000 in
theorem cd_k79 : cd_r79.all (cd_chk 79) = true := by decide +kernel
set_option maxRecDepth 100000 in
theorem cd_k80 : cd_r80.all (cd_chk 80) = true := by decide +kernel
set_option maxRecDepth 100000 in
theorem cd_k81 : cd_r81.all (cd_chk 81) = true := by decide +kernel
set_option maxRecDepth 100000 in
theorem cd_k82 : cd_r82.all (cd_chk 82) = true := by decide +kernel
set_option maxRecDepth 100000 in
theorem cd_k83 : cd_r83.all (cd_chk 83) = true := by decide +kernel
set_option maxRecDepth 100000 in
theorem cd_k84 : cd_r84.all (cd_chk 84) = true := by decide +kernel
set_option maxRecDepth 100000 in
theorem cd_k85 : cd_r85.all (cd_chk 85) = true := by decide +kernel
set_option maxRecDepth 100000 in
theorem cd_k86 : cd_r86.all (cd_chk 86) = true := by decide +kernel
set_option maxRecDepth 100000 in
theorem cd_k87 : cd_r87.all (cd_chk 87) = true := by decide +kernel
set_option maxRecDepth 100000 in
theorem cd_k88 : cd_r88.all (cd_chk 88) = true := by decide +kernel
set_option maxRecDepth 100000 in
theorem cd_k89 : cd_r89.all (cd_chk 89) = true := by decide +kernel
set_option maxRecDepth 100000 in
theorem cd_k90 : cd_r90.all (cd_chk 90) = true := by decide +kernel
set_option maxRecDepth 100000 in
theorem cd_k91 : cd_r91.all (cd_chk 91) = true := by decide +kernel
set_option maxRecDepth 100000 in
theorem cd_k92 : cd_r92.all (cd_chk 92) = true := by decide +kernel
set_option maxRecDepth 100000 in
theorem cd_k93 : cd_r93.all (cd_chk 93) = true := by decide +kernel
set_option maxRecDepth 100000 in
theorem cd_k94 : cd_r94.all (cd_chk 94) = true := by decide +kernel
