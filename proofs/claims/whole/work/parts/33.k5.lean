set_option maxRecDepth 100000 in
theorem cd_k112 : cd_r112.all (cd_chk 112) = true := by decide +kernel
set_option maxRecDepth 100000 in
theorem cd_k113 : cd_r113.all (cd_chk 113) = true := by decide +kernel
set_option maxRecDepth 100000 in
theorem cd_k114 : cd_r114.all (cd_chk 114) = true := by decide +kernel
set_option maxRecDepth 100000 in
theorem cd_k115 : cd_r115.all (cd_chk 115) = true := by decide +kernel
set_option maxRecDepth 100000 in
theorem cd_k116 : cd_r116.all (cd_chk 116) = true := by decide +kernel
set_option maxRecDepth 100000 in
theorem cd_k117 : cd_r117.all (cd_chk 117) = true := by decide +kernel
set_option maxRecDepth 100000 in
theorem cd_k118 : cd_r118.all (cd_chk 118) = true := by decide +kernel
set_option maxRecDepth 100000 in
theorem cd_k119 : cd_r119.all (cd_chk 119) = true := by decide +kernel
set_option maxRecDepth 100000 in
theorem cd_k120 : cd_r120.all (cd_chk 120) = true := by decide +kernel
set_option maxRecDepth 100000 in
theorem cd_k121 : cd_r121.all (cd_chk 121) = true := by decide +kernel
set_option maxRecDepth 100000 in
theorem cd_k122 : cd_r122.all (cd_chk 122) = true := by decide +kernel
set_option maxRecDepth 100000 in
theorem cd_k123 : cd_r123.all (cd_chk 123) = true := by decide +kernel
set_option maxRecDepth 100000 in
theorem cd_k124 : cd_r124.all (cd_chk 124) = true := by decide +kernel
set_option maxRecDepth 100000 in
theorem cd_k125 : cd_r125.all (cd_chk 125) = true := by decide +kernel
set_option maxRecDepth 100000 in
theorem cd_k126 : cd_r126.all (cd_chk 126) = true := by decide +kernel
set_option maxRecDepth 100000 in
theorem cd_k127 : cd_r127.all (cd_chk 127) = true := by decide +kernel
set_option maxRecDepth 100000 in
theorem cd_k128 : cd_r128.all (cd_chk 128) = true := by decide +kernel
