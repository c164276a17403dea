set_option maxRecDepth 100000 in
theorem cd_m1 : (List.range 20).all (fun k => cd_mchk (k + 1)) = true := by decide +kernel
set_option maxRecDepth 100000 in
theorem cd_m21 : (List.range 20).all (fun k => cd_mchk (k + 21)) = true := by decide +kernel
set_option maxRecDepth 100000 in
theorem cd_m41 : (List.range 20).all (fun k => cd_mchk (k + 41)) = true := by decide +kernel
set_option maxRecDepth 100000 in
theorem cd_m61 : (List.range 20).all (fun k => cd_mchk (k + 61)) = true := by decide +kernel
set_option maxRecDepth 100000 in
theorem cd_m81 : (List.range 20).all (fun k => cd_mchk (k + 81)) = true := by decide +kernel
set_option maxRecDepth 100000 in
theorem cd_m101 : (List.range 20).all (fun k => cd_mchk (k + 101)) = true := by decide +kernel
set_option maxRecDepth 100000 in
theorem cd_m121 : (List.range 20).all (fun k => cd_mchk (k + 121)) = true := by decide +kernel
set_option maxRecDepth 100000 in
theorem cd_m141 : (List.range 20).all (fun k => cd_mchk (k + 141)) = true := by decide +kernel
set_option maxRecDepth 100000 in
theorem cd_m161 : (List.range 1).all (fun k => cd_mchk (k + 161)) = true := by decide +kernel
theorem cd_m (u : Nat) (h0 : u ≠ 0) (h : u < 162) : cd_mchk u = true := by
  by_cases h1 : u < 21
  · have := List.all_eq_true.mp cd_m1 (u - 1) (List.mem_range.mpr (by omega))
    rw [show u - 1 + 1 = u by omega] at this
    exact this
  by_cases h21 : u < 41
  · have := List.all_eq_true.mp cd_m21 (u - 21) (List.mem_range.mpr (by omega))
    rw [show u - 21 + 21 = u by omega] at this
    exact this
  by_cases h41 : u < 61
  · have := List.all_eq_true.mp cd_m41 (u - 41) (List.mem_range.mpr (by omega))
    rw [show u - 41 + 41 = u by omega] at this
    exact this
  by_cases h61 : u < 81
  · have := List.all_eq_true.mp cd_m61 (u - 61) (List.mem_range.mpr (by omega))
    rw [show u - 61 + 61 = u by omega] at this
    exact this
  by_cases h81 : u < 101
  · have := List.all_eq_true.mp cd_m81 (u - 81) (List.mem_range.mpr (by omega))
    rw [show u - 81 + 81 = u by omega] at this
    exact this
  by_cases h101 : u < 121
  · have := List.all_eq_true.mp cd_m101 (u - 101) (List.mem_range.mpr (by omega))
    rw [show u - 101 + 101 = u by omega] at this
    exact this
  by_cases h121 : u < 141
  · have := List.all_eq_true.mp cd_m121 (u - 121) (List.mem_range.mpr (by omega))
    rw [show u - 121 + 121 = u by omega] at this
    exact this
  by_cases h141 : u < 161
  · have := List.all_eq_true.mp cd_m141 (u - 141) (List.mem_range.mpr (by omega))
    rw [show u - 141 + 141 = u by omega] at this
    exact this
  by_cases h161 : u < 162
  · have := List.all_eq_true.mp cd_m161 (u - 161) (List.mem_range.mpr (by omega))
    rw [show u - 161 + 161 = u by omega] at this
    exact this
  omega
