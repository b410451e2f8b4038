/-! every instruction is where the tables say -/
theorem am_tc173 : (List.range' 173 7).all am_cdx = true := by decide +kernel
theorem am_tc180 : (List.range' 180 4).all am_cdx = true := by decide +kernel
theorem am_tc184 : (List.range' 184 6).all am_cdx = true := by decide +kernel
theorem am_tc190 : (List.range' 190 5).all am_cdx = true := by decide +kernel
theorem am_tc195 : (List.range' 195 4).all am_cdx = true := by decide +kernel
theorem am_tc199 : (List.range' 199 6).all am_cdx = true := by decide +kernel
theorem am_tc205 : (List.range' 205 10).all am_cdx = true := by decide +kernel
theorem am_tc215 : (List.range' 215 13).all am_cdx = true := by decide +kernel
