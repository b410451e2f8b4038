/-! every instruction is where the tables say -/
theorem am_tc125 : (List.range' 125 12).all am_cdx = true := by decide +kernel
theorem am_tc137 : (List.range' 137 5).all am_cdx = true := by decide +kernel
theorem am_tc142 : (List.range' 142 7).all am_cdx = true := by decide +kernel
theorem am_tc149 : (List.range' 149 5).all am_cdx = true := by decide +kernel
theorem am_tc154 : (List.range' 154 4).all am_cdx = true := by decide +kernel
theorem am_tc158 : (List.range' 158 1).all am_cdx = true := by decide +kernel
theorem am_tc159 : (List.range' 159 5).all am_cdx = true := by decide +kernel
theorem am_tc164 : (List.range' 164 4).all am_cdx = true := by decide +kernel
theorem am_tc168 : (List.range' 168 5).all am_cdx = true := by decide +kernel
