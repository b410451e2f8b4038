/-! every instruction is where the tables say -/
theorem am_tc0 : (List.range' 0 1).all am_cdx = true := by decide +kernel
theorem am_tc1 : (List.range' 1 10).all am_cdx = true := by decide +kernel
theorem am_tc11 : (List.range' 11 6).all am_cdx = true := by decide +kernel
theorem am_tc17 : (List.range' 17 7).all am_cdx = true := by decide +kernel
theorem am_tc24 : (List.range' 24 4).all am_cdx = true := by decide +kernel
theorem am_tc28 : (List.range' 28 11).all am_cdx = true := by decide +kernel
theorem am_tc39 : (List.range' 39 15).all am_cdx = true := by decide +kernel
theorem am_tc54 : (List.range' 54 11).all am_cdx = true := by decide +kernel
theorem am_tc65 : (List.range' 65 6).all am_cdx = true := by decide +kernel
