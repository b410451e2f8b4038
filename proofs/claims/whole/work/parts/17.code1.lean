/-! every instruction is where the tables say -/
theorem am_tc71 : (List.range' 71 7).all am_cdx = true := by decide +kernel
theorem am_tc78 : (List.range' 78 4).all am_cdx = true := by decide +kernel
theorem am_tc82 : (List.range' 82 5).all am_cdx = true := by decide +kernel
theorem am_tc87 : (List.range' 87 5).all am_cdx = true := by decide +kernel
theorem am_tc92 : (List.range' 92 7).all am_cdx = true := by decide +kernel
theorem am_tc99 : (List.range' 99 6).all am_cdx = true := by decide +kernel
theorem am_tc105 : (List.range' 105 5).all am_cdx = true := by decide +kernel
theorem am_tc110 : (List.range' 110 5).all am_cdx = true := by decide +kernel
theorem am_tc115 : (List.range' 115 10).all am_cdx = true := by decide +kernel
