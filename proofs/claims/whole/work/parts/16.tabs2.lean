theorem am_tl140 : (List.range' 140 20).all am_lkx = true := by decide +kernel
theorem am_tl160 : (List.range' 160 20).all am_lkx = true := by decide +kernel
theorem am_tl180 : (List.range' 180 20).all am_lkx = true := by decide +kernel
theorem am_tl200 : (List.range' 200 20).all am_lkx = true := by decide +kernel
theorem am_tl220 : (List.range' 220 20).all am_lkx = true := by decide +kernel
theorem am_tl240 : (List.range' 240 20).all am_lkx = true := by decide +kernel
theorem am_tl260 : (List.range' 260 18).all am_lkx = true := by decide +kernel
