theorem am_tl0 : (List.range' 0 20).all am_lkx = true := by decide +kernel
theorem am_tl20 : (List.range' 20 20).all am_lkx = true := by decide +kernel
theorem am_tl40 : (List.range' 40 20).all am_lkx = true := by decide +kernel
theorem am_tl60 : (List.range' 60 20).all am_lkx = true := by decide +kernel
theorem am_tl80 : (List.range' 80 20).all am_lkx = true := by decide +kernel
theorem am_tl100 : (List.range' 100 20).all am_lkx = true := by decide +kernel
theorem am_tl120 : (List.range' 120 20).all am_lkx = true := by decide +kernel
