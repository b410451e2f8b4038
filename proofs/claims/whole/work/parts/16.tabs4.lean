theorem am_tm61 : (List.range' 61 12).all am_mk = true := by decide +kernel
theorem am_tm73 : (List.range' 73 12).all am_mk = true := by decide +kernel
theorem am_tm85 : (List.range' 85 12).all am_mk = true := by decide +kernel
theorem am_tm97 : (List.range' 97 12).all am_mk = true := by decide +kernel
theorem am_tm109 : (List.range' 109 12).all am_mk = true := by decide +kernel
