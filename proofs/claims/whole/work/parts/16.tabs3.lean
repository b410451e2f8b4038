theorem am_tm1 : (List.range' 1 12).all am_mk = true := by decide +kernel
theorem am_tm13 : (List.range' 13 12).all am_mk = true := by decide +kernel
theorem am_tm25 : (List.range' 25 12).all am_mk = true := by decide +kernel
theorem am_tm37 : (List.range' 37 12).all am_mk = true := by decide +kernel
theorem am_tm49 : (List.range' 49 12).all am_mk = true := by decide +kernel
