theorem am_tm121 : (List.range' 121 12).all am_mk = true := by decide +kernel
theorem am_tm133 : (List.range' 133 12).all am_mk = true := by decide +kernel
theorem am_tm145 : (List.range' 145 12).all am_mk = true := by decide +kernel
theorem am_tm157 : (List.range' 157 12).all am_mk = true := by decide +kernel
theorem am_tm169 : (List.range' 169 12).all am_mk = true := by decide +kernel
