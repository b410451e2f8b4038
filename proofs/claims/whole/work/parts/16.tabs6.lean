theorem am_tm181 : (List.range' 181 12).all am_mk = true := by decide +kernel
theorem am_tm193 : (List.range' 193 12).all am_mk = true := by decide +kernel
theorem am_tm205 : (List.range' 205 12).all am_mk = true := by decide +kernel
theorem am_tm217 : (List.range' 217 10).all am_mk = true := by decide +kernel
