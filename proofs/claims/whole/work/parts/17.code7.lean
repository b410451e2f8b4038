/-! every instruction is where the tables say -/
theorem am_tc193 : (List.range' 193 2).all (fun m => am_cgo m 0 (am_code.getD m [])) = true := by decide +kernel
theorem am_tc195 : (List.range' 195 1).all (fun m => am_cgo m 0 (am_code.getD m [])) = true := by decide +kernel
theorem am_tc196 : (List.range' 196 1).all (fun m => am_cgo m 0 (am_code.getD m [])) = true := by decide +kernel
theorem am_tc197 : (List.range' 197 1).all (fun m => am_cgo m 0 (am_code.getD m [])) = true := by decide +kernel
theorem am_tc198 : (List.range' 198 1).all (fun m => am_cgo m 0 (am_code.getD m [])) = true := by decide +kernel
theorem am_tb199_0 : am_cgo 199 0 (((am_code.getD 199 []).drop 0).take 90) = true := by decide +kernel
theorem am_tb199_90 : am_cgo 199 90 (((am_code.getD 199 []).drop 90).take 71) = true := by decide +kernel
theorem am_tc200 : (List.range' 200 1).all (fun m => am_cgo m 0 (am_code.getD m [])) = true := by decide +kernel
theorem am_tc201 : (List.range' 201 1).all (fun m => am_cgo m 0 (am_code.getD m [])) = true := by decide +kernel
theorem am_tc202 : (List.range' 202 2).all (fun m => am_cgo m 0 (am_code.getD m [])) = true := by decide +kernel
theorem am_tc204 : (List.range' 204 3).all (fun m => am_cgo m 0 (am_code.getD m [])) = true := by decide +kernel
theorem am_tc207 : (List.range' 207 3).all (fun m => am_cgo m 0 (am_code.getD m [])) = true := by decide +kernel
theorem am_tc210 : (List.range' 210 1).all (fun m => am_cgo m 0 (am_code.getD m [])) = true := by decide +kernel
theorem am_tc211 : (List.range' 211 1).all (fun m => am_cgo m 0 (am_code.getD m [])) = true := by decide +kernel
theorem am_tc212 : (List.range' 212 2).all (fun m => am_cgo m 0 (am_code.getD m [])) = true := by decide +kernel
theorem am_tc214 : (List.range' 214 2).all (fun m => am_cgo m 0 (am_code.getD m [])) = true := by decide +kernel
theorem am_tc216 : (List.range' 216 1).all (fun m => am_cgo m 0 (am_code.getD m [])) = true := by decide +kernel
theorem am_tc217 : (List.range' 217 4).all (fun m => am_cgo m 0 (am_code.getD m [])) = true := by decide +kernel
theorem am_tc221 : (List.range' 221 7).all (fun m => am_cgo m 0 (am_code.getD m [])) = true := by decide +kernel
