/-! every instruction is where the tables say -/
theorem am_tc149 : (List.range' 149 1).all (fun m => am_cgo m 0 (am_code.getD m [])) = true := by decide +kernel
theorem am_tc150 : (List.range' 150 1).all (fun m => am_cgo m 0 (am_code.getD m [])) = true := by decide +kernel
theorem am_tc151 : (List.range' 151 1).all (fun m => am_cgo m 0 (am_code.getD m [])) = true := by decide +kernel
theorem am_tc152 : (List.range' 152 2).all (fun m => am_cgo m 0 (am_code.getD m [])) = true := by decide +kernel
theorem am_tc154 : (List.range' 154 2).all (fun m => am_cgo m 0 (am_code.getD m [])) = true := by decide +kernel
theorem am_tc156 : (List.range' 156 2).all (fun m => am_cgo m 0 (am_code.getD m [])) = true := by decide +kernel
theorem am_tb158_0 : am_cgo 158 0 (((am_code.getD 158 []).drop 0).take 90) = true := by decide +kernel
theorem am_tb158_90 : am_cgo 158 90 (((am_code.getD 158 []).drop 90).take 90) = true := by decide +kernel
theorem am_tb158_180 : am_cgo 158 180 (((am_code.getD 158 []).drop 180).take 90) = true := by decide +kernel
theorem am_tb158_270 : am_cgo 158 270 (((am_code.getD 158 []).drop 270).take 90) = true := by decide +kernel
theorem am_tb158_360 : am_cgo 158 360 (((am_code.getD 158 []).drop 360).take 90) = true := by decide +kernel
theorem am_tb158_450 : am_cgo 158 450 (((am_code.getD 158 []).drop 450).take 29) = true := by decide +kernel
theorem am_tc159 : (List.range' 159 1).all (fun m => am_cgo m 0 (am_code.getD m [])) = true := by decide +kernel
theorem am_tc160 : (List.range' 160 2).all (fun m => am_cgo m 0 (am_code.getD m [])) = true := by decide +kernel
theorem am_tc162 : (List.range' 162 1).all (fun m => am_cgo m 0 (am_code.getD m [])) = true := by decide +kernel
theorem am_tc163 : (List.range' 163 1).all (fun m => am_cgo m 0 (am_code.getD m [])) = true := by decide +kernel
theorem am_tc164 : (List.range' 164 1).all (fun m => am_cgo m 0 (am_code.getD m [])) = true := by decide +kernel
theorem am_tc165 : (List.range' 165 1).all (fun m => am_cgo m 0 (am_code.getD m [])) = true := by decide +kernel
theorem am_tb166_0 : am_cgo 166 0 (((am_code.getD 166 []).drop 0).take 90) = true := by decide +kernel
theorem am_tb166_90 : am_cgo 166 90 (((am_code.getD 166 []).drop 90).take 77) = true := by decide +kernel
theorem am_tc167 : (List.range' 167 1).all (fun m => am_cgo m 0 (am_code.getD m [])) = true := by decide +kernel
theorem am_tc168 : (List.range' 168 1).all (fun m => am_cgo m 0 (am_code.getD m [])) = true := by decide +kernel
theorem am_tc169 : (List.range' 169 1).all (fun m => am_cgo m 0 (am_code.getD m [])) = true := by decide +kernel
