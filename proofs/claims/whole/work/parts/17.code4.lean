/-! every instruction is where the tables say -/
theorem am_tc116 : (List.range' 116 1).all (fun m => am_cgo m 0 (am_code.getD m [])) = true := by decide +kernel
theorem am_tc117 : (List.range' 117 3).all (fun m => am_cgo m 0 (am_code.getD m [])) = true := by decide +kernel
theorem am_tc120 : (List.range' 120 1).all (fun m => am_cgo m 0 (am_code.getD m [])) = true := by decide +kernel
theorem am_tc121 : (List.range' 121 2).all (fun m => am_cgo m 0 (am_code.getD m [])) = true := by decide +kernel
theorem am_tc123 : (List.range' 123 2).all (fun m => am_cgo m 0 (am_code.getD m [])) = true := by decide +kernel
theorem am_tb125_0 : am_cgo 125 0 (((am_code.getD 125 []).drop 0).take 90) = true := by decide +kernel
theorem am_tb125_90 : am_cgo 125 90 (((am_code.getD 125 []).drop 90).take 54) = true := by decide +kernel
theorem am_tc126 : (List.range' 126 6).all (fun m => am_cgo m 0 (am_code.getD m [])) = true := by decide +kernel
theorem am_tc132 : (List.range' 132 2).all (fun m => am_cgo m 0 (am_code.getD m [])) = true := by decide +kernel
theorem am_tc134 : (List.range' 134 2).all (fun m => am_cgo m 0 (am_code.getD m [])) = true := by decide +kernel
theorem am_tc136 : (List.range' 136 2).all (fun m => am_cgo m 0 (am_code.getD m [])) = true := by decide +kernel
theorem am_tc138 : (List.range' 138 1).all (fun m => am_cgo m 0 (am_code.getD m [])) = true := by decide +kernel
theorem am_tc139 : (List.range' 139 2).all (fun m => am_cgo m 0 (am_code.getD m [])) = true := by decide +kernel
theorem am_tb141_0 : am_cgo 141 0 (((am_code.getD 141 []).drop 0).take 90) = true := by decide +kernel
theorem am_tb141_90 : am_cgo 141 90 (((am_code.getD 141 []).drop 90).take 90) = true := by decide +kernel
theorem am_tb141_180 : am_cgo 141 180 (((am_code.getD 141 []).drop 180).take 15) = true := by decide +kernel
theorem am_tc142 : (List.range' 142 2).all (fun m => am_cgo m 0 (am_code.getD m [])) = true := by decide +kernel
theorem am_tc144 : (List.range' 144 2).all (fun m => am_cgo m 0 (am_code.getD m [])) = true := by decide +kernel
theorem am_tc146 : (List.range' 146 1).all (fun m => am_cgo m 0 (am_code.getD m [])) = true := by decide +kernel
theorem am_tb147_0 : am_cgo 147 0 (((am_code.getD 147 []).drop 0).take 90) = true := by decide +kernel
theorem am_tb147_90 : am_cgo 147 90 (((am_code.getD 147 []).drop 90).take 90) = true := by decide +kernel
theorem am_tb147_180 : am_cgo 147 180 (((am_code.getD 147 []).drop 180).take 8) = true := by decide +kernel
theorem am_tc148 : (List.range' 148 1).all (fun m => am_cgo m 0 (am_code.getD m [])) = true := by decide +kernel
