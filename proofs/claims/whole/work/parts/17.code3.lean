/-! every instruction is where the tables say -/
theorem am_tc93 : (List.range' 93 1).all (fun m => am_cgo m 0 (am_code.getD m [])) = true := by decide +kernel
theorem am_tc94 : (List.range' 94 1).all (fun m => am_cgo m 0 (am_code.getD m [])) = true := by decide +kernel
theorem am_tc95 : (List.range' 95 1).all (fun m => am_cgo m 0 (am_code.getD m [])) = true := by decide +kernel
theorem am_tc96 : (List.range' 96 2).all (fun m => am_cgo m 0 (am_code.getD m [])) = true := by decide +kernel
theorem am_tc98 : (List.range' 98 1).all (fun m => am_cgo m 0 (am_code.getD m [])) = true := by decide +kernel
theorem am_tc99 : (List.range' 99 1).all (fun m => am_cgo m 0 (am_code.getD m [])) = true := by decide +kernel
theorem am_tc100 : (List.range' 100 1).all (fun m => am_cgo m 0 (am_code.getD m [])) = true := by decide +kernel
theorem am_tc101 : (List.range' 101 2).all (fun m => am_cgo m 0 (am_code.getD m [])) = true := by decide +kernel
theorem am_tc103 : (List.range' 103 1).all (fun m => am_cgo m 0 (am_code.getD m [])) = true := by decide +kernel
theorem am_tc104 : (List.range' 104 1).all (fun m => am_cgo m 0 (am_code.getD m [])) = true := by decide +kernel
theorem am_tb105_0 : am_cgo 105 0 (((am_code.getD 105 []).drop 0).take 90) = true := by decide +kernel
theorem am_tb105_90 : am_cgo 105 90 (((am_code.getD 105 []).drop 90).take 64) = true := by decide +kernel
theorem am_tc106 : (List.range' 106 2).all (fun m => am_cgo m 0 (am_code.getD m [])) = true := by decide +kernel
theorem am_tc108 : (List.range' 108 1).all (fun m => am_cgo m 0 (am_code.getD m [])) = true := by decide +kernel
theorem am_tb109_0 : am_cgo 109 0 (((am_code.getD 109 []).drop 0).take 90) = true := by decide +kernel
theorem am_tb109_90 : am_cgo 109 90 (((am_code.getD 109 []).drop 90).take 60) = true := by decide +kernel
theorem am_tc110 : (List.range' 110 1).all (fun m => am_cgo m 0 (am_code.getD m [])) = true := by decide +kernel
theorem am_tc111 : (List.range' 111 1).all (fun m => am_cgo m 0 (am_code.getD m [])) = true := by decide +kernel
theorem am_tc112 : (List.range' 112 1).all (fun m => am_cgo m 0 (am_code.getD m [])) = true := by decide +kernel
theorem am_tb113_0 : am_cgo 113 0 (((am_code.getD 113 []).drop 0).take 90) = true := by decide +kernel
theorem am_tb113_90 : am_cgo 113 90 (((am_code.getD 113 []).drop 90).take 55) = true := by decide +kernel
theorem am_tc114 : (List.range' 114 1).all (fun m => am_cgo m 0 (am_code.getD m [])) = true := by decide +kernel
theorem am_tc115 : (List.range' 115 1).all (fun m => am_cgo m 0 (am_code.getD m [])) = true := by decide +kernel
