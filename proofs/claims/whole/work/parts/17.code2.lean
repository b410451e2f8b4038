/-! every instruction is where the tables say -/
theorem am_tc66 : (List.range' 66 2).all (fun m => am_cgo m 0 (am_code.getD m [])) = true := by decide +kernel
theorem am_tc68 : (List.range' 68 1).all (fun m => am_cgo m 0 (am_code.getD m [])) = true := by decide +kernel
theorem am_tc69 : (List.range' 69 1).all (fun m => am_cgo m 0 (am_code.getD m [])) = true := by decide +kernel
theorem am_tc70 : (List.range' 70 4).all (fun m => am_cgo m 0 (am_code.getD m [])) = true := by decide +kernel
theorem am_tc74 : (List.range' 74 2).all (fun m => am_cgo m 0 (am_code.getD m [])) = true := by decide +kernel
theorem am_tc76 : (List.range' 76 1).all (fun m => am_cgo m 0 (am_code.getD m [])) = true := by decide +kernel
theorem am_tc77 : (List.range' 77 1).all (fun m => am_cgo m 0 (am_code.getD m [])) = true := by decide +kernel
theorem am_tc78 : (List.range' 78 1).all (fun m => am_cgo m 0 (am_code.getD m [])) = true := by decide +kernel
theorem am_tc79 : (List.range' 79 1).all (fun m => am_cgo m 0 (am_code.getD m [])) = true := by decide +kernel
theorem am_tc80 : (List.range' 80 1).all (fun m => am_cgo m 0 (am_code.getD m [])) = true := by decide +kernel
theorem am_tc81 : (List.range' 81 1).all (fun m => am_cgo m 0 (am_code.getD m [])) = true := by decide +kernel
theorem am_tb82_0 : am_cgo 82 0 (((am_code.getD 82 []).drop 0).take 90) = true := by decide +kernel
theorem am_tb82_90 : am_cgo 82 90 (((am_code.getD 82 []).drop 90).take 90) = true := by decide +kernel
theorem am_tb82_180 : am_cgo 82 180 (((am_code.getD 82 []).drop 180).take 37) = true := by decide +kernel
theorem am_tc83 : (List.range' 83 2).all (fun m => am_cgo m 0 (am_code.getD m [])) = true := by decide +kernel
theorem am_tc85 : (List.range' 85 1).all (fun m => am_cgo m 0 (am_code.getD m [])) = true := by decide +kernel
theorem am_tc86 : (List.range' 86 1).all (fun m => am_cgo m 0 (am_code.getD m [])) = true := by decide +kernel
theorem am_tc87 : (List.range' 87 1).all (fun m => am_cgo m 0 (am_code.getD m [])) = true := by decide +kernel
theorem am_tc88 : (List.range' 88 1).all (fun m => am_cgo m 0 (am_code.getD m [])) = true := by decide +kernel
theorem am_tc89 : (List.range' 89 1).all (fun m => am_cgo m 0 (am_code.getD m [])) = true := by decide +kernel
theorem am_tc90 : (List.range' 90 1).all (fun m => am_cgo m 0 (am_code.getD m [])) = true := by decide +kernel
theorem am_tc91 : (List.range' 91 1).all (fun m => am_cgo m 0 (am_code.getD m [])) = true := by decide +kernel
theorem am_tc92 : (List.range' 92 1).all (fun m => am_cgo m 0 (am_code.getD m [])) = true := by decide +kernel
