def am_ce1 (mid pc : Nat) (e : Option am_I) : Bool := match e with
  | some q => (match decode (am_b mid) pc with
    | .ok z => decide (z = (q.1, q.2.1))
    | _ => false) && (am_ck mid pc q.1 q.2.1 q.2.2 && am_ckc mid q.1 q.2.2)
  | none => true
def am_cgo (mid : Nat) : Nat → List (Option am_I) → Bool
  | _, [] => true
  | pc, e :: l => am_ce1 mid pc e && am_cgo mid (pc + 1) l
/-! every instruction is where the tables say -/
theorem am_tb0_0 : am_cgo 0 0 (((am_code.getD 0 []).drop 0).take 90) = true := by decide +kernel
theorem am_tb0_90 : am_cgo 0 90 (((am_code.getD 0 []).drop 90).take 90) = true := by decide +kernel
theorem am_tb0_180 : am_cgo 0 180 (((am_code.getD 0 []).drop 180).take 90) = true := by decide +kernel
theorem am_tb0_270 : am_cgo 0 270 (((am_code.getD 0 []).drop 270).take 90) = true := by decide +kernel
theorem am_tb0_360 : am_cgo 0 360 (((am_code.getD 0 []).drop 360).take 90) = true := by decide +kernel
theorem am_tb0_450 : am_cgo 0 450 (((am_code.getD 0 []).drop 450).take 90) = true := by decide +kernel
theorem am_tb0_540 : am_cgo 0 540 (((am_code.getD 0 []).drop 540).take 90) = true := by decide +kernel
theorem am_tb0_630 : am_cgo 0 630 (((am_code.getD 0 []).drop 630).take 90) = true := by decide +kernel
theorem am_tb0_720 : am_cgo 0 720 (((am_code.getD 0 []).drop 720).take 90) = true := by decide +kernel
theorem am_tb0_810 : am_cgo 0 810 (((am_code.getD 0 []).drop 810).take 90) = true := by decide +kernel
theorem am_tb0_900 : am_cgo 0 900 (((am_code.getD 0 []).drop 900).take 90) = true := by decide +kernel
theorem am_tb0_990 : am_cgo 0 990 (((am_code.getD 0 []).drop 990).take 26) = true := by decide +kernel
theorem am_tc1 : (List.range' 1 4).all (fun m => am_cgo m 0 (am_code.getD m [])) = true := by decide +kernel
theorem am_tc5 : (List.range' 5 1).all (fun m => am_cgo m 0 (am_code.getD m [])) = true := by decide +kernel
theorem am_tc6 : (List.range' 6 1).all (fun m => am_cgo m 0 (am_code.getD m [])) = true := by decide +kernel
theorem am_tc7 : (List.range' 7 3).all (fun m => am_cgo m 0 (am_code.getD m [])) = true := by decide +kernel
theorem am_tc10 : (List.range' 10 1).all (fun m => am_cgo m 0 (am_code.getD m [])) = true := by decide +kernel
theorem am_tc11 : (List.range' 11 1).all (fun m => am_cgo m 0 (am_code.getD m [])) = true := by decide +kernel
theorem am_tc12 : (List.range' 12 1).all (fun m => am_cgo m 0 (am_code.getD m [])) = true := by decide +kernel
theorem am_tc13 : (List.range' 13 1).all (fun m => am_cgo m 0 (am_code.getD m [])) = true := by decide +kernel
theorem am_tc14 : (List.range' 14 1).all (fun m => am_cgo m 0 (am_code.getD m [])) = true := by decide +kernel
theorem am_tc15 : (List.range' 15 2).all (fun m => am_cgo m 0 (am_code.getD m [])) = true := by decide +kernel
theorem am_tc17 : (List.range' 17 2).all (fun m => am_cgo m 0 (am_code.getD m [])) = true := by decide +kernel
