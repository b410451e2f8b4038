/-! THE REFERENCE: bits, acts, the image -/
/-- a bit of a number -/
def am_bitk (v : Int) (k : Nat) : Int := (Int32.ofInt (Int32.ofInt v >>> (Int32.ofInt (k : Int) &&& 31)).toInt &&& Int32.ofInt 1).toInt
def am_popk (v : Int) : Nat → Int
  | 0 => 0
  | k + 1 => am_popk v k + am_bitk v k
def am_pop (v : Int) : Int := am_popk v 6
theorem am_bitk_01 : ∀ k : Nat, k < 6 → ∀ a : Nat, a < 64 → 0 ≤ am_bitk (a : Int) k ∧ am_bitk (a : Int) k ≤ 1 := by decide +kernel
theorem r_membersHere_l {X : Nat × (Nat → Int)} {D : List (Nat × Nat)} {I J : Nat → Nat → Int} {ρ : Nat → Nat → Option Nat} (d : Nat) {B : Int} {m : Nat} (hm : (m : Int) ≤ I 108 19) (hok : r_ok (I 108) B) : am_E X (d + 1) 153 4 [(2, .inl (m : Int)), (1, .inl ((am_bits (fun m => decide (I 108 (7 + m) = 0)) m))), (0, .inr (.inr (.inl (some 107))))] [] (am_mm D I J ρ) (fun r => r = (some (.inl ((sp_here (I 108)))), (am_mm D I J ρ))) := by
  have hok2 := hok
  obtain ⟨o0, oG, oH, oD, o19, o20, o21, o22, o23, o24, oK, oV, oP, oM, oS, oY, oHd, oT, oC, oN⟩ := hok
  have hok := hok2
  have o_b := oH m
  refine am_e_ss 5 (q := (12, [(2, .inl (m : Int)), (1, .inl ((am_bits (fun m => decide (I 108 (7 + m) = 0)) m))), (0, .inr (.inr (.inl (some 107))))], [.inl ((I 108 19)), .inl (m : Int)], (am_mm D I J ρ))) rfl ?_
  refine am_e_icmp2 rfl ⟨by omega, by omega⟩ ⟨by omega, by omega⟩ (fun (h1 : (I 108 19) ≤ (m : Int)) => ?_) (fun (h1 : ¬ ((I 108 19) ≤ (m : Int))) => ?_)
  · show am_E _ _ _ 39 [(2, .inl (m : Int)), (1, .inl ((am_bits (fun m => decide (I 108 (7 + m) = 0)) m))), (0, .inr (.inr (.inl (some 107))))] [] (am_mm D I J ρ) _
    refine am_e_ss 1 (q := (40, [(2, .inl (m : Int)), (1, .inl ((am_bits (fun m => decide (I 108 (7 + m) = 0)) m))), (0, .inr (.inr (.inl (some 107))))], [.inl ((am_bits (fun m => decide (I 108 (7 + m) = 0)) m))], (am_mm D I J ρ))) rfl ?_
    refine am_e_ireturn rfl rfl ?_
    rw [show m = (I 108 19).toNat by omega]
    rfl
  · show am_E _ _ _ 15 [(2, .inl (m : Int)), (1, .inl ((am_bits (fun m => decide (I 108 (7 + m) = 0)) m))), (0, .inr (.inr (.inl (some 107))))] [] (am_mm D I J ρ) _
    refine am_e_ss 3 (q := (18, [(2, .inl (m : Int)), (1, .inl ((am_bits (fun m => decide (I 108 (7 + m) = 0)) m))), (0, .inr (.inr (.inl (some 107))))], [.inl (m : Int), .inr (.inr (.inl (some 107))), .inl ((am_bits (fun m => decide (I 108 (7 + m) = 0)) m))], (am_mm D I J ρ))) rfl ?_
    refine am_e_virtual (Q := fun r => r = (some (.inl ((am_bi ((I 108 (7 + m)) = 0)))), (am_mm D I J ρ))) rfl rfl (Nat.le_of_ble_eq_true rfl) rfl rfl (Nat.le_of_ble_eq_true rfl) (Nat.le_of_ble_eq_true rfl) (r_isHere _ (v := (m : Int)) ⟨by omega, by omega⟩ (by exact oH m (by omega))) ?_
    rintro r rfl
    show am_E _ _ _ 21 [(2, .inl (m : Int)), (1, .inl ((am_bits (fun m => decide (I 108 (7 + m) = 0)) m))), (0, .inr (.inr (.inl (some 107))))] [.inl ((am_bi ((I 108 (7 + m)) = 0))), .inl ((am_bits (fun m => decide (I 108 (7 + m) = 0)) m))] (am_mm D I J ρ) _
    refine am_e_ifeq rfl (fun h2 => ?_) (fun h2 => ?_)
    · show am_E _ _ _ 30 [(2, .inl (m : Int)), (1, .inl ((am_bits (fun m => decide (I 108 (7 + m) = 0)) m))), (0, .inr (.inr (.inl (some 107))))] [.inl ((am_bits (fun m => decide (I 108 (7 + m) = 0)) m))] (am_mm D I J ρ) _
      refine am_e_ss 5 (q := (4, [(2, .inl ((m : Int) + 1)), (1, .inl ((Int32.ofInt (am_bits (fun m => decide (I 108 (7 + m) = 0)) m) ||| Int32.ofInt 0).toInt)), (0, .inr (.inr (.inl (some 107))))], [], (am_mm D I J ρ))) rfl ?_
      rw [am_bits_no (p := (fun m => decide (I 108 (7 + m) = 0))) (by omega) (decide_eq_false h2)]
      exact am_less (lv := [(2, .inl ((m + 1) : Int)), (1, .inl ((am_bits (fun m => decide (I 108 (7 + m) = 0)) (m + 1)))), (0, .inr (.inr (.inl (some 107))))]) rfl (List.forall_mem_cons.mpr ⟨rfl, List.forall_mem_cons.mpr ⟨rfl, List.forall_mem_cons.mpr ⟨rfl, List.forall_mem_nil _⟩⟩⟩) (r_membersHere_l d (m := m + 1) (by omega) hok)
    · show am_E _ _ _ 24 [(2, .inl (m : Int)), (1, .inl ((am_bits (fun m => decide (I 108 (7 + m) = 0)) m))), (0, .inr (.inr (.inl (some 107))))] [.inl ((am_bits (fun m => decide (I 108 (7 + m) = 0)) m))] (am_mm D I J ρ) _
      refine am_e_ss 8 (q := (4, [(2, .inl ((m : Int) + 1)), (1, .inl ((Int32.ofInt (am_bits (fun m => decide (I 108 (7 + m) = 0)) m) ||| Int32.ofInt (Int32.ofInt 1 <<< (Int32.ofInt (m : Int) &&& 31)).toInt).toInt)), (0, .inr (.inr (.inl (some 107))))], [], (am_mm D I J ρ))) rfl ?_
      rw [am_bits_or (p := (fun m => decide (I 108 (7 + m) = 0))) (by omega) (decide_eq_true h2)]
      exact am_less (lv := [(2, .inl ((m + 1) : Int)), (1, .inl ((am_bits (fun m => decide (I 108 (7 + m) = 0)) (m + 1)))), (0, .inr (.inr (.inl (some 107))))]) rfl (List.forall_mem_cons.mpr ⟨rfl, List.forall_mem_cons.mpr ⟨rfl, List.forall_mem_cons.mpr ⟨rfl, List.forall_mem_nil _⟩⟩⟩) (r_membersHere_l d (m := m + 1) (by omega) hok)
termination_by 6 - m
decreasing_by all_goals omega
theorem r_membersHere {X : Nat × (Nat → Int)} {D : List (Nat × Nat)} {I J : Nat → Nat → Int} {ρ : Nat → Nat → Option Nat} (d : Nat) {B : Int} (hok : r_ok (I 108) B) : am_E X (d + 1) 153 0 [(0, .inr (.inr (.inl (some 107))))] [] (am_mm D I J ρ) (fun r => r = (some (.inl ((sp_here (I 108)))), (am_mm D I J ρ))) := by
  have hok2 := hok
  obtain ⟨o0, oG, oH, oD, o19, o20, o21, o22, o23, o24, oK, oV, oP, oM, oS, oY, oHd, oT, oC, oN⟩ := hok
  have hok := hok2
  refine am_e_ss 4 (q := (4, [(2, .inl 0), (1, .inl 0), (0, .inr (.inr (.inl (some 107))))], [], (am_mm D I J ρ))) rfl ?_
  exact am_less (lv := [(2, .inl (0 : Int)), (1, .inl ((am_bits (fun m => decide (I 108 (7 + m) = 0)) 0))), (0, .inr (.inr (.inl (some 107))))]) rfl (List.forall_mem_cons.mpr ⟨rfl, List.forall_mem_cons.mpr ⟨rfl, List.forall_mem_cons.mpr ⟨rfl, List.forall_mem_nil _⟩⟩⟩) (r_membersHere_l d (m := 0) (by omega) hok)
theorem r_openBooks_l {X : Nat × (Nat → Int)} {D : List (Nat × Nat)} {I J : Nat → Nat → Int} {ρ : Nat → Nat → Option Nat} (d : Nat) {B : Int} {m : Nat} (hm : (m : Int) ≤ I 108 20) (hok : r_ok (I 108) B) : am_E X (d + 1) 154 4 [(2, .inl (m : Int)), (1, .inl ((am_bits (fun m => decide (I 108 (13 + m) = 0)) m))), (0, .inr (.inr (.inl (some 107))))] [] (am_mm D I J ρ) (fun r => r = (some (.inl ((sp_open (I 108)))), (am_mm D I J ρ))) := by
  have hok2 := hok
  obtain ⟨o0, oG, oH, oD, o19, o20, o21, o22, o23, o24, oK, oV, oP, oM, oS, oY, oHd, oT, oC, oN⟩ := hok
  have hok := hok2
  have o_b := oD m
  refine am_e_ss 5 (q := (12, [(2, .inl (m : Int)), (1, .inl ((am_bits (fun m => decide (I 108 (13 + m) = 0)) m))), (0, .inr (.inr (.inl (some 107))))], [.inl ((I 108 20)), .inl (m : Int)], (am_mm D I J ρ))) rfl ?_
  refine am_e_icmp2 rfl ⟨by omega, by omega⟩ ⟨by omega, by omega⟩ (fun (h1 : (I 108 20) ≤ (m : Int)) => ?_) (fun (h1 : ¬ ((I 108 20) ≤ (m : Int))) => ?_)
  · show am_E _ _ _ 39 [(2, .inl (m : Int)), (1, .inl ((am_bits (fun m => decide (I 108 (13 + m) = 0)) m))), (0, .inr (.inr (.inl (some 107))))] [] (am_mm D I J ρ) _
    refine am_e_ss 1 (q := (40, [(2, .inl (m : Int)), (1, .inl ((am_bits (fun m => decide (I 108 (13 + m) = 0)) m))), (0, .inr (.inr (.inl (some 107))))], [.inl ((am_bits (fun m => decide (I 108 (13 + m) = 0)) m))], (am_mm D I J ρ))) rfl ?_
    refine am_e_ireturn rfl rfl ?_
    rw [show m = (I 108 20).toNat by omega]
    rfl
  · show am_E _ _ _ 15 [(2, .inl (m : Int)), (1, .inl ((am_bits (fun m => decide (I 108 (13 + m) = 0)) m))), (0, .inr (.inr (.inl (some 107))))] [] (am_mm D I J ρ) _
    refine am_e_ss 3 (q := (18, [(2, .inl (m : Int)), (1, .inl ((am_bits (fun m => decide (I 108 (13 + m) = 0)) m))), (0, .inr (.inr (.inl (some 107))))], [.inl (m : Int), .inr (.inr (.inl (some 107))), .inl ((am_bits (fun m => decide (I 108 (13 + m) = 0)) m))], (am_mm D I J ρ))) rfl ?_
    refine am_e_virtual (Q := fun r => r = (some (.inl ((am_bi ((I 108 (13 + m)) = 0)))), (am_mm D I J ρ))) rfl rfl (Nat.le_of_ble_eq_true rfl) rfl rfl (Nat.le_of_ble_eq_true rfl) (Nat.le_of_ble_eq_true rfl) (r_isOpen _ (v := (m : Int)) ⟨by omega, by omega⟩ (by exact oD m (by omega))) ?_
    rintro r rfl
    show am_E _ _ _ 21 [(2, .inl (m : Int)), (1, .inl ((am_bits (fun m => decide (I 108 (13 + m) = 0)) m))), (0, .inr (.inr (.inl (some 107))))] [.inl ((am_bi ((I 108 (13 + m)) = 0))), .inl ((am_bits (fun m => decide (I 108 (13 + m) = 0)) m))] (am_mm D I J ρ) _
    refine am_e_ifeq rfl (fun h2 => ?_) (fun h2 => ?_)
    · show am_E _ _ _ 30 [(2, .inl (m : Int)), (1, .inl ((am_bits (fun m => decide (I 108 (13 + m) = 0)) m))), (0, .inr (.inr (.inl (some 107))))] [.inl ((am_bits (fun m => decide (I 108 (13 + m) = 0)) m))] (am_mm D I J ρ) _
      refine am_e_ss 5 (q := (4, [(2, .inl ((m : Int) + 1)), (1, .inl ((Int32.ofInt (am_bits (fun m => decide (I 108 (13 + m) = 0)) m) ||| Int32.ofInt 0).toInt)), (0, .inr (.inr (.inl (some 107))))], [], (am_mm D I J ρ))) rfl ?_
      rw [am_bits_no (p := (fun m => decide (I 108 (13 + m) = 0))) (by omega) (decide_eq_false h2)]
      exact am_less (lv := [(2, .inl ((m + 1) : Int)), (1, .inl ((am_bits (fun m => decide (I 108 (13 + m) = 0)) (m + 1)))), (0, .inr (.inr (.inl (some 107))))]) rfl (List.forall_mem_cons.mpr ⟨rfl, List.forall_mem_cons.mpr ⟨rfl, List.forall_mem_cons.mpr ⟨rfl, List.forall_mem_nil _⟩⟩⟩) (r_openBooks_l d (m := m + 1) (by omega) hok)
    · show am_E _ _ _ 24 [(2, .inl (m : Int)), (1, .inl ((am_bits (fun m => decide (I 108 (13 + m) = 0)) m))), (0, .inr (.inr (.inl (some 107))))] [.inl ((am_bits (fun m => decide (I 108 (13 + m) = 0)) m))] (am_mm D I J ρ) _
      refine am_e_ss 8 (q := (4, [(2, .inl ((m : Int) + 1)), (1, .inl ((Int32.ofInt (am_bits (fun m => decide (I 108 (13 + m) = 0)) m) ||| Int32.ofInt (Int32.ofInt 1 <<< (Int32.ofInt (m : Int) &&& 31)).toInt).toInt)), (0, .inr (.inr (.inl (some 107))))], [], (am_mm D I J ρ))) rfl ?_
      rw [am_bits_or (p := (fun m => decide (I 108 (13 + m) = 0))) (by omega) (decide_eq_true h2)]
      exact am_less (lv := [(2, .inl ((m + 1) : Int)), (1, .inl ((am_bits (fun m => decide (I 108 (13 + m) = 0)) (m + 1)))), (0, .inr (.inr (.inl (some 107))))]) rfl (List.forall_mem_cons.mpr ⟨rfl, List.forall_mem_cons.mpr ⟨rfl, List.forall_mem_cons.mpr ⟨rfl, List.forall_mem_nil _⟩⟩⟩) (r_openBooks_l d (m := m + 1) (by omega) hok)
termination_by 6 - m
decreasing_by all_goals omega
theorem r_openBooks {X : Nat × (Nat → Int)} {D : List (Nat × Nat)} {I J : Nat → Nat → Int} {ρ : Nat → Nat → Option Nat} (d : Nat) {B : Int} (hok : r_ok (I 108) B) : am_E X (d + 1) 154 0 [(0, .inr (.inr (.inl (some 107))))] [] (am_mm D I J ρ) (fun r => r = (some (.inl ((sp_open (I 108)))), (am_mm D I J ρ))) := by
  have hok2 := hok
  obtain ⟨o0, oG, oH, oD, o19, o20, o21, o22, o23, o24, oK, oV, oP, oM, oS, oY, oHd, oT, oC, oN⟩ := hok
  have hok := hok2
  refine am_e_ss 4 (q := (4, [(2, .inl 0), (1, .inl 0), (0, .inr (.inr (.inl (some 107))))], [], (am_mm D I J ρ))) rfl ?_
  exact am_less (lv := [(2, .inl (0 : Int)), (1, .inl ((am_bits (fun m => decide (I 108 (13 + m) = 0)) 0))), (0, .inr (.inr (.inl (some 107))))]) rfl (List.forall_mem_cons.mpr ⟨rfl, List.forall_mem_cons.mpr ⟨rfl, List.forall_mem_cons.mpr ⟨rfl, List.forall_mem_nil _⟩⟩⟩) (r_openBooks_l d (m := 0) (by omega) hok)
theorem r_count1_l {X : Nat × (Nat → Int)} {D : List (Nat × Nat)} {I J : Nat → Nat → Int} {ρ : Nat → Nat → Option Nat} (d : Nat) {v : Int} {k : Nat} (hk : k ≤ 6) : am_E X d 155 4 [(2, .inl (k : Int)), (1, .inl ((am_popk v k))), (0, .inl v)] [] (am_mm D I J ρ) (fun r => r = (some (.inl ((am_pop v))), (am_mm D I J ρ))) := by
  refine am_e_ss 2 (q := (7, [(2, .inl (k : Int)), (1, .inl ((am_popk v k))), (0, .inl v)], [.inl 6, .inl (k : Int)], (am_mm D I J ρ))) rfl ?_
  refine am_e_icmp2 rfl ⟨by omega, by omega⟩ ⟨by omega, by omega⟩ (fun (h1 : 6 ≤ (k : Int)) => ?_) (fun (h1 : ¬ (6 ≤ (k : Int))) => ?_)
  · show am_E _ _ _ 24 [(2, .inl (k : Int)), (1, .inl ((am_popk v k))), (0, .inl v)] [] (am_mm D I J ρ) _
    refine am_e_ss 1 (q := (25, [(2, .inl (k : Int)), (1, .inl ((am_popk v k))), (0, .inl v)], [.inl ((am_popk v k))], (am_mm D I J ρ))) rfl ?_
    refine am_e_ireturn rfl rfl ?_
    rw [show k = 6 by omega]
    rfl
  · show am_E _ _ _ 10 [(2, .inl (k : Int)), (1, .inl ((am_popk v k))), (0, .inl v)] [] (am_mm D I J ρ) _
    refine am_e_ss 10 (q := (4, [(2, .inl ((k : Int) + 1)), (1, .inl ((am_popk v k) + (Int32.ofInt (Int32.ofInt v >>> (Int32.ofInt (k : Int) &&& 31)).toInt &&& Int32.ofInt 1).toInt)), (0, .inl v)], [], (am_mm D I J ρ))) rfl ?_
    exact am_less (lv := [(2, .inl ((k + 1) : Int)), (1, .inl ((am_popk v (k + 1)))), (0, .inl v)]) rfl (List.forall_mem_cons.mpr ⟨rfl, List.forall_mem_cons.mpr ⟨rfl, List.forall_mem_cons.mpr ⟨rfl, List.forall_mem_nil _⟩⟩⟩) (r_count1_l d (k := k + 1) (by omega))
termination_by 6 - k
decreasing_by all_goals omega
theorem r_count1 {X : Nat × (Nat → Int)} {D : List (Nat × Nat)} {I J : Nat → Nat → Int} {ρ : Nat → Nat → Option Nat} (d : Nat) {v : Int} : am_E X d 155 0 [(0, .inl v)] [] (am_mm D I J ρ) (fun r => r = (some (.inl ((am_pop v))), (am_mm D I J ρ))) := by
  refine am_e_ss 4 (q := (4, [(2, .inl 0), (1, .inl 0), (0, .inl v)], [], (am_mm D I J ρ))) rfl ?_
  exact am_less (lv := [(2, .inl (0 : Int)), (1, .inl ((am_popk v 0))), (0, .inl v)]) rfl (List.forall_mem_cons.mpr ⟨rfl, List.forall_mem_cons.mpr ⟨rfl, List.forall_mem_cons.mpr ⟨rfl, List.forall_mem_nil _⟩⟩⟩) (r_count1_l d (v := v) (k := 0) (by omega))
theorem r_told {X : Nat × (Nat → Int)} {D : List (Nat × Nat)} {I J : Nat → Nat → Int} {ρ : Nat → Nat → Option Nat} (d : Nat) {B v : Int} (hv : -2147483648 ≤ v ∧ v < 2147483648) (hok : r_ok (I 108) B) : am_E X (d + 2) 156 0 [(0, .inr (.inr (.inl (some 107)))), (1, .inl v)] [] (am_mm D I J ρ) (fun r => r = (some (.inl ((sp_told (I 108) v))), (am_mm D I J ρ))) := by
  have hok2 := hok
  obtain ⟨o0, oG, oH, oD, o19, o20, o21, o22, o23, o24, oK, oV, oP, oM, oS, oY, oHd, oT, oC, oN⟩ := hok
  have hok := hok2
  refine am_e_ss 1 (q := (1, [(0, .inr (.inr (.inl (some 107)))), (1, .inl v)], [.inl v], (am_mm D I J ρ))) rfl ?_
  rcases (show v < 0 ∨ v = 0 ∨ v = 1 ∨ v = 2 ∨ v = 3 ∨ 3 < v by omega) with h1 | h1 | h1 | h1 | h1 | h1
  · refine am_e_tabOut (t := 54) rfl ⟨by omega, by omega⟩ (by omega) rfl ?_
    refine am_e_ss 1 (q := (55, [(0, .inr (.inr (.inl (some 107)))), (1, .inl v)], [.inl (-1)], (am_mm D I J ρ))) rfl ?_
    refine am_e_ireturn rfl rfl ?_
    show (_ : am_R) = _
    unfold sp_told
    (repeat' split) <;> first | (exfalso; omega) | rfl
  · refine am_e_tabIn (t := 32) (off := 31) rfl ⟨by omega, by omega⟩ (by omega) (by rw [h1]; rfl) rfl ?_
    refine am_e_ss 4 (q := (38, [(0, .inr (.inr (.inl (some 107)))), (1, .inl v)], [.inl ((I 108 0))], (am_mm D I J ρ))) rfl ?_
    refine am_e_ireturn rfl rfl ?_
    show (_ : am_R) = _
    unfold sp_told
    (repeat' split) <;> first | (exfalso; omega) | rfl
  · refine am_e_tabIn (t := 39) (off := 38) rfl ⟨by omega, by omega⟩ (by omega) (by rw [h1]; rfl) rfl ?_
    refine am_e_ss 1 (q := (40, [(0, .inr (.inr (.inl (some 107)))), (1, .inl v)], [.inr (.inr (.inl (some 107)))], (am_mm D I J ρ))) rfl ?_
    refine am_e_virtual (Q := fun r => r = (some (.inl ((sp_come (I 108)))), (am_mm D I J ρ))) rfl rfl (Nat.le_of_ble_eq_true rfl) rfl rfl (Nat.le_of_ble_eq_true rfl) (Nat.le_of_ble_eq_true rfl) (r_comeNow _ (B := B) hok) ?_
    rintro r rfl
    show am_E _ _ _ 43 [(0, .inr (.inr (.inl (some 107)))), (1, .inl v)] [.inl ((sp_come (I 108)))] (am_mm D I J ρ) _
    refine am_e_ireturn rfl rfl ?_
    show (_ : am_R) = _
    unfold sp_told
    (repeat' split) <;> first | (exfalso; omega) | rfl
  · refine am_e_tabIn (t := 44) (off := 43) rfl ⟨by omega, by omega⟩ (by omega) (by rw [h1]; rfl) rfl ?_
    refine am_e_ss 1 (q := (45, [(0, .inr (.inr (.inl (some 107)))), (1, .inl v)], [.inr (.inr (.inl (some 107)))], (am_mm D I J ρ))) rfl ?_
    refine am_e_virtual (Q := fun r => r = (some (.inl ((sp_here (I 108)))), (am_mm D I J ρ))) rfl rfl (Nat.le_of_ble_eq_true rfl) rfl rfl (Nat.le_of_ble_eq_true rfl) (Nat.le_of_ble_eq_true rfl) (r_membersHere _ (B := B) hok) ?_
    rintro r rfl
    show am_E _ _ _ 48 [(0, .inr (.inr (.inl (some 107)))), (1, .inl v)] [.inl ((sp_here (I 108)))] (am_mm D I J ρ) _
    refine am_e_ireturn rfl rfl ?_
    show (_ : am_R) = _
    unfold sp_told
    (repeat' split) <;> first | (exfalso; omega) | rfl
  · refine am_e_tabIn (t := 49) (off := 48) rfl ⟨by omega, by omega⟩ (by omega) (by rw [h1]; rfl) rfl ?_
    refine am_e_ss 1 (q := (50, [(0, .inr (.inr (.inl (some 107)))), (1, .inl v)], [.inr (.inr (.inl (some 107)))], (am_mm D I J ρ))) rfl ?_
    refine am_e_virtual (Q := fun r => r = (some (.inl ((sp_open (I 108)))), (am_mm D I J ρ))) rfl rfl (Nat.le_of_ble_eq_true rfl) rfl rfl (Nat.le_of_ble_eq_true rfl) (Nat.le_of_ble_eq_true rfl) (r_openBooks _ (B := B) hok) ?_
    rintro r rfl
    show am_E _ _ _ 53 [(0, .inr (.inr (.inl (some 107)))), (1, .inl v)] [.inl ((sp_open (I 108)))] (am_mm D I J ρ) _
    refine am_e_ireturn rfl rfl ?_
    show (_ : am_R) = _
    unfold sp_told
    (repeat' split) <;> first | (exfalso; omega) | rfl
  · refine am_e_tabOut (t := 54) rfl ⟨by omega, by omega⟩ (by omega) rfl ?_
    refine am_e_ss 1 (q := (55, [(0, .inr (.inr (.inl (some 107)))), (1, .inl v)], [.inl (-1)], (am_mm D I J ρ))) rfl ?_
    refine am_e_ireturn rfl rfl ?_
    show (_ : am_R) = _
    unfold sp_told
    (repeat' split) <;> first | (exfalso; omega) | rfl
