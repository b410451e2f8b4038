/-! THE REFERENCE: reading the text -/
/-- the text that is read: z signs hs, the place p -/
def r_tx (I : Nat → Nat → Int) (hs : Nat → Int) (z p : Nat) : Prop := I 107 6 = (p : Int) ∧ I 107 7 = (z : Int) ∧ z ≤ 100 ∧ p ≤ z ∧ (∀ i, i < z → I 108 (68 + i) = hs i) ∧ (∀ i, z ≤ i → hs i = -1) ∧ ∀ i, -1 ≤ hs i ∧ hs i ≤ 127
theorem r_hereT {X : Nat × (Nat → Int)} {D : List (Nat × Nat)} {I J : Nat → Nat → Int} {ρ : Nat → Nat → Option Nat} (d : Nat) {hs : Nat → Int} {z p : Nat} (htx : r_tx I hs z p)  : am_E X d 135 0 [(0, .inr (.inr (.inl (some 107))))] [] (am_mm D I J ρ) (fun r => r = (some (.inl ((hs p))), (am_mm D I J ρ))) := by
  have htx0 := htx
  obtain ⟨t6, t7, tz, tp, th, te, tb⟩ := htx
  refine am_e_ss 4 (q := (8, [(0, .inr (.inr (.inl (some 107))))], [.inl ((I 107 7)), .inl ((I 107 6))], (am_mm D I J ρ))) rfl ?_
  refine am_e_icmp2 rfl ⟨by omega, by omega⟩ ⟨by omega, by omega⟩ (fun (hw1 : (I 107 7) ≤ (I 107 6)) => ?_) (fun (hw1 : ¬ ((I 107 7) ≤ (I 107 6))) => ?_)
  · show am_E _ _ _ 26 [(0, .inr (.inr (.inl (some 107))))] [] (am_mm D I J ρ) _
    refine am_e_ss 1 (q := (27, [(0, .inr (.inr (.inl (some 107))))], [.inl (-1)], (am_mm D I J ρ))) rfl ?_
    refine am_e_ireturn rfl rfl ?_
    rw [te p (by omega)]
  · show am_E _ _ _ 11 [(0, .inr (.inr (.inl (some 107))))] [] (am_mm D I J ρ) _
    refine am_e_ss 6 (q := (22, [(0, .inr (.inr (.inl (some 107))))], [.inl (68 + (I 107 6)), .inr (.inr (.inl (some 108)))], (am_mm D I J ρ))) rfl ?_
    refine am_e_iaload (m := 878) rfl rfl (by omega) (by omega) (by omega) ?_
    show am_E _ _ _ 23 [(0, .inr (.inr (.inl (some 107))))] [.inl ((I 108 ((68 + (I 107 6))).toNat))] (am_mm D I J ρ) _
    refine am_e_ss 1 (q := (27, [(0, .inr (.inr (.inl (some 107))))], [.inl ((I 108 ((68 + (I 107 6))).toNat))], (am_mm D I J ρ))) rfl ?_
    refine am_e_ireturn rfl rfl ?_
    rw [show (68 + I 107 6).toNat = 68 + p by omega, th p (by omega)]
theorem r_mustT {X : Nat × (Nat → Int)} {D : List (Nat × Nat)} {I J : Nat → Nat → Int} {ρ : Nat → Nat → Option Nat} (d : Nat) {hs : Nat → Int} {z p : Nat} (htx : r_tx I hs z p) {s : Int} (hs0 : 0 ≤ s ∧ s ≤ 127) (h8 : I 107 8 = 0) : am_E X (d + 1) 136 0 [(0, .inr (.inr (.inl (some 107)))), (1, .inl s)] [] (am_mm D I J ρ) (fun r => r = (none, am_mm D (am_up (am_up I 107 8 (if hs p = s then 0 else 1)) 107 6 (if hs p = s then (p : Int) + 1 else (p : Int))) J ρ)) := by
  have htx0 := htx
  obtain ⟨t6, t7, tz, tp, th, te, tb⟩ := htx
  have tbp := tb p
  refine am_e_ss 3 (q := (5, [(0, .inr (.inr (.inl (some 107)))), (1, .inl s)], [.inl ((I 107 8)), .inr (.inr (.inl (some 107)))], (am_mm D I J ρ))) rfl ?_
  refine am_e_if2 rfl ⟨by omega, by omega⟩ (fun (hw1 : ¬ (I 107 8) = 0) => ?_) (fun (hw1 : ¬ (¬ (I 107 8) = 0)) => ?_)
  · show am_E _ _ _ 16 [(0, .inr (.inr (.inl (some 107)))), (1, .inl s)] [.inr (.inr (.inl (some 107)))] (am_mm D I J ρ) _
    refine am_e_ss 8 (q := (33, [(0, .inr (.inr (.inl (some 107)))), (1, .inl s)], [.inl 1, .inl ((I 107 6)), .inr (.inr (.inl (some 107)))], (am_mm D (am_up I 107 8 1) J ρ))) rfl ?_
    refine am_e_s (q := (36, [(0, .inr (.inr (.inl (some 107)))), (1, .inl s)], [.inl ((I 107 6)), .inr (.inr (.inl (some 107)))], (am_mm D (am_up I 107 8 1) J ρ))) rfl rfl ?_
    refine am_e_ss 4 (q := (45, [(0, .inr (.inr (.inl (some 107)))), (1, .inl s)], [], (am_mm D (am_up (am_up I 107 8 1) 107 6 ((I 107 6) + 0)) J ρ))) rfl ?_
    refine am_e_return rfl rfl ?_
    have e9 : (am_up (am_up I 107 8 1) 107 6 ((I 107 6) + 0)) = am_up (am_up I 107 8 (if hs p = s then 0 else 1)) 107 6 (if hs p = s then (p : Int) + 1 else (p : Int)) := by
      rw [if_neg (by omega), if_neg (by omega), t6]
      rw [Int.add_zero]
    rw [e9]
  · show am_E _ _ _ 8 [(0, .inr (.inr (.inl (some 107)))), (1, .inl s)] [.inr (.inr (.inl (some 107)))] (am_mm D I J ρ) _
    refine am_e_ss 1 (q := (9, [(0, .inr (.inr (.inl (some 107)))), (1, .inl s)], [.inr (.inr (.inl (some 107))), .inr (.inr (.inl (some 107)))], (am_mm D I J ρ))) rfl ?_
    refine am_e_virtual (Q := fun r => r = (some (.inl ((hs p))), (am_mm D I J ρ))) rfl rfl (Nat.le_of_ble_eq_true rfl) rfl rfl (Nat.le_of_ble_eq_true rfl) (Nat.le_of_ble_eq_true rfl) (r_hereT _ htx0) ?_
    rintro r rfl
    show am_E _ _ _ 12 [(0, .inr (.inr (.inl (some 107)))), (1, .inl s)] [.inl ((hs p)), .inr (.inr (.inl (some 107)))] (am_mm D I J ρ) _
    refine am_e_ss 1 (q := (13, [(0, .inr (.inr (.inl (some 107)))), (1, .inl s)], [.inl s, .inl ((hs p)), .inr (.inr (.inl (some 107)))], (am_mm D I J ρ))) rfl ?_
    refine am_e_icmp2 rfl ⟨by omega, by omega⟩ ⟨by omega, by omega⟩ (fun (hw3 : (hs p) = s) => ?_) (fun (hw3 : ¬ ((hs p) = s)) => ?_)
    · show am_E _ _ _ 20 [(0, .inr (.inr (.inl (some 107)))), (1, .inl s)] [.inr (.inr (.inl (some 107)))] (am_mm D I J ρ) _
      refine am_e_ss 7 (q := (33, [(0, .inr (.inr (.inl (some 107)))), (1, .inl s)], [.inl 0, .inl ((I 107 6)), .inr (.inr (.inl (some 107)))], (am_mm D (am_up I 107 8 0) J ρ))) rfl ?_
      refine am_e_s (q := (40, [(0, .inr (.inr (.inl (some 107)))), (1, .inl s)], [.inl ((I 107 6)), .inr (.inr (.inl (some 107)))], (am_mm D (am_up I 107 8 0) J ρ))) rfl rfl ?_
      refine am_e_ss 3 (q := (45, [(0, .inr (.inr (.inl (some 107)))), (1, .inl s)], [], (am_mm D (am_up (am_up I 107 8 0) 107 6 ((I 107 6) + 1)) J ρ))) rfl ?_
      refine am_e_return rfl rfl ?_
      have e9 : (am_up (am_up I 107 8 0) 107 6 ((I 107 6) + 1)) = am_up (am_up I 107 8 (if hs p = s then 0 else 1)) 107 6 (if hs p = s then (p : Int) + 1 else (p : Int)) := by
        rw [if_pos (by omega), if_pos (by omega), t6]
      rw [e9]
    · show am_E _ _ _ 16 [(0, .inr (.inr (.inl (some 107)))), (1, .inl s)] [.inr (.inr (.inl (some 107)))] (am_mm D I J ρ) _
      refine am_e_ss 8 (q := (33, [(0, .inr (.inr (.inl (some 107)))), (1, .inl s)], [.inl 1, .inl ((I 107 6)), .inr (.inr (.inl (some 107)))], (am_mm D (am_up I 107 8 1) J ρ))) rfl ?_
      refine am_e_s (q := (36, [(0, .inr (.inr (.inl (some 107)))), (1, .inl s)], [.inl ((I 107 6)), .inr (.inr (.inl (some 107)))], (am_mm D (am_up I 107 8 1) J ρ))) rfl rfl ?_
      refine am_e_ss 4 (q := (45, [(0, .inr (.inr (.inl (some 107)))), (1, .inl s)], [], (am_mm D (am_up (am_up I 107 8 1) 107 6 ((I 107 6) + 0)) J ρ))) rfl ?_
      refine am_e_return rfl rfl ?_
      have e9 : (am_up (am_up I 107 8 1) 107 6 ((I 107 6) + 0)) = am_up (am_up I 107 8 (if hs p = s then 0 else 1)) 107 6 (if hs p = s then (p : Int) + 1 else (p : Int)) := by
        rw [if_neg (by omega), if_neg (by omega), t6]
        rw [Int.add_zero]
      rw [e9]
theorem r_mustW {X : Nat × (Nat → Int)} {D : List (Nat × Nat)} {I J : Nat → Nat → Int} {ρ : Nat → Nat → Option Nat} (d : Nat) {s : Int} (h8 : I 107 8 = 1) : am_E X (d + 1) 136 0 [(0, .inr (.inr (.inl (some 107)))), (1, .inl s)] [] (am_mm D I J ρ) (fun r => r = (none, am_mm D I J ρ)) := by
  refine am_e_ss 3 (q := (5, [(0, .inr (.inr (.inl (some 107)))), (1, .inl s)], [.inl ((I 107 8)), .inr (.inr (.inl (some 107)))], (am_mm D I J ρ))) rfl ?_
  refine am_e_if2 rfl ⟨by omega, by omega⟩ (fun (hw1 : ¬ (I 107 8) = 0) => ?_) (fun (hw1 : ¬ (¬ (I 107 8) = 0)) => ?_)
  · show am_E _ _ _ 16 [(0, .inr (.inr (.inl (some 107)))), (1, .inl s)] [.inr (.inr (.inl (some 107)))] (am_mm D I J ρ) _
    refine am_e_ss 8 (q := (33, [(0, .inr (.inr (.inl (some 107)))), (1, .inl s)], [.inl 1, .inl ((I 107 6)), .inr (.inr (.inl (some 107)))], (am_mm D (am_up I 107 8 1) J ρ))) rfl ?_
    refine am_e_s (q := (36, [(0, .inr (.inr (.inl (some 107)))), (1, .inl s)], [.inl ((I 107 6)), .inr (.inr (.inl (some 107)))], (am_mm D (am_up I 107 8 1) J ρ))) rfl rfl ?_
    refine am_e_ss 4 (q := (45, [(0, .inr (.inr (.inl (some 107)))), (1, .inl s)], [], (am_mm D (am_up (am_up I 107 8 1) 107 6 ((I 107 6) + 0)) J ρ))) rfl ?_
    refine am_e_return rfl rfl ?_
    have e9 : (am_up (am_up I 107 8 1) 107 6 ((I 107 6) + 0)) = I := by
      have e1 : am_up I 107 8 1 = I := am_up_self h8
      rw [e1, Int.add_zero]
      exact am_up_self rfl
    rw [e9]
  · show am_E _ _ _ 8 [(0, .inr (.inr (.inl (some 107)))), (1, .inl s)] [.inr (.inr (.inl (some 107)))] (am_mm D I J ρ) _
    exfalso
    omega
theorem r_emitsW {X : Nat × (Nat → Int)} {D : List (Nat × Nat)} {I J : Nat → Nat → Int} {ρ : Nat → Nat → Option Nat} (d : Nat) {s : Int} (h8 : I 107 8 = 1) : am_E X d 140 0 [(0, .inr (.inr (.inl (some 107)))), (1, .inl s)] [] (am_mm D I J ρ) (fun r => r = (none, (am_mm D I J ρ))) := by
  refine am_e_ss 2 (q := (4, [(0, .inr (.inr (.inl (some 107)))), (1, .inl s)], [.inl ((I 107 8))], (am_mm D I J ρ))) rfl ?_
  refine am_e_if2 rfl ⟨by omega, by omega⟩ (fun (hw1 : ¬ (I 107 8) = 0) => ?_) (fun (hw1 : ¬ (¬ (I 107 8) = 0)) => ?_)
  · show am_E _ _ _ 56 [(0, .inr (.inr (.inl (some 107)))), (1, .inl s)] [] (am_mm D I J ρ) _
    refine am_e_return rfl rfl ?_
    rfl
  · show am_E _ _ _ 7 [(0, .inr (.inr (.inl (some 107)))), (1, .inl s)] [] (am_mm D I J ρ) _
    exfalso
    omega
theorem r_emitsT {X : Nat × (Nat → Int)} {D : List (Nat × Nat)} {I J : Nat → Nat → Int} {ρ : Nat → Nat → Option Nat} (d : Nat) {s : Int} {a n : Nat} (h8 : I 107 8 = 0) (h5 : I 107 5 = (a : Int)) (ha : a < 5) (hn : I 108 (173 + a) = (n : Int)) (hn2 : n < 140) : am_E X d 140 0 [(0, .inr (.inr (.inl (some 107)))), (1, .inl s)] [] (am_mm D I J ρ) (fun r => r = (none, am_mm D (am_up (am_up I 108 (178 + 140 * a + n) s) 108 (173 + a) ((n : Int) + 1)) J ρ)) := by
  refine am_e_ss 2 (q := (4, [(0, .inr (.inr (.inl (some 107)))), (1, .inl s)], [.inl ((I 107 8))], (am_mm D I J ρ))) rfl ?_
  refine am_e_if2 rfl ⟨by omega, by omega⟩ (fun (hw1 : ¬ (I 107 8) = 0) => ?_) (fun (hw1 : ¬ (¬ (I 107 8) = 0)) => ?_)
  · show am_E _ _ _ 56 [(0, .inr (.inr (.inl (some 107)))), (1, .inl s)] [] (am_mm D I J ρ) _
    refine am_e_return rfl rfl ?_
    exfalso
    omega
  · show am_E _ _ _ 7 [(0, .inr (.inr (.inl (some 107)))), (1, .inl s)] [] (am_mm D I J ρ) _
    have e173 : (173 + I 107 5).toNat = 173 + a := by omega
    have hn0 : I 108 (173 + I 107 5).toNat = (n : Int) := by rw [e173]; exact hn
    refine am_e_ss 14 (q := (35, [(0, .inr (.inr (.inl (some 107)))), (1, .inl s)], [.inl (173 + (I 107 5)), .inr (.inr (.inl (some 108))), .inl (178 + (140 * (I 107 5))), .inr (.inr (.inl (some 108)))], (am_mm D I J ρ))) rfl ?_
    refine am_e_iaload (m := 878) rfl rfl (by omega) (by omega) (by omega) ?_
    show am_E _ _ _ 36 [(0, .inr (.inr (.inl (some 107)))), (1, .inl s)] [.inl ((I 108 ((173 + (I 107 5))).toNat)), .inl (178 + (140 * (I 107 5))), .inr (.inr (.inl (some 108)))] (am_mm D I J ρ) _
    refine am_e_ss 2 (q := (38, [(0, .inr (.inr (.inl (some 107)))), (1, .inl s)], [.inl s, .inl ((178 + (140 * (I 107 5))) + (I 108 ((173 + (I 107 5))).toNat)), .inr (.inr (.inl (some 108)))], (am_mm D I J ρ))) rfl ?_
    refine am_e_iastore (m := 878) rfl rfl (by omega) (by omega) (by omega) ?_
    show am_E _ _ _ 39 [(0, .inr (.inr (.inl (some 107)))), (1, .inl s)] [] (am_mm D (am_up I 108 (((178 + (140 * (I 107 5))) + (I 108 ((173 + (I 107 5))).toNat))).toNat s) J ρ) _
    refine am_e_ss 7 (q := (52, [(0, .inr (.inr (.inl (some 107)))), (1, .inl s)], [.inl (173 + (I 107 5)), .inr (.inr (.inl (some 108))), .inl (173 + (I 107 5)), .inr (.inr (.inl (some 108)))], (am_mm D (am_up I 108 (((178 + (140 * (I 107 5))) + (I 108 ((173 + (I 107 5))).toNat))).toNat s) J ρ))) rfl ?_
    refine am_e_iaload (m := 878) rfl rfl (by omega) (by omega) (by omega) ?_
    show am_E _ _ _ 53 [(0, .inr (.inr (.inl (some 107)))), (1, .inl s)] [.inl (((am_up I 108 (((178 + (140 * (I 107 5))) + (I 108 ((173 + (I 107 5))).toNat))).toNat s) 108 ((173 + (I 107 5))).toNat)), .inl (173 + (I 107 5)), .inr (.inr (.inl (some 108)))] (am_mm D (am_up I 108 (((178 + (140 * (I 107 5))) + (I 108 ((173 + (I 107 5))).toNat))).toNat s) J ρ) _
    refine am_e_ss 2 (q := (55, [(0, .inr (.inr (.inl (some 107)))), (1, .inl s)], [.inl (((am_up I 108 (((178 + (140 * (I 107 5))) + (I 108 ((173 + (I 107 5))).toNat))).toNat s) 108 ((173 + (I 107 5))).toNat) + 1), .inl (173 + (I 107 5)), .inr (.inr (.inl (some 108)))], (am_mm D (am_up I 108 (((178 + (140 * (I 107 5))) + (I 108 ((173 + (I 107 5))).toNat))).toNat s) J ρ))) rfl ?_
    refine am_e_iastore (m := 878) rfl rfl (by omega) (by omega) (by omega) ?_
    show am_E _ _ _ 56 [(0, .inr (.inr (.inl (some 107)))), (1, .inl s)] [] (am_mm D (am_up (am_up I 108 (((178 + (140 * (I 107 5))) + (I 108 ((173 + (I 107 5))).toNat))).toNat s) 108 ((173 + (I 107 5))).toNat (((am_up I 108 (((178 + (140 * (I 107 5))) + (I 108 ((173 + (I 107 5))).toNat))).toNat s) 108 ((173 + (I 107 5))).toNat) + 1)) J ρ) _
    refine am_e_return rfl rfl ?_
    rw [show (178 + 140 * I 107 5 + I 108 (173 + I 107 5).toNat).toNat = 178 + 140 * a + n by omega, e173]
    have er : am_up I 108 (178 + 140 * a + n) s 108 (173 + a) = (n : Int) := (am_up_ne2 (Or.inr (by omega))).trans hn
    rw [er]
