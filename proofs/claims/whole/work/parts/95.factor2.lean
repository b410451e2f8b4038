/-! THE REFERENCE: F of a text -/
theorem pt_wh_b (s : Int) : -1 ≤ pt_wh s ∧ pt_wh s ≤ 5 := by
  unfold pt_wh
  (repeat' split) <;> omega
theorem pt_hw_b (s : Int) : -1 ≤ pt_hw s ∧ pt_hw s ≤ 2 := by
  unfold pt_hw
  (repeat' split) <;> omega
theorem r_ftest {X : Nat × (Nat → Int)} {D : List (Nat × Nat)} {I J : Nat → Nat → Int} {ρ : Nat → Nat → Option Nat} (d : Nat) {I0 : Nat → Nat → Int} {hs : Nat → Int} {z a p : Nat} {w e : Int} {L : List Int} (hcs : r_cs I0 I hs z a w e (p, some L))  : am_E X (d + 5) 141 112 [(0, .inr (.inr (.inl (some 107))))] [] (am_mm D I J ρ) (fun r => ∃ K, r = (none, am_mm D K J ρ) ∧ r_cs I0 K hs z a w e ((pt_pre L (pt_tst hs p)))) := by
  have h8 : I 107 8 = 0 := hcs.2.2.2.2.2.1
  have t6 : I 107 6 = (p : Int) := hcs.2.1.1
  have tb := hcs.2.1.2.2.2.2.2.2
  have tbp := tb p
  have tz := hcs.2.1.2.2.1
  have tpz : p ≤ z := hcs.2.1.2.2.2.1
  have ed : I 107 9 = e := hcs.2.2.2.2.1
  have hll : L.length ≤ p := hcs.2.2.2.2.2.2.2
  have te := hcs.2.1.2.2.2.2.2.1
  have tb1 := tb (p + 1)
  refine am_e_ss 2 (q := (115, [(0, .inr (.inr (.inl (some 107))))], [.inr (.inr (.inr 9)), .inr (.inr (.inl (some 107)))], (am_mm D I J ρ))) rfl ?_
  refine am_e_virtual (Q := fun r => ∃ K39, r = (some (.inl ((pt_wh (hs p)))), (am_mm D K39 J ρ)) ∧ r_cs I0 K39 hs z a w e ((if (pt_wh (hs p)) = -1 then p else p + 1, some L))) rfl rfl (Nat.le_of_ble_eq_true rfl) rfl rfl (Nat.le_of_ble_eq_true rfl) (Nat.le_of_ble_eq_true rfl) (r_wh _ hcs) ?_
  rintro r ⟨K39, rfl, g39⟩
  have gb39 := pt_wh_b (hs p)
  show am_E _ _ _ 118 [(0, .inr (.inr (.inl (some 107))))] [.inl ((pt_wh (hs p)))] (am_mm D K39 J ρ) _
  refine am_e_ss 4 (q := (122, [(2, .inl ((pt_wh (hs p)))), (0, .inr (.inr (.inl (some 107))))], [.inl (-1), .inl ((pt_wh (hs p))), .inr (.inr (.inl (some 107)))], (am_mm D K39 J ρ))) rfl ?_
  refine am_e_icmp2 rfl ⟨by omega, by omega⟩ ⟨by omega, by omega⟩ (fun (hw1 : ¬ (pt_wh (hs p)) = (-1)) => ?_) (fun (hw1 : ¬ (¬ (pt_wh (hs p)) = (-1))) => ?_)
  · show am_E _ _ _ 129 [(2, .inl ((pt_wh (hs p)))), (0, .inr (.inr (.inl (some 107))))] [.inr (.inr (.inl (some 107)))] (am_mm D K39 J ρ) _
    refine am_e_ss 4 (q := (137, [(2, .inl ((pt_wh (hs p)))), (0, .inr (.inr (.inl (some 107))))], [.inl 0], (am_mm D (am_up K39 107 8 0) J ρ))) rfl ?_
    refine am_e_s (q := (144, [(2, .inl ((pt_wh (hs p)))), (0, .inr (.inr (.inl (some 107))))], [], (am_mm D (am_up K39 107 8 0) J ρ))) rfl rfl ?_
    rw [if_neg (by omega)] at g39
    rw [show am_up K39 107 8 0 = K39 from am_up_self g39.2.2.2.2.2.1]
    show am_E _ _ _ 144 [(2, .inl ((pt_wh (hs p)))), (0, .inr (.inr (.inl (some 107))))] [] (am_mm D K39 J ρ) _
    refine am_e_ss 2 (q := (147, [(2, .inl ((pt_wh (hs p)))), (0, .inr (.inr (.inl (some 107))))], [.inr (.inr (.inr 11)), .inr (.inr (.inl (some 107)))], (am_mm D K39 J ρ))) rfl ?_
    refine am_e_virtual (Q := fun r => ∃ K40, r = (some (.inl ((pt_hw (hs (p + 1))))), (am_mm D K40 J ρ)) ∧ r_cs I0 K40 hs z a w e ((if (pt_hw (hs (p + 1))) = -1 then p + 1 else p + 1 + 1, some L))) rfl rfl (Nat.le_of_ble_eq_true rfl) rfl rfl (Nat.le_of_ble_eq_true rfl) (Nat.le_of_ble_eq_true rfl) (r_hw _ g39) ?_
    rintro r ⟨K40, rfl, g40⟩
    have gb40 := pt_hw_b (hs (p + 1))
    show am_E _ _ _ 150 [(2, .inl ((pt_wh (hs p)))), (0, .inr (.inr (.inl (some 107))))] [.inl ((pt_hw (hs (p + 1))))] (am_mm D K40 J ρ) _
    refine am_e_ss 1 (q := (151, [(3, .inl ((pt_hw (hs (p + 1))))), (2, .inl ((pt_wh (hs p)))), (0, .inr (.inr (.inl (some 107))))], [], (am_mm D K40 J ρ))) rfl ?_
    have k8 := g40.2.2.2.2.2.1
    have k8 : K40 107 8 = 0 := k8
    refine am_e_ss 3 (q := (156, [(3, .inl ((pt_hw (hs (p + 1))))), (2, .inl ((pt_wh (hs p)))), (0, .inr (.inr (.inl (some 107))))], [.inl ((K40 107 8)), .inr (.inr (.inl (some 107)))], (am_mm D K40 J ρ))) rfl ?_
    refine am_e_if2 rfl ⟨by omega, by omega⟩ (fun (hw3 : ¬ (K40 107 8) = 0) => ?_) (fun (hw3 : ¬ (¬ (K40 107 8) = 0)) => ?_)
    · show am_E _ _ _ 164 [(3, .inl ((pt_hw (hs (p + 1))))), (2, .inl ((pt_wh (hs p)))), (0, .inr (.inr (.inl (some 107))))] [.inr (.inr (.inl (some 107)))] (am_mm D K40 J ρ) _
      exfalso
      omega
    · show am_E _ _ _ 159 [(3, .inl ((pt_hw (hs (p + 1))))), (2, .inl ((pt_wh (hs p)))), (0, .inr (.inr (.inl (some 107))))] [.inr (.inr (.inl (some 107)))] (am_mm D K40 J ρ) _
      refine am_e_ss 2 (q := (161, [(3, .inl ((pt_hw (hs (p + 1))))), (2, .inl ((pt_wh (hs p)))), (0, .inr (.inr (.inl (some 107))))], [.inl (-1), .inl ((pt_hw (hs (p + 1)))), .inr (.inr (.inl (some 107)))], (am_mm D K40 J ρ))) rfl ?_
      refine am_e_icmp2 rfl ⟨by omega, by omega⟩ ⟨by omega, by omega⟩ (fun (hw4 : ¬ (pt_hw (hs (p + 1))) = (-1)) => ?_) (fun (hw4 : ¬ (¬ (pt_hw (hs (p + 1))) = (-1))) => ?_)
      · show am_E _ _ _ 168 [(3, .inl ((pt_hw (hs (p + 1))))), (2, .inl ((pt_wh (hs p)))), (0, .inr (.inr (.inl (some 107))))] [.inr (.inr (.inl (some 107)))] (am_mm D K40 J ρ) _
        refine am_e_ss 2 (q := (172, [(3, .inl ((pt_hw (hs (p + 1))))), (2, .inl ((pt_wh (hs p)))), (0, .inr (.inr (.inl (some 107))))], [], (am_mm D (am_up K40 107 8 0) J ρ))) rfl ?_
        rw [if_neg (by omega)] at g40
        rw [show am_up K40 107 8 0 = K40 from am_up_self g40.2.2.2.2.2.1]
        show am_E _ _ _ 172 [(3, .inl ((pt_hw (hs (p + 1))))), (2, .inl ((pt_wh (hs p)))), (0, .inr (.inr (.inl (some 107))))] [] (am_mm D K40 J ρ) _
        refine am_e_ss 1 (q := (173, [(3, .inl ((pt_hw (hs (p + 1))))), (2, .inl ((pt_wh (hs p)))), (0, .inr (.inr (.inl (some 107))))], [.inr (.inr (.inl (some 107)))], (am_mm D K40 J ρ))) rfl ?_
        refine am_e_virtual (Q := fun r => ∃ v42 K42, r = (some (.inl v42), (am_mm D K42 J ρ)) ∧ r_cs I0 K42 hs z a w e ((pt_bd ((p + 1 + 1, some L)) (fun p L => pt_ns hs p L))) ∧ (0 ≤ v42 ∧ v42 ≤ 99) ∧ ∀ p3 L3 q3 v3, (p + 1 + 1, some L) = (p3, some L3) → pt_num hs p3 = (q3, some v3) → v42 = v3) rfl rfl (Nat.le_of_ble_eq_true rfl) rfl rfl (Nat.le_of_ble_eq_true rfl) (Nat.le_of_ble_eq_true rfl) (r_figC _ g40) ?_
        rintro r ⟨v42, K42, rfl, g42, hv42, hw42⟩
        show am_E _ _ _ 176 [(3, .inl ((pt_hw (hs (p + 1))))), (2, .inl ((pt_wh (hs p)))), (0, .inr (.inr (.inl (some 107))))] [.inl v42] (am_mm D K42 J ρ) _
        refine am_e_ss 11 (q := (191, [(4, .inl v42), (3, .inl ((pt_hw (hs (p + 1))))), (2, .inl ((pt_wh (hs p)))), (0, .inr (.inr (.inl (some 107))))], [.inl (((pt_wh (hs p)) + (8 * (pt_hw (hs (p + 1))))) + (32 * v42)), .inr (.inr (.inl (some 107)))], (am_mm D K42 J ρ))) rfl ?_
        refine am_e_virtual (Q := fun r => ∃ K43, r = (none, (am_mm D K43 J ρ)) ∧ r_cs I0 K43 hs z a w e ((pt_bd ((pt_bd ((p + 1 + 1, some L)) (fun p L => pt_ns hs p L))) (fun p9 L9 => (p9, some (L9 ++ [(((pt_wh (hs p)) + (8 * (pt_hw (hs (p + 1))))) + (32 * v42))])))))) rfl rfl (Nat.le_of_ble_eq_true rfl) rfl rfl (Nat.le_of_ble_eq_true rfl) (Nat.le_of_ble_eq_true rfl) (r_emitsC _ g42 (s := (((pt_wh (hs p)) + (8 * (pt_hw (hs (p + 1))))) + (32 * v42))) (pt_ns_lt te (by omega))) ?_
        rintro r ⟨K43, rfl, g43⟩
        show am_E _ _ _ 194 [(4, .inl v42), (3, .inl ((pt_hw (hs (p + 1))))), (2, .inl ((pt_wh (hs p)))), (0, .inr (.inr (.inl (some 107))))] [] (am_mm D K43 J ρ) _
        refine am_e_return rfl rfl ?_
        refine ⟨_, rfl, ?_⟩
        have g0 : r_cs I0 K43 hs z a w e ((pt_bd ((pt_ns hs (p + 1 + 1) L)) (fun p9 L9 => (p9, some (L9 ++ [(((pt_wh (hs p)) + (8 * (pt_hw (hs (p + 1))))) + (32 * v42))]))))) := g43
        unfold pt_tst
        rw [if_neg (by omega), if_neg (by omega)]
        unfold pt_ns at g0
        rcases hN : pt_num hs (p + 1 + 1) with ⟨q, _ | v9⟩
        · rw [hN] at g0
          exact g0
        · rw [hN] at g0
          have ev := hw42 _ _ _ _ rfl hN
          rw [ev] at g0
          exact g0
      · show am_E _ _ _ 164 [(3, .inl ((pt_hw (hs (p + 1))))), (2, .inl ((pt_wh (hs p)))), (0, .inr (.inr (.inl (some 107))))] [.inr (.inr (.inl (some 107)))] (am_mm D K40 J ρ) _
        refine am_e_ss 3 (q := (172, [(3, .inl ((pt_hw (hs (p + 1))))), (2, .inl ((pt_wh (hs p)))), (0, .inr (.inr (.inl (some 107))))], [], (am_mm D (am_up K40 107 8 1) J ρ))) rfl ?_
        rw [if_pos (by omega)] at g40
        have g44 := r_cs_b g40
        generalize am_up K40 107 8 1 = K44 at g44 ⊢
        show am_E _ _ _ 172 [(3, .inl ((pt_hw (hs (p + 1))))), (2, .inl ((pt_wh (hs p)))), (0, .inr (.inr (.inl (some 107))))] [] (am_mm D K44 J ρ) _
        refine am_e_ss 1 (q := (173, [(3, .inl ((pt_hw (hs (p + 1))))), (2, .inl ((pt_wh (hs p)))), (0, .inr (.inr (.inl (some 107))))], [.inr (.inr (.inl (some 107)))], (am_mm D K44 J ρ))) rfl ?_
        refine am_e_virtual (Q := fun r => ∃ v45 K45, r = (some (.inl v45), (am_mm D K45 J ρ)) ∧ r_cs I0 K45 hs z a w e ((pt_bd ((p + 1, none)) (fun p L => pt_ns hs p L))) ∧ (0 ≤ v45 ∧ v45 ≤ 99) ∧ ∀ p3 L3 q3 v3, (p + 1, none) = (p3, some L3) → pt_num hs p3 = (q3, some v3) → v45 = v3) rfl rfl (Nat.le_of_ble_eq_true rfl) rfl rfl (Nat.le_of_ble_eq_true rfl) (Nat.le_of_ble_eq_true rfl) (r_figC _ g44) ?_
        rintro r ⟨v45, K45, rfl, g45, hv45, hw45⟩
        show am_E _ _ _ 176 [(3, .inl ((pt_hw (hs (p + 1))))), (2, .inl ((pt_wh (hs p)))), (0, .inr (.inr (.inl (some 107))))] [.inl v45] (am_mm D K45 J ρ) _
        refine am_e_ss 11 (q := (191, [(4, .inl v45), (3, .inl ((pt_hw (hs (p + 1))))), (2, .inl ((pt_wh (hs p)))), (0, .inr (.inr (.inl (some 107))))], [.inl (((pt_wh (hs p)) + (8 * (pt_hw (hs (p + 1))))) + (32 * v45)), .inr (.inr (.inl (some 107)))], (am_mm D K45 J ρ))) rfl ?_
        refine am_e_virtual (Q := fun r => ∃ K46, r = (none, (am_mm D K46 J ρ)) ∧ r_cs I0 K46 hs z a w e ((pt_bd ((pt_bd ((p + 1, none)) (fun p L => pt_ns hs p L))) (fun p9 L9 => (p9, some (L9 ++ [(((pt_wh (hs p)) + (8 * (pt_hw (hs (p + 1))))) + (32 * v45))])))))) rfl rfl (Nat.le_of_ble_eq_true rfl) rfl rfl (Nat.le_of_ble_eq_true rfl) (Nat.le_of_ble_eq_true rfl) (r_emitsC _ g45 (s := (((pt_wh (hs p)) + (8 * (pt_hw (hs (p + 1))))) + (32 * v45))) (fun L h => by cases h)) ?_
        rintro r ⟨K46, rfl, g46⟩
        show am_E _ _ _ 194 [(4, .inl v45), (3, .inl ((pt_hw (hs (p + 1))))), (2, .inl ((pt_wh (hs p)))), (0, .inr (.inr (.inl (some 107))))] [] (am_mm D K46 J ρ) _
        refine am_e_return rfl rfl ?_
        have et : pt_tst hs p = (p + 1, none) := by
          unfold pt_tst
          rw [if_neg (by omega)]; exact if_pos (by omega)
        rw [et]
        exact ⟨_, rfl, g46⟩
  · show am_E _ _ _ 125 [(2, .inl ((pt_wh (hs p)))), (0, .inr (.inr (.inl (some 107))))] [.inr (.inr (.inl (some 107)))] (am_mm D K39 J ρ) _
    refine am_e_ss 5 (q := (137, [(2, .inl ((pt_wh (hs p)))), (0, .inr (.inr (.inl (some 107))))], [.inl 1], (am_mm D (am_up K39 107 8 1) J ρ))) rfl ?_
    refine am_e_s (q := (140, [(2, .inl ((pt_wh (hs p)))), (0, .inr (.inr (.inl (some 107))))], [], (am_mm D (am_up K39 107 8 1) J ρ))) rfl rfl ?_
    refine am_e_ss 3 (q := (151, [(3, .inl 0), (2, .inl ((pt_wh (hs p)))), (0, .inr (.inr (.inl (some 107))))], [], (am_mm D (am_up K39 107 8 1) J ρ))) rfl ?_
    refine am_e_ss 3 (q := (156, [(3, .inl 0), (2, .inl ((pt_wh (hs p)))), (0, .inr (.inr (.inl (some 107))))], [.inl 1, .inr (.inr (.inl (some 107)))], (am_mm D (am_up K39 107 8 1) J ρ))) rfl ?_
    refine am_e_s (q := (164, [(3, .inl 0), (2, .inl ((pt_wh (hs p)))), (0, .inr (.inr (.inl (some 107))))], [.inr (.inr (.inl (some 107)))], (am_mm D (am_up K39 107 8 1) J ρ))) rfl rfl ?_
    refine am_e_ss 3 (q := (172, [(3, .inl 0), (2, .inl ((pt_wh (hs p)))), (0, .inr (.inr (.inl (some 107))))], [], (am_mm D (am_up (am_up K39 107 8 1) 107 8 1) J ρ))) rfl ?_
    rw [if_pos (by omega)] at g39
    have g47 := r_cs_b g39
    rw [am_up_self (show am_up K39 107 8 1 107 8 = 1 from am_up_at2)]
    generalize am_up K39 107 8 1 = K47 at g47 ⊢
    show am_E _ _ _ 172 [(3, .inl 0), (2, .inl ((pt_wh (hs p)))), (0, .inr (.inr (.inl (some 107))))] [] (am_mm D K47 J ρ) _
    refine am_e_ss 1 (q := (173, [(3, .inl 0), (2, .inl ((pt_wh (hs p)))), (0, .inr (.inr (.inl (some 107))))], [.inr (.inr (.inl (some 107)))], (am_mm D K47 J ρ))) rfl ?_
    refine am_e_virtual (Q := fun r => ∃ v48 K48, r = (some (.inl v48), (am_mm D K48 J ρ)) ∧ r_cs I0 K48 hs z a w e ((pt_bd ((p, none)) (fun p L => pt_ns hs p L))) ∧ (0 ≤ v48 ∧ v48 ≤ 99) ∧ ∀ p3 L3 q3 v3, (p, none) = (p3, some L3) → pt_num hs p3 = (q3, some v3) → v48 = v3) rfl rfl (Nat.le_of_ble_eq_true rfl) rfl rfl (Nat.le_of_ble_eq_true rfl) (Nat.le_of_ble_eq_true rfl) (r_figC _ g47) ?_
    rintro r ⟨v48, K48, rfl, g48, hv48, hw48⟩
    show am_E _ _ _ 176 [(3, .inl 0), (2, .inl ((pt_wh (hs p)))), (0, .inr (.inr (.inl (some 107))))] [.inl v48] (am_mm D K48 J ρ) _
    refine am_e_ss 11 (q := (191, [(4, .inl v48), (3, .inl 0), (2, .inl ((pt_wh (hs p)))), (0, .inr (.inr (.inl (some 107))))], [.inl (((pt_wh (hs p)) + (8 * 0)) + (32 * v48)), .inr (.inr (.inl (some 107)))], (am_mm D K48 J ρ))) rfl ?_
    refine am_e_virtual (Q := fun r => ∃ K49, r = (none, (am_mm D K49 J ρ)) ∧ r_cs I0 K49 hs z a w e ((pt_bd ((pt_bd ((p, none)) (fun p L => pt_ns hs p L))) (fun p9 L9 => (p9, some (L9 ++ [(((pt_wh (hs p)) + (8 * 0)) + (32 * v48))])))))) rfl rfl (Nat.le_of_ble_eq_true rfl) rfl rfl (Nat.le_of_ble_eq_true rfl) (Nat.le_of_ble_eq_true rfl) (r_emitsC _ g48 (s := (((pt_wh (hs p)) + (8 * 0)) + (32 * v48))) (fun L h => by cases h)) ?_
    rintro r ⟨K49, rfl, g49⟩
    show am_E _ _ _ 194 [(4, .inl v48), (3, .inl 0), (2, .inl ((pt_wh (hs p)))), (0, .inr (.inr (.inl (some 107))))] [] (am_mm D K49 J ρ) _
    refine am_e_return rfl rfl ?_
    have et : pt_tst hs p = (p, none) := by
      unfold pt_tst
      exact if_pos (by omega)
    rw [et]
    exact ⟨_, rfl, g49⟩
theorem r_factor0T {X : Nat × (Nat → Int)} {D : List (Nat × Nat)} {I J : Nat → Nat → Int} {ρ : Nat → Nat → Option Nat} (d : Nat) {I0 : Nat → Nat → Int} {hs : Nat → Int} {z a p : Nat} {w : Int} {L : List Int} (hcs : r_cs I0 I hs z a w 5 (p, some L))  : am_E X (d + 5) 141 0 [(0, .inr (.inr (.inl (some 107))))] [] (am_mm D I J ρ) (fun r => ∃ K, r = (none, am_mm D K J ρ) ∧ r_cs I0 K hs z a w 5 ((pt_pre L (pt_F hs 0 p)))) := by
  have h8 : I 107 8 = 0 := hcs.2.2.2.2.2.1
  have t6 : I 107 6 = (p : Int) := hcs.2.1.1
  have tb := hcs.2.1.2.2.2.2.2.2
  have tbp := tb p
  have tz := hcs.2.1.2.2.1
  have tpz : p ≤ z := hcs.2.1.2.2.2.1
  have ed : I 107 9 = 5 := hcs.2.2.2.2.1
  refine am_e_ss 2 (q := (4, [(0, .inr (.inr (.inl (some 107))))], [.inl ((I 107 8))], (am_mm D I J ρ))) rfl ?_
  refine am_e_if2 rfl ⟨by omega, by omega⟩ (fun (hw1 : (I 107 8) = 0) => ?_) (fun (hw1 : ¬ ((I 107 8) = 0)) => ?_)
  · show am_E _ _ _ 8 [(0, .inr (.inr (.inl (some 107))))] [] (am_mm D I J ρ) _
    refine am_e_ss 1 (q := (9, [(0, .inr (.inr (.inl (some 107))))], [.inr (.inr (.inl (some 107)))], (am_mm D I J ρ))) rfl ?_
    refine am_e_virtual (Q := fun r => r = (some (.inl ((hs p))), (am_mm D I J ρ))) rfl rfl (Nat.le_of_ble_eq_true rfl) rfl rfl (Nat.le_of_ble_eq_true rfl) (Nat.le_of_ble_eq_true rfl) (r_hereC _ hcs) ?_
    rintro r rfl
    show am_E _ _ _ 12 [(0, .inr (.inr (.inl (some 107))))] [.inl ((hs p))] (am_mm D I J ρ) _
    refine am_e_ss 3 (q := (16, [(1, .inl ((hs p))), (0, .inr (.inr (.inl (some 107))))], [.inl 33, .inl ((hs p))], (am_mm D I J ρ))) rfl ?_
    refine am_e_icmp2 rfl ⟨by omega, by omega⟩ ⟨by omega, by omega⟩ (fun (hw2 : (hs p) = 33) => ?_) (fun (hw2 : ¬ ((hs p) = 33)) => ?_)
    · show am_E _ _ _ 25 [(1, .inl ((hs p))), (0, .inr (.inr (.inl (some 107))))] [] (am_mm D I J ρ) _
      refine am_e_ss 4 (q := (31, [(1, .inl ((hs p))), (0, .inr (.inr (.inl (some 107))))], [.inl 5, .inl ((I 107 9)), .inr (.inr (.inl (some 107)))], (am_mm D I J ρ))) rfl ?_
      refine am_e_icmp2 rfl ⟨by omega, by omega⟩ ⟨by omega, by omega⟩ (fun (hw3 : ¬ (I 107 9) = 5) => ?_) (fun (hw3 : ¬ (¬ (I 107 9) = 5)) => ?_)
      · show am_E _ _ _ 38 [(1, .inl ((hs p))), (0, .inr (.inr (.inl (some 107))))] [.inr (.inr (.inl (some 107)))] (am_mm D I J ρ) _
        exfalso
        omega
      · show am_E _ _ _ 34 [(1, .inl ((hs p))), (0, .inr (.inr (.inl (some 107))))] [.inr (.inr (.inl (some 107)))] (am_mm D I J ρ) _
        refine am_e_ss 14 (q := (61, [(1, .inl ((hs p))), (0, .inr (.inr (.inl (some 107))))], [.inl 1, .inl ((I 107 6)), .inr (.inr (.inl (some 107)))], (am_mm D (am_up (am_up I 107 8 1) 107 9 ((I 107 9) + 1)) J ρ))) rfl ?_
        refine am_e_s (q := (64, [(1, .inl ((hs p))), (0, .inr (.inr (.inl (some 107))))], [.inl ((I 107 6)), .inr (.inr (.inl (some 107)))], (am_mm D (am_up (am_up I 107 8 1) 107 9 ((I 107 9) + 1)) J ρ))) rfl rfl ?_
        refine am_e_ss 6 (q := (76, [(1, .inl ((hs p))), (0, .inr (.inr (.inl (some 107))))], [.inl 33, .inl ((hs p))], (am_mm D (am_up (am_up (am_up I 107 8 1) 107 9 ((I 107 9) + 1)) 107 6 ((I 107 6) + 0)) J ρ))) rfl ?_
        refine am_e_icmp2 rfl ⟨by omega, by omega⟩ ⟨by omega, by omega⟩ (fun (hw5 : ¬ (hs p) = 33) => ?_) (fun (hw5 : ¬ (¬ (hs p) = 33)) => ?_)
        · show am_E _ _ _ 91 [(1, .inl ((hs p))), (0, .inr (.inr (.inl (some 107))))] [] (am_mm D (am_up (am_up (am_up I 107 8 1) 107 9 ((I 107 9) + 1)) 107 6 ((I 107 6) + 0)) J ρ) _
          refine am_e_ss 1 (q := (92, [(1, .inl ((hs p))), (0, .inr (.inr (.inl (some 107))))], [.inr (.inr (.inl (some 107)))], (am_mm D (am_up (am_up (am_up I 107 8 1) 107 9 ((I 107 9) + 1)) 107 6 ((I 107 6) + 0)) J ρ))) rfl ?_
          refine am_e_virtual (Q := fun r => r = (none, (am_mm D (am_up (am_up (am_up I 107 8 1) 107 9 ((I 107 9) + 1)) 107 6 ((I 107 6) + 0)) J ρ))) rfl rfl (Nat.le_of_ble_eq_true rfl) rfl rfl (Nat.le_of_ble_eq_true rfl) (Nat.le_of_ble_eq_true rfl) (r_someW _ (show (am_up (am_up (am_up I 107 8 1) 107 9 ((I 107 9) + 1)) 107 6 ((I 107 6) + 0)) 107 8 = 1 from rfl)) ?_
          rintro r rfl
          show am_E _ _ _ 95 [(1, .inl ((hs p))), (0, .inr (.inr (.inl (some 107))))] [] (am_mm D (am_up (am_up (am_up I 107 8 1) 107 9 ((I 107 9) + 1)) 107 6 ((I 107 6) + 0)) J ρ) _
          refine am_e_ss 2 (q := (98, [(1, .inl ((hs p))), (0, .inr (.inr (.inl (some 107))))], [.inl 41, .inr (.inr (.inl (some 107)))], (am_mm D (am_up (am_up (am_up I 107 8 1) 107 9 ((I 107 9) + 1)) 107 6 ((I 107 6) + 0)) J ρ))) rfl ?_
          refine am_e_virtual (Q := fun r => r = (none, (am_mm D (am_up (am_up (am_up I 107 8 1) 107 9 ((I 107 9) + 1)) 107 6 ((I 107 6) + 0)) J ρ))) rfl rfl (Nat.le_of_ble_eq_true rfl) rfl rfl (Nat.le_of_ble_eq_true rfl) (Nat.le_of_ble_eq_true rfl) (r_mustW _ (show (am_up (am_up (am_up I 107 8 1) 107 9 ((I 107 9) + 1)) 107 6 ((I 107 6) + 0)) 107 8 = 1 from rfl)) ?_
          rintro r rfl
          show am_E _ _ _ 101 [(1, .inl ((hs p))), (0, .inr (.inr (.inl (some 107))))] [] (am_mm D (am_up (am_up (am_up I 107 8 1) 107 9 ((I 107 9) + 1)) 107 6 ((I 107 6) + 0)) J ρ) _
          refine am_e_ss 6 (q := (111, [(1, .inl ((hs p))), (0, .inr (.inr (.inl (some 107))))], [], (am_mm D (am_up (am_up (am_up (am_up I 107 8 1) 107 9 ((I 107 9) + 1)) 107 6 ((I 107 6) + 0)) 107 9 (((I 107 9) + 1) - 1)) J ρ))) rfl ?_
          refine am_e_return rfl rfl ?_
          have g1 := r_cs_9 (e2 := I 107 9 + 1) (r_cs_b hcs)
          have e1 : am_up (am_up (am_up I 107 8 1) 107 9 (I 107 9 + 1)) 107 6 (I 107 6 + 0) = am_up (am_up I 107 8 1) 107 9 (I 107 9 + 1) := am_up_self (Int.add_zero _).symm
          have g2 := r_cs_9 (e2 := I 107 9 + 1 - 1) g1
          rw [← e1] at g2
          rw [show pt_F hs 0 p = (p, none) from if_pos (by omega)]
          have e5 : I 107 9 + 1 - 1 = 5 := by omega
          refine ⟨_, rfl, ?_⟩
          rw [e5] at g2 ⊢
          exact g2
        · show am_E _ _ _ 79 [(1, .inl ((hs p))), (0, .inr (.inr (.inl (some 107))))] [] (am_mm D (am_up (am_up (am_up I 107 8 1) 107 9 ((I 107 9) + 1)) 107 6 ((I 107 6) + 0)) J ρ) _
          refine am_e_ss 1 (q := (80, [(1, .inl ((hs p))), (0, .inr (.inr (.inl (some 107))))], [.inr (.inr (.inl (some 107)))], (am_mm D (am_up (am_up (am_up I 107 8 1) 107 9 ((I 107 9) + 1)) 107 6 ((I 107 6) + 0)) J ρ))) rfl ?_
          refine am_e_virtual (Q := fun r => r = (none, (am_mm D (am_up (am_up (am_up I 107 8 1) 107 9 ((I 107 9) + 1)) 107 6 ((I 107 6) + 0)) J ρ))) rfl rfl (Nat.le_of_ble_eq_true rfl) rfl rfl (Nat.le_of_ble_eq_true rfl) (Nat.le_of_ble_eq_true rfl) (r_factorW _ (show (am_up (am_up (am_up I 107 8 1) 107 9 ((I 107 9) + 1)) 107 6 ((I 107 6) + 0)) 107 8 = 1 from rfl)) ?_
          rintro r rfl
          show am_E _ _ _ 83 [(1, .inl ((hs p))), (0, .inr (.inr (.inl (some 107))))] [] (am_mm D (am_up (am_up (am_up I 107 8 1) 107 9 ((I 107 9) + 1)) 107 6 ((I 107 6) + 0)) J ρ) _
          refine am_e_ss 2 (q := (85, [(1, .inl ((hs p))), (0, .inr (.inr (.inl (some 107))))], [.inl (-1), .inr (.inr (.inl (some 107)))], (am_mm D (am_up (am_up (am_up I 107 8 1) 107 9 ((I 107 9) + 1)) 107 6 ((I 107 6) + 0)) J ρ))) rfl ?_
          refine am_e_virtual (Q := fun r => r = (none, (am_mm D (am_up (am_up (am_up I 107 8 1) 107 9 ((I 107 9) + 1)) 107 6 ((I 107 6) + 0)) J ρ))) rfl rfl (Nat.le_of_ble_eq_true rfl) rfl rfl (Nat.le_of_ble_eq_true rfl) (Nat.le_of_ble_eq_true rfl) (r_emitsW _ (show (am_up (am_up (am_up I 107 8 1) 107 9 ((I 107 9) + 1)) 107 6 ((I 107 6) + 0)) 107 8 = 1 from rfl)) ?_
          rintro r rfl
          show am_E _ _ _ 88 [(1, .inl ((hs p))), (0, .inr (.inr (.inl (some 107))))] [] (am_mm D (am_up (am_up (am_up I 107 8 1) 107 9 ((I 107 9) + 1)) 107 6 ((I 107 6) + 0)) J ρ) _
          refine am_e_ss 7 (q := (111, [(1, .inl ((hs p))), (0, .inr (.inr (.inl (some 107))))], [], (am_mm D (am_up (am_up (am_up (am_up I 107 8 1) 107 9 ((I 107 9) + 1)) 107 6 ((I 107 6) + 0)) 107 9 (((I 107 9) + 1) - 1)) J ρ))) rfl ?_
          refine am_e_return rfl rfl ?_
          have g1 := r_cs_9 (e2 := I 107 9 + 1) (r_cs_b hcs)
          have e1 : am_up (am_up (am_up I 107 8 1) 107 9 (I 107 9 + 1)) 107 6 (I 107 6 + 0) = am_up (am_up I 107 8 1) 107 9 (I 107 9 + 1) := am_up_self (Int.add_zero _).symm
          have g2 := r_cs_9 (e2 := I 107 9 + 1 - 1) g1
          rw [← e1] at g2
          rw [show pt_F hs 0 p = (p, none) from if_pos (by omega)]
          have e5 : I 107 9 + 1 - 1 = 5 := by omega
          refine ⟨_, rfl, ?_⟩
          rw [e5] at g2 ⊢
          exact g2
    · show am_E _ _ _ 19 [(1, .inl ((hs p))), (0, .inr (.inr (.inl (some 107))))] [] (am_mm D I J ρ) _
      refine am_e_ss 2 (q := (22, [(1, .inl ((hs p))), (0, .inr (.inr (.inl (some 107))))], [.inl 40, .inl ((hs p))], (am_mm D I J ρ))) rfl ?_
      refine am_e_icmp2 rfl ⟨by omega, by omega⟩ ⟨by omega, by omega⟩ (fun (hw6 : ¬ (hs p) = 40) => ?_) (fun (hw6 : ¬ (¬ (hs p) = 40)) => ?_)
      · show am_E _ _ _ 112 [(1, .inl ((hs p))), (0, .inr (.inr (.inl (some 107))))] [] (am_mm D I J ρ) _
        rw [show pt_F hs 0 p = pt_tst hs p from if_neg (by omega)]
        exact am_less (lv := [(0, .inr (.inr (.inl (some 107))))]) rfl (List.forall_mem_cons.mpr ⟨rfl, List.forall_mem_nil _⟩) (r_ftest d hcs)
      · show am_E _ _ _ 25 [(1, .inl ((hs p))), (0, .inr (.inr (.inl (some 107))))] [] (am_mm D I J ρ) _
        refine am_e_ss 4 (q := (31, [(1, .inl ((hs p))), (0, .inr (.inr (.inl (some 107))))], [.inl 5, .inl ((I 107 9)), .inr (.inr (.inl (some 107)))], (am_mm D I J ρ))) rfl ?_
        refine am_e_icmp2 rfl ⟨by omega, by omega⟩ ⟨by omega, by omega⟩ (fun (hw7 : ¬ (I 107 9) = 5) => ?_) (fun (hw7 : ¬ (¬ (I 107 9) = 5)) => ?_)
        · show am_E _ _ _ 38 [(1, .inl ((hs p))), (0, .inr (.inr (.inl (some 107))))] [.inr (.inr (.inl (some 107)))] (am_mm D I J ρ) _
          exfalso
          omega
        · show am_E _ _ _ 34 [(1, .inl ((hs p))), (0, .inr (.inr (.inl (some 107))))] [.inr (.inr (.inl (some 107)))] (am_mm D I J ρ) _
          refine am_e_ss 14 (q := (61, [(1, .inl ((hs p))), (0, .inr (.inr (.inl (some 107))))], [.inl 1, .inl ((I 107 6)), .inr (.inr (.inl (some 107)))], (am_mm D (am_up (am_up I 107 8 1) 107 9 ((I 107 9) + 1)) J ρ))) rfl ?_
          refine am_e_s (q := (64, [(1, .inl ((hs p))), (0, .inr (.inr (.inl (some 107))))], [.inl ((I 107 6)), .inr (.inr (.inl (some 107)))], (am_mm D (am_up (am_up I 107 8 1) 107 9 ((I 107 9) + 1)) J ρ))) rfl rfl ?_
          refine am_e_ss 6 (q := (76, [(1, .inl ((hs p))), (0, .inr (.inr (.inl (some 107))))], [.inl 33, .inl ((hs p))], (am_mm D (am_up (am_up (am_up I 107 8 1) 107 9 ((I 107 9) + 1)) 107 6 ((I 107 6) + 0)) J ρ))) rfl ?_
          refine am_e_icmp2 rfl ⟨by omega, by omega⟩ ⟨by omega, by omega⟩ (fun (hw9 : ¬ (hs p) = 33) => ?_) (fun (hw9 : ¬ (¬ (hs p) = 33)) => ?_)
          · show am_E _ _ _ 91 [(1, .inl ((hs p))), (0, .inr (.inr (.inl (some 107))))] [] (am_mm D (am_up (am_up (am_up I 107 8 1) 107 9 ((I 107 9) + 1)) 107 6 ((I 107 6) + 0)) J ρ) _
            refine am_e_ss 1 (q := (92, [(1, .inl ((hs p))), (0, .inr (.inr (.inl (some 107))))], [.inr (.inr (.inl (some 107)))], (am_mm D (am_up (am_up (am_up I 107 8 1) 107 9 ((I 107 9) + 1)) 107 6 ((I 107 6) + 0)) J ρ))) rfl ?_
            refine am_e_virtual (Q := fun r => r = (none, (am_mm D (am_up (am_up (am_up I 107 8 1) 107 9 ((I 107 9) + 1)) 107 6 ((I 107 6) + 0)) J ρ))) rfl rfl (Nat.le_of_ble_eq_true rfl) rfl rfl (Nat.le_of_ble_eq_true rfl) (Nat.le_of_ble_eq_true rfl) (r_someW _ (show (am_up (am_up (am_up I 107 8 1) 107 9 ((I 107 9) + 1)) 107 6 ((I 107 6) + 0)) 107 8 = 1 from rfl)) ?_
            rintro r rfl
            show am_E _ _ _ 95 [(1, .inl ((hs p))), (0, .inr (.inr (.inl (some 107))))] [] (am_mm D (am_up (am_up (am_up I 107 8 1) 107 9 ((I 107 9) + 1)) 107 6 ((I 107 6) + 0)) J ρ) _
            refine am_e_ss 2 (q := (98, [(1, .inl ((hs p))), (0, .inr (.inr (.inl (some 107))))], [.inl 41, .inr (.inr (.inl (some 107)))], (am_mm D (am_up (am_up (am_up I 107 8 1) 107 9 ((I 107 9) + 1)) 107 6 ((I 107 6) + 0)) J ρ))) rfl ?_
            refine am_e_virtual (Q := fun r => r = (none, (am_mm D (am_up (am_up (am_up I 107 8 1) 107 9 ((I 107 9) + 1)) 107 6 ((I 107 6) + 0)) J ρ))) rfl rfl (Nat.le_of_ble_eq_true rfl) rfl rfl (Nat.le_of_ble_eq_true rfl) (Nat.le_of_ble_eq_true rfl) (r_mustW _ (show (am_up (am_up (am_up I 107 8 1) 107 9 ((I 107 9) + 1)) 107 6 ((I 107 6) + 0)) 107 8 = 1 from rfl)) ?_
            rintro r rfl
            show am_E _ _ _ 101 [(1, .inl ((hs p))), (0, .inr (.inr (.inl (some 107))))] [] (am_mm D (am_up (am_up (am_up I 107 8 1) 107 9 ((I 107 9) + 1)) 107 6 ((I 107 6) + 0)) J ρ) _
            refine am_e_ss 6 (q := (111, [(1, .inl ((hs p))), (0, .inr (.inr (.inl (some 107))))], [], (am_mm D (am_up (am_up (am_up (am_up I 107 8 1) 107 9 ((I 107 9) + 1)) 107 6 ((I 107 6) + 0)) 107 9 (((I 107 9) + 1) - 1)) J ρ))) rfl ?_
            refine am_e_return rfl rfl ?_
            have g1 := r_cs_9 (e2 := I 107 9 + 1) (r_cs_b hcs)
            have e1 : am_up (am_up (am_up I 107 8 1) 107 9 (I 107 9 + 1)) 107 6 (I 107 6 + 0) = am_up (am_up I 107 8 1) 107 9 (I 107 9 + 1) := am_up_self (Int.add_zero _).symm
            have g2 := r_cs_9 (e2 := I 107 9 + 1 - 1) g1
            rw [← e1] at g2
            rw [show pt_F hs 0 p = (p, none) from if_pos (by omega)]
            have e5 : I 107 9 + 1 - 1 = 5 := by omega
            refine ⟨_, rfl, ?_⟩
            rw [e5] at g2 ⊢
            exact g2
          · show am_E _ _ _ 79 [(1, .inl ((hs p))), (0, .inr (.inr (.inl (some 107))))] [] (am_mm D (am_up (am_up (am_up I 107 8 1) 107 9 ((I 107 9) + 1)) 107 6 ((I 107 6) + 0)) J ρ) _
            refine am_e_ss 1 (q := (80, [(1, .inl ((hs p))), (0, .inr (.inr (.inl (some 107))))], [.inr (.inr (.inl (some 107)))], (am_mm D (am_up (am_up (am_up I 107 8 1) 107 9 ((I 107 9) + 1)) 107 6 ((I 107 6) + 0)) J ρ))) rfl ?_
            refine am_e_virtual (Q := fun r => r = (none, (am_mm D (am_up (am_up (am_up I 107 8 1) 107 9 ((I 107 9) + 1)) 107 6 ((I 107 6) + 0)) J ρ))) rfl rfl (Nat.le_of_ble_eq_true rfl) rfl rfl (Nat.le_of_ble_eq_true rfl) (Nat.le_of_ble_eq_true rfl) (r_factorW _ (show (am_up (am_up (am_up I 107 8 1) 107 9 ((I 107 9) + 1)) 107 6 ((I 107 6) + 0)) 107 8 = 1 from rfl)) ?_
            rintro r rfl
            show am_E _ _ _ 83 [(1, .inl ((hs p))), (0, .inr (.inr (.inl (some 107))))] [] (am_mm D (am_up (am_up (am_up I 107 8 1) 107 9 ((I 107 9) + 1)) 107 6 ((I 107 6) + 0)) J ρ) _
            refine am_e_ss 2 (q := (85, [(1, .inl ((hs p))), (0, .inr (.inr (.inl (some 107))))], [.inl (-1), .inr (.inr (.inl (some 107)))], (am_mm D (am_up (am_up (am_up I 107 8 1) 107 9 ((I 107 9) + 1)) 107 6 ((I 107 6) + 0)) J ρ))) rfl ?_
            refine am_e_virtual (Q := fun r => r = (none, (am_mm D (am_up (am_up (am_up I 107 8 1) 107 9 ((I 107 9) + 1)) 107 6 ((I 107 6) + 0)) J ρ))) rfl rfl (Nat.le_of_ble_eq_true rfl) rfl rfl (Nat.le_of_ble_eq_true rfl) (Nat.le_of_ble_eq_true rfl) (r_emitsW _ (show (am_up (am_up (am_up I 107 8 1) 107 9 ((I 107 9) + 1)) 107 6 ((I 107 6) + 0)) 107 8 = 1 from rfl)) ?_
            rintro r rfl
            show am_E _ _ _ 88 [(1, .inl ((hs p))), (0, .inr (.inr (.inl (some 107))))] [] (am_mm D (am_up (am_up (am_up I 107 8 1) 107 9 ((I 107 9) + 1)) 107 6 ((I 107 6) + 0)) J ρ) _
            refine am_e_ss 7 (q := (111, [(1, .inl ((hs p))), (0, .inr (.inr (.inl (some 107))))], [], (am_mm D (am_up (am_up (am_up (am_up I 107 8 1) 107 9 ((I 107 9) + 1)) 107 6 ((I 107 6) + 0)) 107 9 (((I 107 9) + 1) - 1)) J ρ))) rfl ?_
            refine am_e_return rfl rfl ?_
            have g1 := r_cs_9 (e2 := I 107 9 + 1) (r_cs_b hcs)
            have e1 : am_up (am_up (am_up I 107 8 1) 107 9 (I 107 9 + 1)) 107 6 (I 107 6 + 0) = am_up (am_up I 107 8 1) 107 9 (I 107 9 + 1) := am_up_self (Int.add_zero _).symm
            have g2 := r_cs_9 (e2 := I 107 9 + 1 - 1) g1
            rw [← e1] at g2
            rw [show pt_F hs 0 p = (p, none) from if_pos (by omega)]
            have e5 : I 107 9 + 1 - 1 = 5 := by omega
            refine ⟨_, rfl, ?_⟩
            rw [e5] at g2 ⊢
            exact g2
  · show am_E _ _ _ 7 [(0, .inr (.inr (.inl (some 107))))] [] (am_mm D I J ρ) _
    exfalso
    omega
theorem r_factorST {X : Nat × (Nat → Int)} {D : List (Nat × Nat)} {I J : Nat → Nat → Int} {ρ : Nat → Nat → Option Nat} (d : Nat) {I0 : Nat → Nat → Int} {hs : Nat → Int} {z a p : Nat} {w e : Int} {L : List Int} {l n : Nat} {m : Int} (he : -100 ≤ e ∧ e < 5) (hF : r_FC X D J ρ hs z a w (e + 1) n 141 (pt_F hs l)) (hok : pt_ok z m (pt_F hs l)) (hE : r_FC X D J ρ hs z a w (e + 1) (n + 1 + 1) 143 (pt_E hs (pt_F hs l))) (hn : n + 2 ≤ d + 4) (hcs : r_cs I0 I hs z a w e (p, some L))  : am_E X (d + 5) 141 0 [(0, .inr (.inr (.inl (some 107))))] [] (am_mm D I J ρ) (fun r => ∃ K, r = (none, am_mm D K J ρ) ∧ r_cs I0 K hs z a w e ((pt_pre L (pt_F hs (l + 1) p)))) := by
  have h8 : I 107 8 = 0 := hcs.2.2.2.2.2.1
  have t6 : I 107 6 = (p : Int) := hcs.2.1.1
  have tb := hcs.2.1.2.2.2.2.2.2
  have tbp := tb p
  have tz := hcs.2.1.2.2.1
  have tpz : p ≤ z := hcs.2.1.2.2.2.1
  have ed : I 107 9 = e := hcs.2.2.2.2.1
  have hll : L.length ≤ p := hcs.2.2.2.2.2.2.2
  refine am_e_ss 2 (q := (4, [(0, .inr (.inr (.inl (some 107))))], [.inl ((I 107 8))], (am_mm D I J ρ))) rfl ?_
  refine am_e_if2 rfl ⟨by omega, by omega⟩ (fun (hw1 : (I 107 8) = 0) => ?_) (fun (hw1 : ¬ ((I 107 8) = 0)) => ?_)
  · show am_E _ _ _ 8 [(0, .inr (.inr (.inl (some 107))))] [] (am_mm D I J ρ) _
    refine am_e_ss 1 (q := (9, [(0, .inr (.inr (.inl (some 107))))], [.inr (.inr (.inl (some 107)))], (am_mm D I J ρ))) rfl ?_
    refine am_e_virtual (Q := fun r => r = (some (.inl ((hs p))), (am_mm D I J ρ))) rfl rfl (Nat.le_of_ble_eq_true rfl) rfl rfl (Nat.le_of_ble_eq_true rfl) (Nat.le_of_ble_eq_true rfl) (r_hereC _ hcs) ?_
    rintro r rfl
    show am_E _ _ _ 12 [(0, .inr (.inr (.inl (some 107))))] [.inl ((hs p))] (am_mm D I J ρ) _
    refine am_e_ss 3 (q := (16, [(1, .inl ((hs p))), (0, .inr (.inr (.inl (some 107))))], [.inl 33, .inl ((hs p))], (am_mm D I J ρ))) rfl ?_
    refine am_e_icmp2 rfl ⟨by omega, by omega⟩ ⟨by omega, by omega⟩ (fun (hw2 : (hs p) = 33) => ?_) (fun (hw2 : ¬ ((hs p) = 33)) => ?_)
    · show am_E _ _ _ 25 [(1, .inl ((hs p))), (0, .inr (.inr (.inl (some 107))))] [] (am_mm D I J ρ) _
      refine am_e_ss 4 (q := (31, [(1, .inl ((hs p))), (0, .inr (.inr (.inl (some 107))))], [.inl 5, .inl ((I 107 9)), .inr (.inr (.inl (some 107)))], (am_mm D I J ρ))) rfl ?_
      refine am_e_icmp2 rfl ⟨by omega, by omega⟩ ⟨by omega, by omega⟩ (fun (hw3 : ¬ (I 107 9) = 5) => ?_) (fun (hw3 : ¬ (¬ (I 107 9) = 5)) => ?_)
      · show am_E _ _ _ 38 [(1, .inl ((hs p))), (0, .inr (.inr (.inl (some 107))))] [.inr (.inr (.inl (some 107)))] (am_mm D I J ρ) _
        refine am_e_ss 13 (q := (61, [(1, .inl ((hs p))), (0, .inr (.inr (.inl (some 107))))], [.inl 0, .inl ((I 107 6)), .inr (.inr (.inl (some 107)))], (am_mm D (am_up (am_up I 107 8 0) 107 9 ((I 107 9) + 1)) J ρ))) rfl ?_
        refine am_e_s (q := (68, [(1, .inl ((hs p))), (0, .inr (.inr (.inl (some 107))))], [.inl ((I 107 6)), .inr (.inr (.inl (some 107)))], (am_mm D (am_up (am_up I 107 8 0) 107 9 ((I 107 9) + 1)) J ρ))) rfl rfl ?_
        refine am_e_ss 3 (q := (73, [(1, .inl ((hs p))), (0, .inr (.inr (.inl (some 107))))], [], (am_mm D (am_up (am_up (am_up I 107 8 0) 107 9 ((I 107 9) + 1)) 107 6 ((I 107 6) + 1)) J ρ))) rfl ?_
        rw [am_up_self h8, ed, t6]
        have g50 := r_cs_6 (r_cs_9 (e2 := e + 1) hcs) (r_cs_lt hcs (show 0 ≤ hs p by omega))
        generalize am_up (am_up I 107 9 (e + 1)) 107 6 ((p : Int) + 1) = K50 at g50 ⊢
        show am_E _ _ _ 73 [(1, .inl ((hs p))), (0, .inr (.inr (.inl (some 107))))] [] (am_mm D K50 J ρ) _
        refine am_e_ss 2 (q := (76, [(1, .inl ((hs p))), (0, .inr (.inr (.inl (some 107))))], [.inl 33, .inl ((hs p))], (am_mm D K50 J ρ))) rfl ?_
        refine am_e_icmp2 rfl ⟨by omega, by omega⟩ ⟨by omega, by omega⟩ (fun (hw5 : ¬ (hs p) = 33) => ?_) (fun (hw5 : ¬ (¬ (hs p) = 33)) => ?_)
        · show am_E _ _ _ 91 [(1, .inl ((hs p))), (0, .inr (.inr (.inl (some 107))))] [] (am_mm D K50 J ρ) _
          refine am_e_ss 1 (q := (92, [(1, .inl ((hs p))), (0, .inr (.inr (.inl (some 107))))], [.inr (.inr (.inl (some 107)))], (am_mm D K50 J ρ))) rfl ?_
          refine am_e_virtual (Q := fun r => ∃ K51, r = (none, (am_mm D K51 J ρ)) ∧ r_cs I0 K51 hs z a w (e + 1) ((pt_bd ((p + 1, some L)) (fun p L => pt_pre L (pt_E hs (pt_F hs l) p))))) rfl rfl (Nat.le_of_ble_eq_true rfl) rfl rfl (Nat.le_of_ble_eq_true rfl) (Nat.le_of_ble_eq_true rfl) (hE _ _ _ ((p + 1, some L)) (by omega) g50) ?_
          rintro r ⟨K51, rfl, g51⟩
          show am_E _ _ _ 95 [(1, .inl ((hs p))), (0, .inr (.inr (.inl (some 107))))] [] (am_mm D K51 J ρ) _
          refine am_e_ss 2 (q := (98, [(1, .inl ((hs p))), (0, .inr (.inr (.inl (some 107))))], [.inl 41, .inr (.inr (.inl (some 107)))], (am_mm D K51 J ρ))) rfl ?_
          refine am_e_virtual (Q := fun r => ∃ K52, r = (none, (am_mm D K52 J ρ)) ∧ r_cs I0 K52 hs z a w (e + 1) ((pt_bd ((pt_bd ((p + 1, some L)) (fun p L => pt_pre L (pt_E hs (pt_F hs l) p)))) (fun p L => pt_ms hs 41 p L)))) rfl rfl (Nat.le_of_ble_eq_true rfl) rfl rfl (Nat.le_of_ble_eq_true rfl) (Nat.le_of_ble_eq_true rfl) (r_mustC _ g51 (s := 41) (by decide)) ?_
          rintro r ⟨K52, rfl, g52⟩
          show am_E _ _ _ 101 [(1, .inl ((hs p))), (0, .inr (.inr (.inl (some 107))))] [] (am_mm D K52 J ρ) _
          refine am_e_ss 6 (q := (111, [(1, .inl ((hs p))), (0, .inr (.inr (.inl (some 107))))], [], (am_mm D (am_up K52 107 9 ((K52 107 9) - 1)) J ρ))) rfl ?_
          refine am_e_return rfl rfl ?_
          have d9 : K52 107 9 = e + 1 := g52.2.2.2.2.1
          have g0 := r_cs_9 (e2 := e) g52
          rw [d9, show e + 1 - 1 = e by omega]
          refine ⟨_, rfl, ?_⟩
          have g0 : r_cs I0 (am_up K52 107 9 e) hs z a w e ((pt_bd (pt_pre L (pt_E hs (pt_F hs l) (p + 1))) (fun p L => pt_ms hs 41 p L))) := g0
          rw [show pt_F hs (l + 1) p = _ from (if_neg (by omega)).trans (if_pos (by omega))]
          rcases hF1 : pt_E hs (pt_F hs l) (p + 1) with ⟨q, _ | L2⟩
          · rw [hF1] at g0; exact g0
          · rw [hF1] at g0
            have g0 : r_cs I0 (am_up K52 107 9 e) hs z a w e ((pt_ms hs 41 q (L ++ L2))) := g0
            unfold pt_ms at g0
            by_cases c : hs q = 41
            · rw [if_pos c] at g0
              show r_cs I0 _ hs z a w e (pt_pre L (if hs q = 41 then (q + 1, some L2) else (q, none)))
              rw [if_pos c]; exact g0
            · rw [if_neg c] at g0
              show r_cs I0 _ hs z a w e (pt_pre L (if hs q = 41 then (q + 1, some L2) else (q, none)))
              rw [if_neg c]; exact g0
        · show am_E _ _ _ 79 [(1, .inl ((hs p))), (0, .inr (.inr (.inl (some 107))))] [] (am_mm D K50 J ρ) _
          refine am_e_ss 1 (q := (80, [(1, .inl ((hs p))), (0, .inr (.inr (.inl (some 107))))], [.inr (.inr (.inl (some 107)))], (am_mm D K50 J ρ))) rfl ?_
          refine am_e_virtual (Q := fun r => ∃ K53, r = (none, (am_mm D K53 J ρ)) ∧ r_cs I0 K53 hs z a w (e + 1) ((pt_bd ((p + 1, some L)) (fun p L => pt_pre L (pt_F hs l p))))) rfl rfl (Nat.le_of_ble_eq_true rfl) rfl rfl (Nat.le_of_ble_eq_true rfl) (Nat.le_of_ble_eq_true rfl) (hF _ _ _ ((p + 1, some L)) (by omega) g50) ?_
          rintro r ⟨K53, rfl, g53⟩
          show am_E _ _ _ 83 [(1, .inl ((hs p))), (0, .inr (.inr (.inl (some 107))))] [] (am_mm D K53 J ρ) _
          refine am_e_ss 2 (q := (85, [(1, .inl ((hs p))), (0, .inr (.inr (.inl (some 107))))], [.inl (-1), .inr (.inr (.inl (some 107)))], (am_mm D K53 J ρ))) rfl ?_
          refine am_e_virtual (Q := fun r => ∃ K54, r = (none, (am_mm D K54 J ρ)) ∧ r_cs I0 K54 hs z a w (e + 1) ((pt_bd ((pt_bd ((p + 1, some L)) (fun p L => pt_pre L (pt_F hs l p)))) (fun p9 L9 => (p9, some (L9 ++ [(-1)])))))) rfl rfl (Nat.le_of_ble_eq_true rfl) rfl rfl (Nat.le_of_ble_eq_true rfl) (Nat.le_of_ble_eq_true rfl) (r_emitsC _ g53 (s := (-1)) (pt_pre_lt hok (by omega))) ?_
          rintro r ⟨K54, rfl, g54⟩
          show am_E _ _ _ 88 [(1, .inl ((hs p))), (0, .inr (.inr (.inl (some 107))))] [] (am_mm D K54 J ρ) _
          refine am_e_ss 7 (q := (111, [(1, .inl ((hs p))), (0, .inr (.inr (.inl (some 107))))], [], (am_mm D (am_up K54 107 9 ((K54 107 9) - 1)) J ρ))) rfl ?_
          refine am_e_return rfl rfl ?_
          have d9 : K54 107 9 = e + 1 := g54.2.2.2.2.1
          have g0 := r_cs_9 (e2 := e) g54
          rw [d9, show e + 1 - 1 = e by omega]
          refine ⟨_, rfl, ?_⟩
          have g0 : r_cs I0 (am_up K54 107 9 e) hs z a w e ((pt_bd (pt_pre L (pt_F hs l (p + 1))) (fun p L => (p, some (L ++ [-1]))))) := g0
          rw [show pt_F hs (l + 1) p = _ from if_pos (by omega)]
          rcases hF1 : pt_F hs l (p + 1) with ⟨q, _ | L2⟩
          · rw [hF1] at g0; exact g0
          · rw [hF1] at g0
            show r_cs I0 _ hs z a w e (q, some (L ++ (L2 ++ [-1])))
            rw [← List.append_assoc]; exact g0
      · show am_E _ _ _ 34 [(1, .inl ((hs p))), (0, .inr (.inr (.inl (some 107))))] [.inr (.inr (.inl (some 107)))] (am_mm D I J ρ) _
        exfalso
        omega
    · show am_E _ _ _ 19 [(1, .inl ((hs p))), (0, .inr (.inr (.inl (some 107))))] [] (am_mm D I J ρ) _
      refine am_e_ss 2 (q := (22, [(1, .inl ((hs p))), (0, .inr (.inr (.inl (some 107))))], [.inl 40, .inl ((hs p))], (am_mm D I J ρ))) rfl ?_
      refine am_e_icmp2 rfl ⟨by omega, by omega⟩ ⟨by omega, by omega⟩ (fun (hw6 : ¬ (hs p) = 40) => ?_) (fun (hw6 : ¬ (¬ (hs p) = 40)) => ?_)
      · show am_E _ _ _ 112 [(1, .inl ((hs p))), (0, .inr (.inr (.inl (some 107))))] [] (am_mm D I J ρ) _
        rw [show pt_F hs (l + 1) p = pt_tst hs p from (if_neg (by omega)).trans (if_neg (by omega))]
        exact am_less (lv := [(0, .inr (.inr (.inl (some 107))))]) rfl (List.forall_mem_cons.mpr ⟨rfl, List.forall_mem_nil _⟩) (r_ftest d hcs)
      · show am_E _ _ _ 25 [(1, .inl ((hs p))), (0, .inr (.inr (.inl (some 107))))] [] (am_mm D I J ρ) _
        refine am_e_ss 4 (q := (31, [(1, .inl ((hs p))), (0, .inr (.inr (.inl (some 107))))], [.inl 5, .inl ((I 107 9)), .inr (.inr (.inl (some 107)))], (am_mm D I J ρ))) rfl ?_
        refine am_e_icmp2 rfl ⟨by omega, by omega⟩ ⟨by omega, by omega⟩ (fun (hw7 : ¬ (I 107 9) = 5) => ?_) (fun (hw7 : ¬ (¬ (I 107 9) = 5)) => ?_)
        · show am_E _ _ _ 38 [(1, .inl ((hs p))), (0, .inr (.inr (.inl (some 107))))] [.inr (.inr (.inl (some 107)))] (am_mm D I J ρ) _
          refine am_e_ss 13 (q := (61, [(1, .inl ((hs p))), (0, .inr (.inr (.inl (some 107))))], [.inl 0, .inl ((I 107 6)), .inr (.inr (.inl (some 107)))], (am_mm D (am_up (am_up I 107 8 0) 107 9 ((I 107 9) + 1)) J ρ))) rfl ?_
          refine am_e_s (q := (68, [(1, .inl ((hs p))), (0, .inr (.inr (.inl (some 107))))], [.inl ((I 107 6)), .inr (.inr (.inl (some 107)))], (am_mm D (am_up (am_up I 107 8 0) 107 9 ((I 107 9) + 1)) J ρ))) rfl rfl ?_
          refine am_e_ss 3 (q := (73, [(1, .inl ((hs p))), (0, .inr (.inr (.inl (some 107))))], [], (am_mm D (am_up (am_up (am_up I 107 8 0) 107 9 ((I 107 9) + 1)) 107 6 ((I 107 6) + 1)) J ρ))) rfl ?_
          rw [am_up_self h8, ed, t6]
          have g55 := r_cs_6 (r_cs_9 (e2 := e + 1) hcs) (r_cs_lt hcs (show 0 ≤ hs p by omega))
          generalize am_up (am_up I 107 9 (e + 1)) 107 6 ((p : Int) + 1) = K55 at g55 ⊢
          show am_E _ _ _ 73 [(1, .inl ((hs p))), (0, .inr (.inr (.inl (some 107))))] [] (am_mm D K55 J ρ) _
          refine am_e_ss 2 (q := (76, [(1, .inl ((hs p))), (0, .inr (.inr (.inl (some 107))))], [.inl 33, .inl ((hs p))], (am_mm D K55 J ρ))) rfl ?_
          refine am_e_icmp2 rfl ⟨by omega, by omega⟩ ⟨by omega, by omega⟩ (fun (hw9 : ¬ (hs p) = 33) => ?_) (fun (hw9 : ¬ (¬ (hs p) = 33)) => ?_)
          · show am_E _ _ _ 91 [(1, .inl ((hs p))), (0, .inr (.inr (.inl (some 107))))] [] (am_mm D K55 J ρ) _
            refine am_e_ss 1 (q := (92, [(1, .inl ((hs p))), (0, .inr (.inr (.inl (some 107))))], [.inr (.inr (.inl (some 107)))], (am_mm D K55 J ρ))) rfl ?_
            refine am_e_virtual (Q := fun r => ∃ K56, r = (none, (am_mm D K56 J ρ)) ∧ r_cs I0 K56 hs z a w (e + 1) ((pt_bd ((p + 1, some L)) (fun p L => pt_pre L (pt_E hs (pt_F hs l) p))))) rfl rfl (Nat.le_of_ble_eq_true rfl) rfl rfl (Nat.le_of_ble_eq_true rfl) (Nat.le_of_ble_eq_true rfl) (hE _ _ _ ((p + 1, some L)) (by omega) g55) ?_
            rintro r ⟨K56, rfl, g56⟩
            show am_E _ _ _ 95 [(1, .inl ((hs p))), (0, .inr (.inr (.inl (some 107))))] [] (am_mm D K56 J ρ) _
            refine am_e_ss 2 (q := (98, [(1, .inl ((hs p))), (0, .inr (.inr (.inl (some 107))))], [.inl 41, .inr (.inr (.inl (some 107)))], (am_mm D K56 J ρ))) rfl ?_
            refine am_e_virtual (Q := fun r => ∃ K57, r = (none, (am_mm D K57 J ρ)) ∧ r_cs I0 K57 hs z a w (e + 1) ((pt_bd ((pt_bd ((p + 1, some L)) (fun p L => pt_pre L (pt_E hs (pt_F hs l) p)))) (fun p L => pt_ms hs 41 p L)))) rfl rfl (Nat.le_of_ble_eq_true rfl) rfl rfl (Nat.le_of_ble_eq_true rfl) (Nat.le_of_ble_eq_true rfl) (r_mustC _ g56 (s := 41) (by decide)) ?_
            rintro r ⟨K57, rfl, g57⟩
            show am_E _ _ _ 101 [(1, .inl ((hs p))), (0, .inr (.inr (.inl (some 107))))] [] (am_mm D K57 J ρ) _
            refine am_e_ss 6 (q := (111, [(1, .inl ((hs p))), (0, .inr (.inr (.inl (some 107))))], [], (am_mm D (am_up K57 107 9 ((K57 107 9) - 1)) J ρ))) rfl ?_
            refine am_e_return rfl rfl ?_
            have d9 : K57 107 9 = e + 1 := g57.2.2.2.2.1
            have g0 := r_cs_9 (e2 := e) g57
            rw [d9, show e + 1 - 1 = e by omega]
            refine ⟨_, rfl, ?_⟩
            have g0 : r_cs I0 (am_up K57 107 9 e) hs z a w e ((pt_bd (pt_pre L (pt_E hs (pt_F hs l) (p + 1))) (fun p L => pt_ms hs 41 p L))) := g0
            rw [show pt_F hs (l + 1) p = _ from (if_neg (by omega)).trans (if_pos (by omega))]
            rcases hF1 : pt_E hs (pt_F hs l) (p + 1) with ⟨q, _ | L2⟩
            · rw [hF1] at g0; exact g0
            · rw [hF1] at g0
              have g0 : r_cs I0 (am_up K57 107 9 e) hs z a w e ((pt_ms hs 41 q (L ++ L2))) := g0
              unfold pt_ms at g0
              by_cases c : hs q = 41
              · rw [if_pos c] at g0
                show r_cs I0 _ hs z a w e (pt_pre L (if hs q = 41 then (q + 1, some L2) else (q, none)))
                rw [if_pos c]; exact g0
              · rw [if_neg c] at g0
                show r_cs I0 _ hs z a w e (pt_pre L (if hs q = 41 then (q + 1, some L2) else (q, none)))
                rw [if_neg c]; exact g0
          · show am_E _ _ _ 79 [(1, .inl ((hs p))), (0, .inr (.inr (.inl (some 107))))] [] (am_mm D K55 J ρ) _
            refine am_e_ss 1 (q := (80, [(1, .inl ((hs p))), (0, .inr (.inr (.inl (some 107))))], [.inr (.inr (.inl (some 107)))], (am_mm D K55 J ρ))) rfl ?_
            refine am_e_virtual (Q := fun r => ∃ K58, r = (none, (am_mm D K58 J ρ)) ∧ r_cs I0 K58 hs z a w (e + 1) ((pt_bd ((p + 1, some L)) (fun p L => pt_pre L (pt_F hs l p))))) rfl rfl (Nat.le_of_ble_eq_true rfl) rfl rfl (Nat.le_of_ble_eq_true rfl) (Nat.le_of_ble_eq_true rfl) (hF _ _ _ ((p + 1, some L)) (by omega) g55) ?_
            rintro r ⟨K58, rfl, g58⟩
            show am_E _ _ _ 83 [(1, .inl ((hs p))), (0, .inr (.inr (.inl (some 107))))] [] (am_mm D K58 J ρ) _
            refine am_e_ss 2 (q := (85, [(1, .inl ((hs p))), (0, .inr (.inr (.inl (some 107))))], [.inl (-1), .inr (.inr (.inl (some 107)))], (am_mm D K58 J ρ))) rfl ?_
            refine am_e_virtual (Q := fun r => ∃ K59, r = (none, (am_mm D K59 J ρ)) ∧ r_cs I0 K59 hs z a w (e + 1) ((pt_bd ((pt_bd ((p + 1, some L)) (fun p L => pt_pre L (pt_F hs l p)))) (fun p9 L9 => (p9, some (L9 ++ [(-1)])))))) rfl rfl (Nat.le_of_ble_eq_true rfl) rfl rfl (Nat.le_of_ble_eq_true rfl) (Nat.le_of_ble_eq_true rfl) (r_emitsC _ g58 (s := (-1)) (pt_pre_lt hok (by omega))) ?_
            rintro r ⟨K59, rfl, g59⟩
            show am_E _ _ _ 88 [(1, .inl ((hs p))), (0, .inr (.inr (.inl (some 107))))] [] (am_mm D K59 J ρ) _
            refine am_e_ss 7 (q := (111, [(1, .inl ((hs p))), (0, .inr (.inr (.inl (some 107))))], [], (am_mm D (am_up K59 107 9 ((K59 107 9) - 1)) J ρ))) rfl ?_
            refine am_e_return rfl rfl ?_
            have d9 : K59 107 9 = e + 1 := g59.2.2.2.2.1
            have g0 := r_cs_9 (e2 := e) g59
            rw [d9, show e + 1 - 1 = e by omega]
            refine ⟨_, rfl, ?_⟩
            have g0 : r_cs I0 (am_up K59 107 9 e) hs z a w e ((pt_bd (pt_pre L (pt_F hs l (p + 1))) (fun p L => (p, some (L ++ [-1]))))) := g0
            rw [show pt_F hs (l + 1) p = _ from if_pos (by omega)]
            rcases hF1 : pt_F hs l (p + 1) with ⟨q, _ | L2⟩
            · rw [hF1] at g0; exact g0
            · rw [hF1] at g0
              show r_cs I0 _ hs z a w e (q, some (L ++ (L2 ++ [-1])))
              rw [← List.append_assoc]; exact g0
        · show am_E _ _ _ 34 [(1, .inl ((hs p))), (0, .inr (.inr (.inl (some 107))))] [.inr (.inr (.inl (some 107)))] (am_mm D I J ρ) _
          exfalso
          omega
  · show am_E _ _ _ 7 [(0, .inr (.inr (.inl (some 107))))] [] (am_mm D I J ρ) _
    exfalso
    omega
theorem r_factor {X : Nat × (Nat → Int)} {D : List (Nat × Nat)} {J : Nat → Nat → Int} {ρ : Nat → Nat → Option Nat} {hs : Nat → Int} {z a : Nat} {w : Int} (hz : ∀ i, z ≤ i → hs i = -1) : ∀ l : Nat, l ≤ 5 → r_FC X D J ρ hs z a w (5 - (l : Int)) (5 + 3 * l) 141 (pt_F hs l) := by
  intro l
  induction l with
  | zero =>
    intro _ d0 I0 I R hd hcs
    obtain ⟨d, rfl⟩ : ∃ d, d0 = d + 5 := ⟨d0 - 5, by omega⟩
    obtain ⟨p, _ | L⟩ := R
    · exact (r_factorW _ hcs.2.2.2.2.2.1).imp (fun r h => ⟨I, h, hcs⟩)
    · exact r_factor0T d hcs
  | succ l ih =>
    intro hl5 d0 I0 I R hd hcs
    obtain ⟨d, rfl⟩ : ∃ d, d0 = d + 5 := ⟨d0 - 5, by omega⟩
    obtain ⟨p, _ | L⟩ := R
    · exact (r_factorW _ hcs.2.2.2.2.2.1).imp (fun r h => ⟨I, h, hcs⟩)
    · have hF := ih (by omega)
      have e1 : (5 : Int) - (l : Int) = 5 - ((l + 1 : Nat) : Int) + 1 := by omega
      rw [e1] at hF
      have hok := pt_F_ok hz l
      have hE := r_some (r_every hF hok) (pt_jn_ok (Or.inl rfl) (by omega) hok)
      exact r_factorST d (l := l) (n := 5 + 3 * l) (by omega) hF hok hE (by omega) hcs
theorem r_any {X : Nat × (Nat → Int)} {D : List (Nat × Nat)} {J : Nat → Nat → Int} {ρ : Nat → Nat → Option Nat} {hs : Nat → Int} {z a : Nat} {w : Int} (hz : ∀ i, z ≤ i → hs i = -1) : r_FC X D J ρ hs z a w 0 22 143 (pt_E hs (pt_F hs 5)) := r_some (r_every (r_factor hz 5 (by omega)) (pt_F_ok hz 5)) (pt_jn_ok (Or.inl rfl) (by decide) (pt_F_ok hz 5))
