/-! THE REFERENCE: figures, one sign among some, words -/
theorem r_figT {X : Nat × (Nat → Int)} {D : List (Nat × Nat)} {I J : Nat → Nat → Int} {ρ : Nat → Nat → Option Nat} (d : Nat) {I0 : Nat → Nat → Int} {hs : Nat → Int} {z a p : Nat} {w e : Int} {L : List Int} (hcs : r_cs I0 I hs z a w e (p, some L))  : am_E X (d + 1) 138 0 [(0, .inr (.inr (.inl (some 107))))] [] (am_mm D I J ρ) (fun r => ∃ v K, r = (some (.inl v), am_mm D K J ρ) ∧ r_cs I0 K hs z a w e ((pt_ns hs p L)) ∧ (0 ≤ v ∧ v ≤ 99) ∧ ∀ q v2, pt_num hs p = (q, some v2) → v = v2) := by
  have h8 : I 107 8 = 0 := hcs.2.2.2.2.2.1
  have t6 : I 107 6 = (p : Int) := hcs.2.1.1
  have tb := hcs.2.1.2.2.2.2.2.2
  have tbp := tb p
  have tz := hcs.2.1.2.2.1
  have tpz : p ≤ z := hcs.2.1.2.2.2.1
  have ed : I 107 9 = e := hcs.2.2.2.2.1
  refine am_e_ss 3 (q := (5, [(0, .inr (.inr (.inl (some 107))))], [.inl ((I 107 8)), .inr (.inr (.inl (some 107)))], (am_mm D I J ρ))) rfl ?_
  refine am_e_if2 rfl ⟨by omega, by omega⟩ (fun (hw1 : ¬ (I 107 8) = 0) => ?_) (fun (hw1 : ¬ (¬ (I 107 8) = 0)) => ?_)
  · show am_E _ _ _ 22 [(0, .inr (.inr (.inl (some 107))))] [.inr (.inr (.inl (some 107)))] (am_mm D I J ρ) _
    refine am_e_ss 3 (q := (30, [(0, .inr (.inr (.inl (some 107))))], [], (am_mm D (am_up I 107 8 1) J ρ))) rfl ?_
    refine am_e_ss 6 (q := (36, [(2, .inl 0), (1, .inl 0), (0, .inr (.inr (.inl (some 107))))], [.inl 2, .inl 0], (am_mm D (am_up I 107 8 1) J ρ))) rfl ?_
    refine am_e_s (q := (39, [(2, .inl 0), (1, .inl 0), (0, .inr (.inr (.inl (some 107))))], [], (am_mm D (am_up I 107 8 1) J ρ))) rfl rfl ?_
    refine am_e_ss 2 (q := (43, [(2, .inl 0), (1, .inl 0), (0, .inr (.inr (.inl (some 107))))], [.inl 1], (am_mm D (am_up I 107 8 1) J ρ))) rfl ?_
    refine am_e_s (q := (97, [(2, .inl 0), (1, .inl 0), (0, .inr (.inr (.inl (some 107))))], [], (am_mm D (am_up I 107 8 1) J ρ))) rfl rfl ?_
    refine am_e_ss 1 (q := (98, [(2, .inl 0), (1, .inl 0), (0, .inr (.inr (.inl (some 107))))], [.inl 0], (am_mm D (am_up I 107 8 1) J ρ))) rfl ?_
    refine am_e_ireturn rfl rfl ?_
    have en : pt_num hs p = (p, none) := if_pos (by omega)
    refine ⟨_, _, rfl, ?_, ⟨by omega, by omega⟩, ?_⟩
    · unfold pt_ns; rw [en]; exact r_cs_b hcs
    · intro q v2 e2; rw [en] at e2; cases e2
  · show am_E _ _ _ 8 [(0, .inr (.inr (.inl (some 107))))] [.inr (.inr (.inl (some 107)))] (am_mm D I J ρ) _
    refine am_e_ss 1 (q := (9, [(0, .inr (.inr (.inl (some 107))))], [.inr (.inr (.inl (some 107))), .inr (.inr (.inl (some 107)))], (am_mm D I J ρ))) rfl ?_
    refine am_e_virtual (Q := fun r => r = (some (.inl ((hs p))), (am_mm D I J ρ))) rfl rfl (Nat.le_of_ble_eq_true rfl) rfl rfl (Nat.le_of_ble_eq_true rfl) (Nat.le_of_ble_eq_true rfl) (r_hereC _ hcs) ?_
    rintro r rfl
    show am_E _ _ _ 12 [(0, .inr (.inr (.inl (some 107))))] [.inl ((hs p)), .inr (.inr (.inl (some 107)))] (am_mm D I J ρ) _
    refine am_e_ss 2 (q := (16, [(0, .inr (.inr (.inl (some 107))))], [.inl 57, .inl 48, .inl ((hs p)), .inr (.inr (.inl (some 107)))], (am_mm D I J ρ))) rfl ?_
    refine am_e_static (Q := fun r => r = (some (.inl ((am_bi (48 ≤ (hs p) ∧ (hs p) ≤ 57)))), (am_mm D I J ρ))) rfl (Nat.le_of_ble_eq_true rfl) rfl (Nat.le_of_ble_eq_true rfl) (Nat.le_of_ble_eq_true rfl) (r_in _ ⟨by omega, by omega⟩ ⟨by omega, by omega⟩ ⟨by omega, by omega⟩) ?_
    rintro r rfl
    show am_E _ _ _ 19 [(0, .inr (.inr (.inl (some 107))))] [.inl ((am_bi (48 ≤ (hs p) ∧ (hs p) ≤ 57))), .inr (.inr (.inl (some 107)))] (am_mm D I J ρ) _
    refine am_e_ifne rfl (fun hw4 => ?_) (fun hw4 => ?_)
    · show am_E _ _ _ 26 [(0, .inr (.inr (.inl (some 107))))] [.inr (.inr (.inl (some 107)))] (am_mm D I J ρ) _
      refine am_e_ss 2 (q := (30, [(0, .inr (.inr (.inl (some 107))))], [], (am_mm D (am_up I 107 8 0) J ρ))) rfl ?_
      rw [show am_up I 107 8 0 = I from am_up_self h8]
      show am_E _ _ _ 30 [(0, .inr (.inr (.inl (some 107))))] [] (am_mm D I J ρ) _
      refine am_e_ss 6 (q := (36, [(2, .inl 0), (1, .inl 0), (0, .inr (.inr (.inl (some 107))))], [.inl 2, .inl 0], (am_mm D I J ρ))) rfl ?_
      refine am_e_s (q := (39, [(2, .inl 0), (1, .inl 0), (0, .inr (.inr (.inl (some 107))))], [], (am_mm D I J ρ))) rfl rfl ?_
      refine am_e_ss 2 (q := (43, [(2, .inl 0), (1, .inl 0), (0, .inr (.inr (.inl (some 107))))], [.inl ((I 107 8))], (am_mm D I J ρ))) rfl ?_
      refine am_e_if2 rfl ⟨by omega, by omega⟩ (fun (hw6 : ¬ (I 107 8) = 0) => ?_) (fun (hw6 : ¬ (¬ (I 107 8) = 0)) => ?_)
      · show am_E _ _ _ 97 [(2, .inl 0), (1, .inl 0), (0, .inr (.inr (.inl (some 107))))] [] (am_mm D I J ρ) _
        refine am_e_ss 1 (q := (98, [(2, .inl 0), (1, .inl 0), (0, .inr (.inr (.inl (some 107))))], [.inl 0], (am_mm D I J ρ))) rfl ?_
        refine am_e_ireturn rfl rfl ?_
        exfalso
        omega
      · show am_E _ _ _ 46 [(2, .inl 0), (1, .inl 0), (0, .inr (.inr (.inl (some 107))))] [] (am_mm D I J ρ) _
        refine am_e_ss 1 (q := (47, [(2, .inl 0), (1, .inl 0), (0, .inr (.inr (.inl (some 107))))], [.inr (.inr (.inl (some 107)))], (am_mm D I J ρ))) rfl ?_
        refine am_e_virtual (Q := fun r => r = (some (.inl ((hs p))), (am_mm D I J ρ))) rfl rfl (Nat.le_of_ble_eq_true rfl) rfl rfl (Nat.le_of_ble_eq_true rfl) (Nat.le_of_ble_eq_true rfl) (r_hereC _ hcs) ?_
        rintro r rfl
        show am_E _ _ _ 50 [(2, .inl 0), (1, .inl 0), (0, .inr (.inr (.inl (some 107))))] [.inl ((hs p))] (am_mm D I J ρ) _
        refine am_e_ss 2 (q := (54, [(2, .inl 0), (1, .inl 0), (0, .inr (.inr (.inl (some 107))))], [.inl 57, .inl 48, .inl ((hs p))], (am_mm D I J ρ))) rfl ?_
        refine am_e_static (Q := fun r => r = (some (.inl ((am_bi (48 ≤ (hs p) ∧ (hs p) ≤ 57)))), (am_mm D I J ρ))) rfl (Nat.le_of_ble_eq_true rfl) rfl (Nat.le_of_ble_eq_true rfl) (Nat.le_of_ble_eq_true rfl) (r_in _ ⟨by omega, by omega⟩ ⟨by omega, by omega⟩ ⟨by omega, by omega⟩) ?_
        rintro r rfl
        show am_E _ _ _ 57 [(2, .inl 0), (1, .inl 0), (0, .inr (.inr (.inl (some 107))))] [.inl ((am_bi (48 ≤ (hs p) ∧ (hs p) ≤ 57)))] (am_mm D I J ρ) _
        refine am_e_ifeq rfl (fun hw7 => ?_) (fun hw7 => ?_)
        · show am_E _ _ _ 97 [(2, .inl 0), (1, .inl 0), (0, .inr (.inr (.inl (some 107))))] [] (am_mm D I J ρ) _
          refine am_e_ss 1 (q := (98, [(2, .inl 0), (1, .inl 0), (0, .inr (.inr (.inl (some 107))))], [.inl 0], (am_mm D I J ρ))) rfl ?_
          refine am_e_ireturn rfl rfl ?_
          exfalso
          omega
        · show am_E _ _ _ 60 [(2, .inl 0), (1, .inl 0), (0, .inr (.inr (.inl (some 107))))] [] (am_mm D I J ρ) _
          refine am_e_ss 1 (q := (61, [(2, .inl 0), (1, .inl 0), (0, .inr (.inr (.inl (some 107))))], [.inl 0], (am_mm D I J ρ))) rfl ?_
          refine am_e_s (q := (68, [(2, .inl 0), (1, .inl 0), (0, .inr (.inr (.inl (some 107))))], [], (am_mm D I J ρ))) rfl rfl ?_
          refine am_e_ss 4 (q := (73, [(2, .inl 0), (1, .inl 0), (0, .inr (.inr (.inl (some 107))))], [.inr (.inr (.inl (some 107))), .inl (10 * 0)], (am_mm D I J ρ))) rfl ?_
          refine am_e_virtual (Q := fun r => r = (some (.inl ((hs p))), (am_mm D I J ρ))) rfl rfl (Nat.le_of_ble_eq_true rfl) rfl rfl (Nat.le_of_ble_eq_true rfl) (Nat.le_of_ble_eq_true rfl) (r_hereC _ hcs) ?_
          rintro r rfl
          show am_E _ _ _ 76 [(2, .inl 0), (1, .inl 0), (0, .inr (.inr (.inl (some 107))))] [.inl ((hs p)), .inl (10 * 0)] (am_mm D I J ρ) _
          refine am_e_ss 10 (q := (91, [(1, .inl (((10 * 0) + (hs p)) - 48)), (2, .inl 0), (0, .inr (.inr (.inl (some 107))))], [], (am_mm D (am_up I 107 6 ((I 107 6) + 1)) J ρ))) rfl ?_
          have u1 : I 107 6 = ((p : Nat) : Int) := hcs.2.1.1
          rw [u1]
          have g1 := r_cs_6 hcs (r_cs_lt hcs (show 0 ≤ hs (p) by omega))
          have gb1 := tb (p + 1)
          generalize am_up I 107 6 (((p : Nat) : Int) + 1) = K1 at g1 ⊢
          have k81 : K1 107 8 = 0 := g1.2.2.2.2.2.1
          show am_E _ _ _ 91 [(1, .inl (((10 * 0) + (hs p)) - 48)), (2, .inl 0), (0, .inr (.inr (.inl (some 107))))] [] (am_mm D K1 J ρ) _
          refine am_e_ss 4 (q := (36, [(2, .inl (0 + 1)), (1, .inl (((10 * 0) + (hs p)) - 48)), (0, .inr (.inr (.inl (some 107))))], [.inl 2, .inl (0 + 1)], (am_mm D K1 J ρ))) rfl ?_
          refine am_e_s (q := (39, [(2, .inl (0 + 1)), (1, .inl (((10 * 0) + (hs p)) - 48)), (0, .inr (.inr (.inl (some 107))))], [], (am_mm D K1 J ρ))) rfl rfl ?_
          refine am_e_ss 2 (q := (43, [(2, .inl (0 + 1)), (1, .inl (((10 * 0) + (hs p)) - 48)), (0, .inr (.inr (.inl (some 107))))], [.inl ((K1 107 8))], (am_mm D K1 J ρ))) rfl ?_
          refine am_e_if2 rfl ⟨by omega, by omega⟩ (fun (hw10 : ¬ (K1 107 8) = 0) => ?_) (fun (hw10 : ¬ (¬ (K1 107 8) = 0)) => ?_)
          · show am_E _ _ _ 97 [(2, .inl (0 + 1)), (1, .inl (((10 * 0) + (hs p)) - 48)), (0, .inr (.inr (.inl (some 107))))] [] (am_mm D K1 J ρ) _
            refine am_e_ss 1 (q := (98, [(2, .inl (0 + 1)), (1, .inl (((10 * 0) + (hs p)) - 48)), (0, .inr (.inr (.inl (some 107))))], [.inl (((10 * 0) + (hs p)) - 48)], (am_mm D K1 J ρ))) rfl ?_
            refine am_e_ireturn rfl rfl ?_
            have en : pt_num hs p = (p + 1, some (hs p - 48)) := by unfold pt_num; rw [if_neg (by omega), if_pos (by omega)]
            refine ⟨_, _, rfl, ?_, ⟨by omega, by omega⟩, ?_⟩
            · unfold pt_ns; rw [en]; exact g1
            · intro q v2 e2; rw [en] at e2; cases e2; omega
          · show am_E _ _ _ 46 [(2, .inl (0 + 1)), (1, .inl (((10 * 0) + (hs p)) - 48)), (0, .inr (.inr (.inl (some 107))))] [] (am_mm D K1 J ρ) _
            refine am_e_ss 1 (q := (47, [(2, .inl (0 + 1)), (1, .inl (((10 * 0) + (hs p)) - 48)), (0, .inr (.inr (.inl (some 107))))], [.inr (.inr (.inl (some 107)))], (am_mm D K1 J ρ))) rfl ?_
            refine am_e_virtual (Q := fun r => r = (some (.inl ((hs (p + 1)))), (am_mm D K1 J ρ))) rfl rfl (Nat.le_of_ble_eq_true rfl) rfl rfl (Nat.le_of_ble_eq_true rfl) (Nat.le_of_ble_eq_true rfl) (r_hereC _ g1) ?_
            rintro r rfl
            show am_E _ _ _ 50 [(2, .inl (0 + 1)), (1, .inl (((10 * 0) + (hs p)) - 48)), (0, .inr (.inr (.inl (some 107))))] [.inl ((hs (p + 1)))] (am_mm D K1 J ρ) _
            refine am_e_ss 2 (q := (54, [(2, .inl (0 + 1)), (1, .inl (((10 * 0) + (hs p)) - 48)), (0, .inr (.inr (.inl (some 107))))], [.inl 57, .inl 48, .inl ((hs (p + 1)))], (am_mm D K1 J ρ))) rfl ?_
            refine am_e_static (Q := fun r => r = (some (.inl ((am_bi (48 ≤ (hs (p + 1)) ∧ (hs (p + 1)) ≤ 57)))), (am_mm D K1 J ρ))) rfl (Nat.le_of_ble_eq_true rfl) rfl (Nat.le_of_ble_eq_true rfl) (Nat.le_of_ble_eq_true rfl) (r_in _ ⟨by omega, by omega⟩ ⟨by omega, by omega⟩ ⟨by omega, by omega⟩) ?_
            rintro r rfl
            show am_E _ _ _ 57 [(2, .inl (0 + 1)), (1, .inl (((10 * 0) + (hs p)) - 48)), (0, .inr (.inr (.inl (some 107))))] [.inl ((am_bi (48 ≤ (hs (p + 1)) ∧ (hs (p + 1)) ≤ 57)))] (am_mm D K1 J ρ) _
            refine am_e_ifeq rfl (fun hw11 => ?_) (fun hw11 => ?_)
            · show am_E _ _ _ 97 [(2, .inl (0 + 1)), (1, .inl (((10 * 0) + (hs p)) - 48)), (0, .inr (.inr (.inl (some 107))))] [] (am_mm D K1 J ρ) _
              refine am_e_ss 1 (q := (98, [(2, .inl (0 + 1)), (1, .inl (((10 * 0) + (hs p)) - 48)), (0, .inr (.inr (.inl (some 107))))], [.inl (((10 * 0) + (hs p)) - 48)], (am_mm D K1 J ρ))) rfl ?_
              refine am_e_ireturn rfl rfl ?_
              have en : pt_num hs p = (p + 1, some (hs p - 48)) := by unfold pt_num; rw [if_neg (by omega), if_pos (by omega)]
              refine ⟨_, _, rfl, ?_, ⟨by omega, by omega⟩, ?_⟩
              · unfold pt_ns; rw [en]; exact g1
              · intro q v2 e2; rw [en] at e2; cases e2; omega
            · show am_E _ _ _ 60 [(2, .inl (0 + 1)), (1, .inl (((10 * 0) + (hs p)) - 48)), (0, .inr (.inr (.inl (some 107))))] [] (am_mm D K1 J ρ) _
              refine am_e_ss 1 (q := (61, [(2, .inl (0 + 1)), (1, .inl (((10 * 0) + (hs p)) - 48)), (0, .inr (.inr (.inl (some 107))))], [.inl (0 + 1)], (am_mm D K1 J ρ))) rfl ?_
              refine am_e_s (q := (64, [(2, .inl (0 + 1)), (1, .inl (((10 * 0) + (hs p)) - 48)), (0, .inr (.inr (.inl (some 107))))], [], (am_mm D K1 J ρ))) rfl rfl ?_
              refine am_e_ss 1 (q := (65, [(2, .inl (0 + 1)), (1, .inl (((10 * 0) + (hs p)) - 48)), (0, .inr (.inr (.inl (some 107))))], [.inl (((10 * 0) + (hs p)) - 48)], (am_mm D K1 J ρ))) rfl ?_
              refine am_e_if2 rfl ⟨by omega, by omega⟩ (fun (hw13 : (((10 * 0) + (hs p)) - 48) ≤ 0) => ?_) (fun (hw13 : ¬ ((((10 * 0) + (hs p)) - 48) ≤ 0)) => ?_)
              · show am_E _ _ _ 97 [(2, .inl (0 + 1)), (1, .inl (((10 * 0) + (hs p)) - 48)), (0, .inr (.inr (.inl (some 107))))] [] (am_mm D K1 J ρ) _
                refine am_e_ss 1 (q := (98, [(2, .inl (0 + 1)), (1, .inl (((10 * 0) + (hs p)) - 48)), (0, .inr (.inr (.inl (some 107))))], [.inl (((10 * 0) + (hs p)) - 48)], (am_mm D K1 J ρ))) rfl ?_
                refine am_e_ireturn rfl rfl ?_
                have en : pt_num hs p = (p + 1, some (hs p - 48)) := by unfold pt_num; rw [if_neg (by omega), if_pos (by omega)]
                refine ⟨_, _, rfl, ?_, ⟨by omega, by omega⟩, ?_⟩
                · unfold pt_ns; rw [en]; exact g1
                · intro q v2 e2; rw [en] at e2; cases e2; omega
              · show am_E _ _ _ 68 [(2, .inl (0 + 1)), (1, .inl (((10 * 0) + (hs p)) - 48)), (0, .inr (.inr (.inl (some 107))))] [] (am_mm D K1 J ρ) _
                refine am_e_ss 4 (q := (73, [(2, .inl (0 + 1)), (1, .inl (((10 * 0) + (hs p)) - 48)), (0, .inr (.inr (.inl (some 107))))], [.inr (.inr (.inl (some 107))), .inl (10 * (((10 * 0) + (hs p)) - 48))], (am_mm D K1 J ρ))) rfl ?_
                refine am_e_virtual (Q := fun r => r = (some (.inl ((hs (p + 1)))), (am_mm D K1 J ρ))) rfl rfl (Nat.le_of_ble_eq_true rfl) rfl rfl (Nat.le_of_ble_eq_true rfl) (Nat.le_of_ble_eq_true rfl) (r_hereC _ g1) ?_
                rintro r rfl
                show am_E _ _ _ 76 [(2, .inl (0 + 1)), (1, .inl (((10 * 0) + (hs p)) - 48)), (0, .inr (.inr (.inl (some 107))))] [.inl ((hs (p + 1))), .inl (10 * (((10 * 0) + (hs p)) - 48))] (am_mm D K1 J ρ) _
                refine am_e_ss 10 (q := (91, [(1, .inl (((10 * (((10 * 0) + (hs p)) - 48)) + (hs (p + 1))) - 48)), (2, .inl (0 + 1)), (0, .inr (.inr (.inl (some 107))))], [], (am_mm D (am_up K1 107 6 ((K1 107 6) + 1)) J ρ))) rfl ?_
                have u2 : K1 107 6 = ((p + 1 : Nat) : Int) := g1.2.1.1
                rw [u2]
                have g2 := r_cs_6 g1 (r_cs_lt g1 (show 0 ≤ hs (p + 1) by omega))
                have gb2 := tb (p + 1 + 1)
                generalize am_up K1 107 6 (((p + 1 : Nat) : Int) + 1) = K2 at g2 ⊢
                have k82 : K2 107 8 = 0 := g2.2.2.2.2.2.1
                show am_E _ _ _ 91 [(1, .inl (((10 * (((10 * 0) + (hs p)) - 48)) + (hs (p + 1))) - 48)), (2, .inl (0 + 1)), (0, .inr (.inr (.inl (some 107))))] [] (am_mm D K2 J ρ) _
                refine am_e_ss 4 (q := (36, [(2, .inl ((0 + 1) + 1)), (1, .inl (((10 * (((10 * 0) + (hs p)) - 48)) + (hs (p + 1))) - 48)), (0, .inr (.inr (.inl (some 107))))], [.inl 2, .inl ((0 + 1) + 1)], (am_mm D K2 J ρ))) rfl ?_
                refine am_e_s (q := (97, [(2, .inl ((0 + 1) + 1)), (1, .inl (((10 * (((10 * 0) + (hs p)) - 48)) + (hs (p + 1))) - 48)), (0, .inr (.inr (.inl (some 107))))], [], (am_mm D K2 J ρ))) rfl rfl ?_
                refine am_e_ss 1 (q := (98, [(2, .inl ((0 + 1) + 1)), (1, .inl (((10 * (((10 * 0) + (hs p)) - 48)) + (hs (p + 1))) - 48)), (0, .inr (.inr (.inl (some 107))))], [.inl (((10 * (((10 * 0) + (hs p)) - 48)) + (hs (p + 1))) - 48)], (am_mm D K2 J ρ))) rfl ?_
                refine am_e_ireturn rfl rfl ?_
                have en : pt_num hs p = (p + 1 + 1, some ((hs p - 48) * 10 + (hs (p + 1) - 48))) := by unfold pt_num; rw [if_neg (by omega), if_neg (by omega)]
                refine ⟨_, _, rfl, ?_, ⟨by omega, by omega⟩, ?_⟩
                · unfold pt_ns; rw [en]; exact g2
                · intro q v2 e2; rw [en] at e2; cases e2; omega
    · show am_E _ _ _ 22 [(0, .inr (.inr (.inl (some 107))))] [.inr (.inr (.inl (some 107)))] (am_mm D I J ρ) _
      refine am_e_ss 3 (q := (30, [(0, .inr (.inr (.inl (some 107))))], [], (am_mm D (am_up I 107 8 1) J ρ))) rfl ?_
      refine am_e_ss 6 (q := (36, [(2, .inl 0), (1, .inl 0), (0, .inr (.inr (.inl (some 107))))], [.inl 2, .inl 0], (am_mm D (am_up I 107 8 1) J ρ))) rfl ?_
      refine am_e_s (q := (39, [(2, .inl 0), (1, .inl 0), (0, .inr (.inr (.inl (some 107))))], [], (am_mm D (am_up I 107 8 1) J ρ))) rfl rfl ?_
      refine am_e_ss 2 (q := (43, [(2, .inl 0), (1, .inl 0), (0, .inr (.inr (.inl (some 107))))], [.inl 1], (am_mm D (am_up I 107 8 1) J ρ))) rfl ?_
      refine am_e_s (q := (97, [(2, .inl 0), (1, .inl 0), (0, .inr (.inr (.inl (some 107))))], [], (am_mm D (am_up I 107 8 1) J ρ))) rfl rfl ?_
      refine am_e_ss 1 (q := (98, [(2, .inl 0), (1, .inl 0), (0, .inr (.inr (.inl (some 107))))], [.inl 0], (am_mm D (am_up I 107 8 1) J ρ))) rfl ?_
      refine am_e_ireturn rfl rfl ?_
      have en : pt_num hs p = (p, none) := if_pos (by omega)
      refine ⟨_, _, rfl, ?_, ⟨by omega, by omega⟩, ?_⟩
      · unfold pt_ns; rw [en]; exact r_cs_b hcs
      · intro q v2 e2; rw [en] at e2; cases e2
theorem r_figW {X : Nat × (Nat → Int)} {D : List (Nat × Nat)} {I J : Nat → Nat → Int} {ρ : Nat → Nat → Option Nat} (d : Nat) (h8 : I 107 8 = 1) : am_E X (d + 1) 138 0 [(0, .inr (.inr (.inl (some 107))))] [] (am_mm D I J ρ) (fun r => r = (some (.inl 0), (am_mm D I J ρ))) := by
  refine am_e_ss 3 (q := (5, [(0, .inr (.inr (.inl (some 107))))], [.inl ((I 107 8)), .inr (.inr (.inl (some 107)))], (am_mm D I J ρ))) rfl ?_
  refine am_e_if2 rfl ⟨by omega, by omega⟩ (fun (hw1 : ¬ (I 107 8) = 0) => ?_) (fun (hw1 : ¬ (¬ (I 107 8) = 0)) => ?_)
  · show am_E _ _ _ 22 [(0, .inr (.inr (.inl (some 107))))] [.inr (.inr (.inl (some 107)))] (am_mm D I J ρ) _
    refine am_e_ss 9 (q := (36, [(2, .inl 0), (1, .inl 0), (0, .inr (.inr (.inl (some 107))))], [.inl 2, .inl 0], (am_mm D (am_up I 107 8 1) J ρ))) rfl ?_
    refine am_e_s (q := (39, [(2, .inl 0), (1, .inl 0), (0, .inr (.inr (.inl (some 107))))], [], (am_mm D (am_up I 107 8 1) J ρ))) rfl rfl ?_
    refine am_e_ss 2 (q := (43, [(2, .inl 0), (1, .inl 0), (0, .inr (.inr (.inl (some 107))))], [.inl 1], (am_mm D (am_up I 107 8 1) J ρ))) rfl ?_
    refine am_e_s (q := (97, [(2, .inl 0), (1, .inl 0), (0, .inr (.inr (.inl (some 107))))], [], (am_mm D (am_up I 107 8 1) J ρ))) rfl rfl ?_
    refine am_e_ss 1 (q := (98, [(2, .inl 0), (1, .inl 0), (0, .inr (.inr (.inl (some 107))))], [.inl 0], (am_mm D (am_up I 107 8 1) J ρ))) rfl ?_
    refine am_e_ireturn rfl rfl ?_
    rw [am_up_self h8]
  · show am_E _ _ _ 8 [(0, .inr (.inr (.inl (some 107))))] [.inr (.inr (.inl (some 107)))] (am_mm D I J ρ) _
    exfalso
    omega
theorem r_figC {X : Nat × (Nat → Int)} {D : List (Nat × Nat)} {I J : Nat → Nat → Int} {ρ : Nat → Nat → Option Nat} (d : Nat) {I0 : Nat → Nat → Int} {hs : Nat → Int} {z a : Nat} {w e : Int} {R : pt_R} (hcs : r_cs I0 I hs z a w e R) : am_E X (d + 1) 138 0 [(0, .inr (.inr (.inl (some 107))))] [] (am_mm D I J ρ) (fun r => ∃ v K, r = (some (.inl v), am_mm D K J ρ) ∧ r_cs I0 K hs z a w e ((pt_bd R (fun p L => pt_ns hs p L))) ∧ (0 ≤ v ∧ v ≤ 99) ∧ ∀ p L q v2, R = (p, some L) → pt_num hs p = (q, some v2) → v = v2) := by
  obtain ⟨p, _ | L⟩ := R
  · exact (r_figW d hcs.2.2.2.2.2.1).imp (fun r h => ⟨0, I, h, hcs, by omega, fun p2 L2 q v e _ => by cases e⟩)
  · refine (r_figT d hcs).imp (fun r h => ?_)
    obtain ⟨v, K, h1, h2, h3, h4⟩ := h
    exact ⟨v, K, h1, h2, h3, fun p2 L2 q v2 e => by cases e; exact h4 q v2⟩
theorem r_wh {X : Nat × (Nat → Int)} {D : List (Nat × Nat)} {I J : Nat → Nat → Int} {ρ : Nat → Nat → Option Nat} (d : Nat) {I0 : Nat → Nat → Int} {hs : Nat → Int} {z a p : Nat} {w e : Int} {L : List Int} (hcs : r_cs I0 I hs z a w e (p, some L))  : am_E X (d + 4) 139 0 [(0, .inr (.inr (.inl (some 107)))), (1, .inr (.inr (.inr 9)))] [] (am_mm D I J ρ) (fun r => ∃ K, r = (some (.inl (pt_wh (hs p))), am_mm D K J ρ) ∧ r_cs I0 K hs z a w e ((if pt_wh (hs p) = -1 then p else p + 1, some L))) := by
  have h8 : I 107 8 = 0 := hcs.2.2.2.2.2.1
  have t6 : I 107 6 = (p : Int) := hcs.2.1.1
  have tb := hcs.2.1.2.2.2.2.2.2
  have tbp := tb p
  have tz := hcs.2.1.2.2.1
  have tpz : p ≤ z := hcs.2.1.2.2.2.1
  have ed : I 107 9 = e := hcs.2.2.2.2.1
  refine am_e_ss 4 (q := (4, [(2, .inl 0), (0, .inr (.inr (.inl (some 107)))), (1, .inr (.inr (.inr 9)))], [.inr (.inr (.inr 9)), .inl 0], (am_mm D I J ρ))) rfl ?_
  refine am_e_virtual (Q := fun r => r = (some (.inl 6), (am_mm D I J ρ))) rfl rfl (Nat.le_of_ble_eq_true rfl) rfl rfl (Nat.le_of_ble_eq_true rfl) (Nat.le_of_ble_eq_true rfl) (am_len_4 _) ?_
  rintro r rfl
  show am_E _ _ _ 7 [(2, .inl 0), (0, .inr (.inr (.inl (some 107)))), (1, .inr (.inr (.inr 9)))] [.inl 6, .inl 0] (am_mm D I J ρ) _
  refine am_e_s (q := (10, [(2, .inl 0), (0, .inr (.inr (.inl (some 107)))), (1, .inr (.inr (.inr 9)))], [], (am_mm D I J ρ))) rfl rfl ?_
  refine am_e_ss 1 (q := (11, [(2, .inl 0), (0, .inr (.inr (.inl (some 107)))), (1, .inr (.inr (.inr 9)))], [.inr (.inr (.inl (some 107)))], (am_mm D I J ρ))) rfl ?_
  refine am_e_virtual (Q := fun r => r = (some (.inl ((hs p))), (am_mm D I J ρ))) rfl rfl (Nat.le_of_ble_eq_true rfl) rfl rfl (Nat.le_of_ble_eq_true rfl) (Nat.le_of_ble_eq_true rfl) (r_hereC _ hcs) ?_
  rintro r rfl
  show am_E _ _ _ 14 [(2, .inl 0), (0, .inr (.inr (.inl (some 107)))), (1, .inr (.inr (.inr 9)))] [.inl ((hs p))] (am_mm D I J ρ) _
  refine am_e_ss 2 (q := (16, [(2, .inl 0), (0, .inr (.inr (.inl (some 107)))), (1, .inr (.inr (.inr 9)))], [.inl 0, .inr (.inr (.inr 9)), .inl ((hs p))], (am_mm D I J ρ))) rfl ?_
  refine am_e_virtual (Q := fun r => r = (some (.inl 109), (am_mm D I J ρ))) rfl rfl (Nat.le_of_ble_eq_true rfl) rfl rfl (Nat.le_of_ble_eq_true rfl) (Nat.le_of_ble_eq_true rfl) (am_chr_4_0 _) ?_
  rintro r rfl
  show am_E _ _ _ 19 [(2, .inl 0), (0, .inr (.inr (.inl (some 107)))), (1, .inr (.inr (.inr 9)))] [.inl 109, .inl ((hs p))] (am_mm D I J ρ) _
  refine am_e_icmp2 rfl ⟨by omega, by omega⟩ ⟨by omega, by omega⟩ (fun (hw2 : ¬ (hs p) = 109) => ?_) (fun (hw2 : ¬ (¬ (hs p) = 109)) => ?_)
  · show am_E _ _ _ 34 [(2, .inl 0), (0, .inr (.inr (.inl (some 107)))), (1, .inr (.inr (.inr 9)))] [] (am_mm D I J ρ) _
    refine am_e_ss 4 (q := (4, [(2, .inl (0 + 1)), (0, .inr (.inr (.inl (some 107)))), (1, .inr (.inr (.inr 9)))], [.inr (.inr (.inr 9)), .inl (0 + 1)], (am_mm D I J ρ))) rfl ?_
    refine am_e_virtual (Q := fun r => r = (some (.inl 6), (am_mm D I J ρ))) rfl rfl (Nat.le_of_ble_eq_true rfl) rfl rfl (Nat.le_of_ble_eq_true rfl) (Nat.le_of_ble_eq_true rfl) (am_len_4 _) ?_
    rintro r rfl
    show am_E _ _ _ 7 [(2, .inl (0 + 1)), (0, .inr (.inr (.inl (some 107)))), (1, .inr (.inr (.inr 9)))] [.inl 6, .inl (0 + 1)] (am_mm D I J ρ) _
    refine am_e_s (q := (10, [(2, .inl (0 + 1)), (0, .inr (.inr (.inl (some 107)))), (1, .inr (.inr (.inr 9)))], [], (am_mm D I J ρ))) rfl rfl ?_
    refine am_e_ss 1 (q := (11, [(2, .inl (0 + 1)), (0, .inr (.inr (.inl (some 107)))), (1, .inr (.inr (.inr 9)))], [.inr (.inr (.inl (some 107)))], (am_mm D I J ρ))) rfl ?_
    refine am_e_virtual (Q := fun r => r = (some (.inl ((hs p))), (am_mm D I J ρ))) rfl rfl (Nat.le_of_ble_eq_true rfl) rfl rfl (Nat.le_of_ble_eq_true rfl) (Nat.le_of_ble_eq_true rfl) (r_hereC _ hcs) ?_
    rintro r rfl
    show am_E _ _ _ 14 [(2, .inl (0 + 1)), (0, .inr (.inr (.inl (some 107)))), (1, .inr (.inr (.inr 9)))] [.inl ((hs p))] (am_mm D I J ρ) _
    refine am_e_ss 2 (q := (16, [(2, .inl (0 + 1)), (0, .inr (.inr (.inl (some 107)))), (1, .inr (.inr (.inr 9)))], [.inl (0 + 1), .inr (.inr (.inr 9)), .inl ((hs p))], (am_mm D I J ρ))) rfl ?_
    refine am_e_virtual (Q := fun r => r = (some (.inl 107), (am_mm D I J ρ))) rfl rfl (Nat.le_of_ble_eq_true rfl) rfl rfl (Nat.le_of_ble_eq_true rfl) (Nat.le_of_ble_eq_true rfl) (am_chr_4_1 _) ?_
    rintro r rfl
    show am_E _ _ _ 19 [(2, .inl (0 + 1)), (0, .inr (.inr (.inl (some 107)))), (1, .inr (.inr (.inr 9)))] [.inl 107, .inl ((hs p))] (am_mm D I J ρ) _
    refine am_e_icmp2 rfl ⟨by omega, by omega⟩ ⟨by omega, by omega⟩ (fun (hw4 : ¬ (hs p) = 107) => ?_) (fun (hw4 : ¬ (¬ (hs p) = 107)) => ?_)
    · show am_E _ _ _ 34 [(2, .inl (0 + 1)), (0, .inr (.inr (.inl (some 107)))), (1, .inr (.inr (.inr 9)))] [] (am_mm D I J ρ) _
      refine am_e_ss 4 (q := (4, [(2, .inl ((0 + 1) + 1)), (0, .inr (.inr (.inl (some 107)))), (1, .inr (.inr (.inr 9)))], [.inr (.inr (.inr 9)), .inl ((0 + 1) + 1)], (am_mm D I J ρ))) rfl ?_
      refine am_e_virtual (Q := fun r => r = (some (.inl 6), (am_mm D I J ρ))) rfl rfl (Nat.le_of_ble_eq_true rfl) rfl rfl (Nat.le_of_ble_eq_true rfl) (Nat.le_of_ble_eq_true rfl) (am_len_4 _) ?_
      rintro r rfl
      show am_E _ _ _ 7 [(2, .inl ((0 + 1) + 1)), (0, .inr (.inr (.inl (some 107)))), (1, .inr (.inr (.inr 9)))] [.inl 6, .inl ((0 + 1) + 1)] (am_mm D I J ρ) _
      refine am_e_s (q := (10, [(2, .inl ((0 + 1) + 1)), (0, .inr (.inr (.inl (some 107)))), (1, .inr (.inr (.inr 9)))], [], (am_mm D I J ρ))) rfl rfl ?_
      refine am_e_ss 1 (q := (11, [(2, .inl ((0 + 1) + 1)), (0, .inr (.inr (.inl (some 107)))), (1, .inr (.inr (.inr 9)))], [.inr (.inr (.inl (some 107)))], (am_mm D I J ρ))) rfl ?_
      refine am_e_virtual (Q := fun r => r = (some (.inl ((hs p))), (am_mm D I J ρ))) rfl rfl (Nat.le_of_ble_eq_true rfl) rfl rfl (Nat.le_of_ble_eq_true rfl) (Nat.le_of_ble_eq_true rfl) (r_hereC _ hcs) ?_
      rintro r rfl
      show am_E _ _ _ 14 [(2, .inl ((0 + 1) + 1)), (0, .inr (.inr (.inl (some 107)))), (1, .inr (.inr (.inr 9)))] [.inl ((hs p))] (am_mm D I J ρ) _
      refine am_e_ss 2 (q := (16, [(2, .inl ((0 + 1) + 1)), (0, .inr (.inr (.inl (some 107)))), (1, .inr (.inr (.inr 9)))], [.inl ((0 + 1) + 1), .inr (.inr (.inr 9)), .inl ((hs p))], (am_mm D I J ρ))) rfl ?_
      refine am_e_virtual (Q := fun r => r = (some (.inl 98), (am_mm D I J ρ))) rfl rfl (Nat.le_of_ble_eq_true rfl) rfl rfl (Nat.le_of_ble_eq_true rfl) (Nat.le_of_ble_eq_true rfl) (am_chr_4_2 _) ?_
      rintro r rfl
      show am_E _ _ _ 19 [(2, .inl ((0 + 1) + 1)), (0, .inr (.inr (.inl (some 107)))), (1, .inr (.inr (.inr 9)))] [.inl 98, .inl ((hs p))] (am_mm D I J ρ) _
      refine am_e_icmp2 rfl ⟨by omega, by omega⟩ ⟨by omega, by omega⟩ (fun (hw6 : ¬ (hs p) = 98) => ?_) (fun (hw6 : ¬ (¬ (hs p) = 98)) => ?_)
      · show am_E _ _ _ 34 [(2, .inl ((0 + 1) + 1)), (0, .inr (.inr (.inl (some 107)))), (1, .inr (.inr (.inr 9)))] [] (am_mm D I J ρ) _
        refine am_e_ss 4 (q := (4, [(2, .inl (((0 + 1) + 1) + 1)), (0, .inr (.inr (.inl (some 107)))), (1, .inr (.inr (.inr 9)))], [.inr (.inr (.inr 9)), .inl (((0 + 1) + 1) + 1)], (am_mm D I J ρ))) rfl ?_
        refine am_e_virtual (Q := fun r => r = (some (.inl 6), (am_mm D I J ρ))) rfl rfl (Nat.le_of_ble_eq_true rfl) rfl rfl (Nat.le_of_ble_eq_true rfl) (Nat.le_of_ble_eq_true rfl) (am_len_4 _) ?_
        rintro r rfl
        show am_E _ _ _ 7 [(2, .inl (((0 + 1) + 1) + 1)), (0, .inr (.inr (.inl (some 107)))), (1, .inr (.inr (.inr 9)))] [.inl 6, .inl (((0 + 1) + 1) + 1)] (am_mm D I J ρ) _
        refine am_e_s (q := (10, [(2, .inl (((0 + 1) + 1) + 1)), (0, .inr (.inr (.inl (some 107)))), (1, .inr (.inr (.inr 9)))], [], (am_mm D I J ρ))) rfl rfl ?_
        refine am_e_ss 1 (q := (11, [(2, .inl (((0 + 1) + 1) + 1)), (0, .inr (.inr (.inl (some 107)))), (1, .inr (.inr (.inr 9)))], [.inr (.inr (.inl (some 107)))], (am_mm D I J ρ))) rfl ?_
        refine am_e_virtual (Q := fun r => r = (some (.inl ((hs p))), (am_mm D I J ρ))) rfl rfl (Nat.le_of_ble_eq_true rfl) rfl rfl (Nat.le_of_ble_eq_true rfl) (Nat.le_of_ble_eq_true rfl) (r_hereC _ hcs) ?_
        rintro r rfl
        show am_E _ _ _ 14 [(2, .inl (((0 + 1) + 1) + 1)), (0, .inr (.inr (.inl (some 107)))), (1, .inr (.inr (.inr 9)))] [.inl ((hs p))] (am_mm D I J ρ) _
        refine am_e_ss 2 (q := (16, [(2, .inl (((0 + 1) + 1) + 1)), (0, .inr (.inr (.inl (some 107)))), (1, .inr (.inr (.inr 9)))], [.inl (((0 + 1) + 1) + 1), .inr (.inr (.inr 9)), .inl ((hs p))], (am_mm D I J ρ))) rfl ?_
        refine am_e_virtual (Q := fun r => r = (some (.inl 112), (am_mm D I J ρ))) rfl rfl (Nat.le_of_ble_eq_true rfl) rfl rfl (Nat.le_of_ble_eq_true rfl) (Nat.le_of_ble_eq_true rfl) (am_chr_4_3 _) ?_
        rintro r rfl
        show am_E _ _ _ 19 [(2, .inl (((0 + 1) + 1) + 1)), (0, .inr (.inr (.inl (some 107)))), (1, .inr (.inr (.inr 9)))] [.inl 112, .inl ((hs p))] (am_mm D I J ρ) _
        refine am_e_icmp2 rfl ⟨by omega, by omega⟩ ⟨by omega, by omega⟩ (fun (hw8 : ¬ (hs p) = 112) => ?_) (fun (hw8 : ¬ (¬ (hs p) = 112)) => ?_)
        · show am_E _ _ _ 34 [(2, .inl (((0 + 1) + 1) + 1)), (0, .inr (.inr (.inl (some 107)))), (1, .inr (.inr (.inr 9)))] [] (am_mm D I J ρ) _
          refine am_e_ss 4 (q := (4, [(2, .inl ((((0 + 1) + 1) + 1) + 1)), (0, .inr (.inr (.inl (some 107)))), (1, .inr (.inr (.inr 9)))], [.inr (.inr (.inr 9)), .inl ((((0 + 1) + 1) + 1) + 1)], (am_mm D I J ρ))) rfl ?_
          refine am_e_virtual (Q := fun r => r = (some (.inl 6), (am_mm D I J ρ))) rfl rfl (Nat.le_of_ble_eq_true rfl) rfl rfl (Nat.le_of_ble_eq_true rfl) (Nat.le_of_ble_eq_true rfl) (am_len_4 _) ?_
          rintro r rfl
          show am_E _ _ _ 7 [(2, .inl ((((0 + 1) + 1) + 1) + 1)), (0, .inr (.inr (.inl (some 107)))), (1, .inr (.inr (.inr 9)))] [.inl 6, .inl ((((0 + 1) + 1) + 1) + 1)] (am_mm D I J ρ) _
          refine am_e_s (q := (10, [(2, .inl ((((0 + 1) + 1) + 1) + 1)), (0, .inr (.inr (.inl (some 107)))), (1, .inr (.inr (.inr 9)))], [], (am_mm D I J ρ))) rfl rfl ?_
          refine am_e_ss 1 (q := (11, [(2, .inl ((((0 + 1) + 1) + 1) + 1)), (0, .inr (.inr (.inl (some 107)))), (1, .inr (.inr (.inr 9)))], [.inr (.inr (.inl (some 107)))], (am_mm D I J ρ))) rfl ?_
          refine am_e_virtual (Q := fun r => r = (some (.inl ((hs p))), (am_mm D I J ρ))) rfl rfl (Nat.le_of_ble_eq_true rfl) rfl rfl (Nat.le_of_ble_eq_true rfl) (Nat.le_of_ble_eq_true rfl) (r_hereC _ hcs) ?_
          rintro r rfl
          show am_E _ _ _ 14 [(2, .inl ((((0 + 1) + 1) + 1) + 1)), (0, .inr (.inr (.inl (some 107)))), (1, .inr (.inr (.inr 9)))] [.inl ((hs p))] (am_mm D I J ρ) _
          refine am_e_ss 2 (q := (16, [(2, .inl ((((0 + 1) + 1) + 1) + 1)), (0, .inr (.inr (.inl (some 107)))), (1, .inr (.inr (.inr 9)))], [.inl ((((0 + 1) + 1) + 1) + 1), .inr (.inr (.inr 9)), .inl ((hs p))], (am_mm D I J ρ))) rfl ?_
          refine am_e_virtual (Q := fun r => r = (some (.inl 111), (am_mm D I J ρ))) rfl rfl (Nat.le_of_ble_eq_true rfl) rfl rfl (Nat.le_of_ble_eq_true rfl) (Nat.le_of_ble_eq_true rfl) (am_chr_4_4 _) ?_
          rintro r rfl
          show am_E _ _ _ 19 [(2, .inl ((((0 + 1) + 1) + 1) + 1)), (0, .inr (.inr (.inl (some 107)))), (1, .inr (.inr (.inr 9)))] [.inl 111, .inl ((hs p))] (am_mm D I J ρ) _
          refine am_e_icmp2 rfl ⟨by omega, by omega⟩ ⟨by omega, by omega⟩ (fun (hw10 : ¬ (hs p) = 111) => ?_) (fun (hw10 : ¬ (¬ (hs p) = 111)) => ?_)
          · show am_E _ _ _ 34 [(2, .inl ((((0 + 1) + 1) + 1) + 1)), (0, .inr (.inr (.inl (some 107)))), (1, .inr (.inr (.inr 9)))] [] (am_mm D I J ρ) _
            refine am_e_ss 4 (q := (4, [(2, .inl (((((0 + 1) + 1) + 1) + 1) + 1)), (0, .inr (.inr (.inl (some 107)))), (1, .inr (.inr (.inr 9)))], [.inr (.inr (.inr 9)), .inl (((((0 + 1) + 1) + 1) + 1) + 1)], (am_mm D I J ρ))) rfl ?_
            refine am_e_virtual (Q := fun r => r = (some (.inl 6), (am_mm D I J ρ))) rfl rfl (Nat.le_of_ble_eq_true rfl) rfl rfl (Nat.le_of_ble_eq_true rfl) (Nat.le_of_ble_eq_true rfl) (am_len_4 _) ?_
            rintro r rfl
            show am_E _ _ _ 7 [(2, .inl (((((0 + 1) + 1) + 1) + 1) + 1)), (0, .inr (.inr (.inl (some 107)))), (1, .inr (.inr (.inr 9)))] [.inl 6, .inl (((((0 + 1) + 1) + 1) + 1) + 1)] (am_mm D I J ρ) _
            refine am_e_s (q := (10, [(2, .inl (((((0 + 1) + 1) + 1) + 1) + 1)), (0, .inr (.inr (.inl (some 107)))), (1, .inr (.inr (.inr 9)))], [], (am_mm D I J ρ))) rfl rfl ?_
            refine am_e_ss 1 (q := (11, [(2, .inl (((((0 + 1) + 1) + 1) + 1) + 1)), (0, .inr (.inr (.inl (some 107)))), (1, .inr (.inr (.inr 9)))], [.inr (.inr (.inl (some 107)))], (am_mm D I J ρ))) rfl ?_
            refine am_e_virtual (Q := fun r => r = (some (.inl ((hs p))), (am_mm D I J ρ))) rfl rfl (Nat.le_of_ble_eq_true rfl) rfl rfl (Nat.le_of_ble_eq_true rfl) (Nat.le_of_ble_eq_true rfl) (r_hereC _ hcs) ?_
            rintro r rfl
            show am_E _ _ _ 14 [(2, .inl (((((0 + 1) + 1) + 1) + 1) + 1)), (0, .inr (.inr (.inl (some 107)))), (1, .inr (.inr (.inr 9)))] [.inl ((hs p))] (am_mm D I J ρ) _
            refine am_e_ss 2 (q := (16, [(2, .inl (((((0 + 1) + 1) + 1) + 1) + 1)), (0, .inr (.inr (.inl (some 107)))), (1, .inr (.inr (.inr 9)))], [.inl (((((0 + 1) + 1) + 1) + 1) + 1), .inr (.inr (.inr 9)), .inl ((hs p))], (am_mm D I J ρ))) rfl ?_
            refine am_e_virtual (Q := fun r => r = (some (.inl 115), (am_mm D I J ρ))) rfl rfl (Nat.le_of_ble_eq_true rfl) rfl rfl (Nat.le_of_ble_eq_true rfl) (Nat.le_of_ble_eq_true rfl) (am_chr_4_5 _) ?_
            rintro r rfl
            show am_E _ _ _ 19 [(2, .inl (((((0 + 1) + 1) + 1) + 1) + 1)), (0, .inr (.inr (.inl (some 107)))), (1, .inr (.inr (.inr 9)))] [.inl 115, .inl ((hs p))] (am_mm D I J ρ) _
            refine am_e_icmp2 rfl ⟨by omega, by omega⟩ ⟨by omega, by omega⟩ (fun (hw12 : ¬ (hs p) = 115) => ?_) (fun (hw12 : ¬ (¬ (hs p) = 115)) => ?_)
            · show am_E _ _ _ 34 [(2, .inl (((((0 + 1) + 1) + 1) + 1) + 1)), (0, .inr (.inr (.inl (some 107)))), (1, .inr (.inr (.inr 9)))] [] (am_mm D I J ρ) _
              refine am_e_ss 4 (q := (4, [(2, .inl ((((((0 + 1) + 1) + 1) + 1) + 1) + 1)), (0, .inr (.inr (.inl (some 107)))), (1, .inr (.inr (.inr 9)))], [.inr (.inr (.inr 9)), .inl ((((((0 + 1) + 1) + 1) + 1) + 1) + 1)], (am_mm D I J ρ))) rfl ?_
              refine am_e_virtual (Q := fun r => r = (some (.inl 6), (am_mm D I J ρ))) rfl rfl (Nat.le_of_ble_eq_true rfl) rfl rfl (Nat.le_of_ble_eq_true rfl) (Nat.le_of_ble_eq_true rfl) (am_len_4 _) ?_
              rintro r rfl
              show am_E _ _ _ 7 [(2, .inl ((((((0 + 1) + 1) + 1) + 1) + 1) + 1)), (0, .inr (.inr (.inl (some 107)))), (1, .inr (.inr (.inr 9)))] [.inl 6, .inl ((((((0 + 1) + 1) + 1) + 1) + 1) + 1)] (am_mm D I J ρ) _
              refine am_e_s (q := (40, [(2, .inl ((((((0 + 1) + 1) + 1) + 1) + 1) + 1)), (0, .inr (.inr (.inl (some 107)))), (1, .inr (.inr (.inr 9)))], [], (am_mm D I J ρ))) rfl rfl ?_
              refine am_e_ss 1 (q := (41, [(2, .inl ((((((0 + 1) + 1) + 1) + 1) + 1) + 1)), (0, .inr (.inr (.inl (some 107)))), (1, .inr (.inr (.inr 9)))], [.inl (-1)], (am_mm D I J ρ))) rfl ?_
              refine am_e_ireturn rfl rfl ?_
              have ev : pt_wh (hs p) = -1 := by
                unfold pt_wh
                (repeat' split) <;> omega
              rw [ev]
              exact ⟨_, rfl, hcs⟩
            · show am_E _ _ _ 22 [(2, .inl (((((0 + 1) + 1) + 1) + 1) + 1)), (0, .inr (.inr (.inl (some 107)))), (1, .inr (.inr (.inr 9)))] [] (am_mm D I J ρ) _
              refine am_e_ss 6 (q := (32, [(2, .inl (((((0 + 1) + 1) + 1) + 1) + 1)), (0, .inr (.inr (.inl (some 107)))), (1, .inr (.inr (.inr 9)))], [], (am_mm D (am_up I 107 6 ((I 107 6) + 1)) J ρ))) rfl ?_
              have u3 : I 107 6 = ((p : Nat) : Int) := hcs.2.1.1
              rw [u3]
              have g3 := r_cs_6 hcs (r_cs_lt hcs (show 0 ≤ hs (p) by omega))
              have gb3 := tb (p + 1)
              generalize am_up I 107 6 (((p : Nat) : Int) + 1) = K3 at g3 ⊢
              have k83 : K3 107 8 = 0 := g3.2.2.2.2.2.1
              show am_E _ _ _ 32 [(2, .inl (((((0 + 1) + 1) + 1) + 1) + 1)), (0, .inr (.inr (.inl (some 107)))), (1, .inr (.inr (.inr 9)))] [] (am_mm D K3 J ρ) _
              refine am_e_ss 1 (q := (33, [(2, .inl (((((0 + 1) + 1) + 1) + 1) + 1)), (0, .inr (.inr (.inl (some 107)))), (1, .inr (.inr (.inr 9)))], [.inl (((((0 + 1) + 1) + 1) + 1) + 1)], (am_mm D K3 J ρ))) rfl ?_
              refine am_e_ireturn rfl rfl ?_
              have ev : pt_wh (hs p) = 5 := by
                unfold pt_wh
                (repeat' split) <;> omega
              rw [ev]
              exact ⟨_, rfl, g3⟩
          · show am_E _ _ _ 22 [(2, .inl ((((0 + 1) + 1) + 1) + 1)), (0, .inr (.inr (.inl (some 107)))), (1, .inr (.inr (.inr 9)))] [] (am_mm D I J ρ) _
            refine am_e_ss 6 (q := (32, [(2, .inl ((((0 + 1) + 1) + 1) + 1)), (0, .inr (.inr (.inl (some 107)))), (1, .inr (.inr (.inr 9)))], [], (am_mm D (am_up I 107 6 ((I 107 6) + 1)) J ρ))) rfl ?_
            have u4 : I 107 6 = ((p : Nat) : Int) := hcs.2.1.1
            rw [u4]
            have g4 := r_cs_6 hcs (r_cs_lt hcs (show 0 ≤ hs (p) by omega))
            have gb4 := tb (p + 1)
            generalize am_up I 107 6 (((p : Nat) : Int) + 1) = K4 at g4 ⊢
            have k84 : K4 107 8 = 0 := g4.2.2.2.2.2.1
            show am_E _ _ _ 32 [(2, .inl ((((0 + 1) + 1) + 1) + 1)), (0, .inr (.inr (.inl (some 107)))), (1, .inr (.inr (.inr 9)))] [] (am_mm D K4 J ρ) _
            refine am_e_ss 1 (q := (33, [(2, .inl ((((0 + 1) + 1) + 1) + 1)), (0, .inr (.inr (.inl (some 107)))), (1, .inr (.inr (.inr 9)))], [.inl ((((0 + 1) + 1) + 1) + 1)], (am_mm D K4 J ρ))) rfl ?_
            refine am_e_ireturn rfl rfl ?_
            have ev : pt_wh (hs p) = 4 := by
              unfold pt_wh
              (repeat' split) <;> omega
            rw [ev]
            exact ⟨_, rfl, g4⟩
        · show am_E _ _ _ 22 [(2, .inl (((0 + 1) + 1) + 1)), (0, .inr (.inr (.inl (some 107)))), (1, .inr (.inr (.inr 9)))] [] (am_mm D I J ρ) _
          refine am_e_ss 6 (q := (32, [(2, .inl (((0 + 1) + 1) + 1)), (0, .inr (.inr (.inl (some 107)))), (1, .inr (.inr (.inr 9)))], [], (am_mm D (am_up I 107 6 ((I 107 6) + 1)) J ρ))) rfl ?_
          have u5 : I 107 6 = ((p : Nat) : Int) := hcs.2.1.1
          rw [u5]
          have g5 := r_cs_6 hcs (r_cs_lt hcs (show 0 ≤ hs (p) by omega))
          have gb5 := tb (p + 1)
          generalize am_up I 107 6 (((p : Nat) : Int) + 1) = K5 at g5 ⊢
          have k85 : K5 107 8 = 0 := g5.2.2.2.2.2.1
          show am_E _ _ _ 32 [(2, .inl (((0 + 1) + 1) + 1)), (0, .inr (.inr (.inl (some 107)))), (1, .inr (.inr (.inr 9)))] [] (am_mm D K5 J ρ) _
          refine am_e_ss 1 (q := (33, [(2, .inl (((0 + 1) + 1) + 1)), (0, .inr (.inr (.inl (some 107)))), (1, .inr (.inr (.inr 9)))], [.inl (((0 + 1) + 1) + 1)], (am_mm D K5 J ρ))) rfl ?_
          refine am_e_ireturn rfl rfl ?_
          have ev : pt_wh (hs p) = 3 := by
            unfold pt_wh
            (repeat' split) <;> omega
          rw [ev]
          exact ⟨_, rfl, g5⟩
      · show am_E _ _ _ 22 [(2, .inl ((0 + 1) + 1)), (0, .inr (.inr (.inl (some 107)))), (1, .inr (.inr (.inr 9)))] [] (am_mm D I J ρ) _
        refine am_e_ss 6 (q := (32, [(2, .inl ((0 + 1) + 1)), (0, .inr (.inr (.inl (some 107)))), (1, .inr (.inr (.inr 9)))], [], (am_mm D (am_up I 107 6 ((I 107 6) + 1)) J ρ))) rfl ?_
        have u6 : I 107 6 = ((p : Nat) : Int) := hcs.2.1.1
        rw [u6]
        have g6 := r_cs_6 hcs (r_cs_lt hcs (show 0 ≤ hs (p) by omega))
        have gb6 := tb (p + 1)
        generalize am_up I 107 6 (((p : Nat) : Int) + 1) = K6 at g6 ⊢
        have k86 : K6 107 8 = 0 := g6.2.2.2.2.2.1
        show am_E _ _ _ 32 [(2, .inl ((0 + 1) + 1)), (0, .inr (.inr (.inl (some 107)))), (1, .inr (.inr (.inr 9)))] [] (am_mm D K6 J ρ) _
        refine am_e_ss 1 (q := (33, [(2, .inl ((0 + 1) + 1)), (0, .inr (.inr (.inl (some 107)))), (1, .inr (.inr (.inr 9)))], [.inl ((0 + 1) + 1)], (am_mm D K6 J ρ))) rfl ?_
        refine am_e_ireturn rfl rfl ?_
        have ev : pt_wh (hs p) = 2 := by
          unfold pt_wh
          (repeat' split) <;> omega
        rw [ev]
        exact ⟨_, rfl, g6⟩
    · show am_E _ _ _ 22 [(2, .inl (0 + 1)), (0, .inr (.inr (.inl (some 107)))), (1, .inr (.inr (.inr 9)))] [] (am_mm D I J ρ) _
      refine am_e_ss 6 (q := (32, [(2, .inl (0 + 1)), (0, .inr (.inr (.inl (some 107)))), (1, .inr (.inr (.inr 9)))], [], (am_mm D (am_up I 107 6 ((I 107 6) + 1)) J ρ))) rfl ?_
      have u7 : I 107 6 = ((p : Nat) : Int) := hcs.2.1.1
      rw [u7]
      have g7 := r_cs_6 hcs (r_cs_lt hcs (show 0 ≤ hs (p) by omega))
      have gb7 := tb (p + 1)
      generalize am_up I 107 6 (((p : Nat) : Int) + 1) = K7 at g7 ⊢
      have k87 : K7 107 8 = 0 := g7.2.2.2.2.2.1
      show am_E _ _ _ 32 [(2, .inl (0 + 1)), (0, .inr (.inr (.inl (some 107)))), (1, .inr (.inr (.inr 9)))] [] (am_mm D K7 J ρ) _
      refine am_e_ss 1 (q := (33, [(2, .inl (0 + 1)), (0, .inr (.inr (.inl (some 107)))), (1, .inr (.inr (.inr 9)))], [.inl (0 + 1)], (am_mm D K7 J ρ))) rfl ?_
      refine am_e_ireturn rfl rfl ?_
      have ev : pt_wh (hs p) = 1 := by
        unfold pt_wh
        (repeat' split) <;> omega
      rw [ev]
      exact ⟨_, rfl, g7⟩
  · show am_E _ _ _ 22 [(2, .inl 0), (0, .inr (.inr (.inl (some 107)))), (1, .inr (.inr (.inr 9)))] [] (am_mm D I J ρ) _
    refine am_e_ss 6 (q := (32, [(2, .inl 0), (0, .inr (.inr (.inl (some 107)))), (1, .inr (.inr (.inr 9)))], [], (am_mm D (am_up I 107 6 ((I 107 6) + 1)) J ρ))) rfl ?_
    have u8 : I 107 6 = ((p : Nat) : Int) := hcs.2.1.1
    rw [u8]
    have g8 := r_cs_6 hcs (r_cs_lt hcs (show 0 ≤ hs (p) by omega))
    have gb8 := tb (p + 1)
    generalize am_up I 107 6 (((p : Nat) : Int) + 1) = K8 at g8 ⊢
    have k88 : K8 107 8 = 0 := g8.2.2.2.2.2.1
    show am_E _ _ _ 32 [(2, .inl 0), (0, .inr (.inr (.inl (some 107)))), (1, .inr (.inr (.inr 9)))] [] (am_mm D K8 J ρ) _
    refine am_e_ss 1 (q := (33, [(2, .inl 0), (0, .inr (.inr (.inl (some 107)))), (1, .inr (.inr (.inr 9)))], [.inl 0], (am_mm D K8 J ρ))) rfl ?_
    refine am_e_ireturn rfl rfl ?_
    have ev : pt_wh (hs p) = 0 := by
      unfold pt_wh
      (repeat' split) <;> omega
    rw [ev]
    exact ⟨_, rfl, g8⟩
theorem r_hw {X : Nat × (Nat → Int)} {D : List (Nat × Nat)} {I J : Nat → Nat → Int} {ρ : Nat → Nat → Option Nat} (d : Nat) {I0 : Nat → Nat → Int} {hs : Nat → Int} {z a p : Nat} {w e : Int} {L : List Int} (hcs : r_cs I0 I hs z a w e (p, some L))  : am_E X (d + 4) 139 0 [(0, .inr (.inr (.inl (some 107)))), (1, .inr (.inr (.inr 11)))] [] (am_mm D I J ρ) (fun r => ∃ K, r = (some (.inl (pt_hw (hs p))), am_mm D K J ρ) ∧ r_cs I0 K hs z a w e ((if pt_hw (hs p) = -1 then p else p + 1, some L))) := by
  have h8 : I 107 8 = 0 := hcs.2.2.2.2.2.1
  have t6 : I 107 6 = (p : Int) := hcs.2.1.1
  have tb := hcs.2.1.2.2.2.2.2.2
  have tbp := tb p
  have tz := hcs.2.1.2.2.1
  have tpz : p ≤ z := hcs.2.1.2.2.2.1
  have ed : I 107 9 = e := hcs.2.2.2.2.1
  refine am_e_ss 4 (q := (4, [(2, .inl 0), (0, .inr (.inr (.inl (some 107)))), (1, .inr (.inr (.inr 11)))], [.inr (.inr (.inr 11)), .inl 0], (am_mm D I J ρ))) rfl ?_
  refine am_e_virtual (Q := fun r => r = (some (.inl 3), (am_mm D I J ρ))) rfl rfl (Nat.le_of_ble_eq_true rfl) rfl rfl (Nat.le_of_ble_eq_true rfl) (Nat.le_of_ble_eq_true rfl) (am_len_5 _) ?_
  rintro r rfl
  show am_E _ _ _ 7 [(2, .inl 0), (0, .inr (.inr (.inl (some 107)))), (1, .inr (.inr (.inr 11)))] [.inl 3, .inl 0] (am_mm D I J ρ) _
  refine am_e_s (q := (10, [(2, .inl 0), (0, .inr (.inr (.inl (some 107)))), (1, .inr (.inr (.inr 11)))], [], (am_mm D I J ρ))) rfl rfl ?_
  refine am_e_ss 1 (q := (11, [(2, .inl 0), (0, .inr (.inr (.inl (some 107)))), (1, .inr (.inr (.inr 11)))], [.inr (.inr (.inl (some 107)))], (am_mm D I J ρ))) rfl ?_
  refine am_e_virtual (Q := fun r => r = (some (.inl ((hs p))), (am_mm D I J ρ))) rfl rfl (Nat.le_of_ble_eq_true rfl) rfl rfl (Nat.le_of_ble_eq_true rfl) (Nat.le_of_ble_eq_true rfl) (r_hereC _ hcs) ?_
  rintro r rfl
  show am_E _ _ _ 14 [(2, .inl 0), (0, .inr (.inr (.inl (some 107)))), (1, .inr (.inr (.inr 11)))] [.inl ((hs p))] (am_mm D I J ρ) _
  refine am_e_ss 2 (q := (16, [(2, .inl 0), (0, .inr (.inr (.inl (some 107)))), (1, .inr (.inr (.inr 11)))], [.inl 0, .inr (.inr (.inr 11)), .inl ((hs p))], (am_mm D I J ρ))) rfl ?_
  refine am_e_virtual (Q := fun r => r = (some (.inl 60), (am_mm D I J ρ))) rfl rfl (Nat.le_of_ble_eq_true rfl) rfl rfl (Nat.le_of_ble_eq_true rfl) (Nat.le_of_ble_eq_true rfl) (am_chr_5_0 _) ?_
  rintro r rfl
  show am_E _ _ _ 19 [(2, .inl 0), (0, .inr (.inr (.inl (some 107)))), (1, .inr (.inr (.inr 11)))] [.inl 60, .inl ((hs p))] (am_mm D I J ρ) _
  refine am_e_icmp2 rfl ⟨by omega, by omega⟩ ⟨by omega, by omega⟩ (fun (hw2 : ¬ (hs p) = 60) => ?_) (fun (hw2 : ¬ (¬ (hs p) = 60)) => ?_)
  · show am_E _ _ _ 34 [(2, .inl 0), (0, .inr (.inr (.inl (some 107)))), (1, .inr (.inr (.inr 11)))] [] (am_mm D I J ρ) _
    refine am_e_ss 4 (q := (4, [(2, .inl (0 + 1)), (0, .inr (.inr (.inl (some 107)))), (1, .inr (.inr (.inr 11)))], [.inr (.inr (.inr 11)), .inl (0 + 1)], (am_mm D I J ρ))) rfl ?_
    refine am_e_virtual (Q := fun r => r = (some (.inl 3), (am_mm D I J ρ))) rfl rfl (Nat.le_of_ble_eq_true rfl) rfl rfl (Nat.le_of_ble_eq_true rfl) (Nat.le_of_ble_eq_true rfl) (am_len_5 _) ?_
    rintro r rfl
    show am_E _ _ _ 7 [(2, .inl (0 + 1)), (0, .inr (.inr (.inl (some 107)))), (1, .inr (.inr (.inr 11)))] [.inl 3, .inl (0 + 1)] (am_mm D I J ρ) _
    refine am_e_s (q := (10, [(2, .inl (0 + 1)), (0, .inr (.inr (.inl (some 107)))), (1, .inr (.inr (.inr 11)))], [], (am_mm D I J ρ))) rfl rfl ?_
    refine am_e_ss 1 (q := (11, [(2, .inl (0 + 1)), (0, .inr (.inr (.inl (some 107)))), (1, .inr (.inr (.inr 11)))], [.inr (.inr (.inl (some 107)))], (am_mm D I J ρ))) rfl ?_
    refine am_e_virtual (Q := fun r => r = (some (.inl ((hs p))), (am_mm D I J ρ))) rfl rfl (Nat.le_of_ble_eq_true rfl) rfl rfl (Nat.le_of_ble_eq_true rfl) (Nat.le_of_ble_eq_true rfl) (r_hereC _ hcs) ?_
    rintro r rfl
    show am_E _ _ _ 14 [(2, .inl (0 + 1)), (0, .inr (.inr (.inl (some 107)))), (1, .inr (.inr (.inr 11)))] [.inl ((hs p))] (am_mm D I J ρ) _
    refine am_e_ss 2 (q := (16, [(2, .inl (0 + 1)), (0, .inr (.inr (.inl (some 107)))), (1, .inr (.inr (.inr 11)))], [.inl (0 + 1), .inr (.inr (.inr 11)), .inl ((hs p))], (am_mm D I J ρ))) rfl ?_
    refine am_e_virtual (Q := fun r => r = (some (.inl 61), (am_mm D I J ρ))) rfl rfl (Nat.le_of_ble_eq_true rfl) rfl rfl (Nat.le_of_ble_eq_true rfl) (Nat.le_of_ble_eq_true rfl) (am_chr_5_1 _) ?_
    rintro r rfl
    show am_E _ _ _ 19 [(2, .inl (0 + 1)), (0, .inr (.inr (.inl (some 107)))), (1, .inr (.inr (.inr 11)))] [.inl 61, .inl ((hs p))] (am_mm D I J ρ) _
    refine am_e_icmp2 rfl ⟨by omega, by omega⟩ ⟨by omega, by omega⟩ (fun (hw4 : ¬ (hs p) = 61) => ?_) (fun (hw4 : ¬ (¬ (hs p) = 61)) => ?_)
    · show am_E _ _ _ 34 [(2, .inl (0 + 1)), (0, .inr (.inr (.inl (some 107)))), (1, .inr (.inr (.inr 11)))] [] (am_mm D I J ρ) _
      refine am_e_ss 4 (q := (4, [(2, .inl ((0 + 1) + 1)), (0, .inr (.inr (.inl (some 107)))), (1, .inr (.inr (.inr 11)))], [.inr (.inr (.inr 11)), .inl ((0 + 1) + 1)], (am_mm D I J ρ))) rfl ?_
      refine am_e_virtual (Q := fun r => r = (some (.inl 3), (am_mm D I J ρ))) rfl rfl (Nat.le_of_ble_eq_true rfl) rfl rfl (Nat.le_of_ble_eq_true rfl) (Nat.le_of_ble_eq_true rfl) (am_len_5 _) ?_
      rintro r rfl
      show am_E _ _ _ 7 [(2, .inl ((0 + 1) + 1)), (0, .inr (.inr (.inl (some 107)))), (1, .inr (.inr (.inr 11)))] [.inl 3, .inl ((0 + 1) + 1)] (am_mm D I J ρ) _
      refine am_e_s (q := (10, [(2, .inl ((0 + 1) + 1)), (0, .inr (.inr (.inl (some 107)))), (1, .inr (.inr (.inr 11)))], [], (am_mm D I J ρ))) rfl rfl ?_
      refine am_e_ss 1 (q := (11, [(2, .inl ((0 + 1) + 1)), (0, .inr (.inr (.inl (some 107)))), (1, .inr (.inr (.inr 11)))], [.inr (.inr (.inl (some 107)))], (am_mm D I J ρ))) rfl ?_
      refine am_e_virtual (Q := fun r => r = (some (.inl ((hs p))), (am_mm D I J ρ))) rfl rfl (Nat.le_of_ble_eq_true rfl) rfl rfl (Nat.le_of_ble_eq_true rfl) (Nat.le_of_ble_eq_true rfl) (r_hereC _ hcs) ?_
      rintro r rfl
      show am_E _ _ _ 14 [(2, .inl ((0 + 1) + 1)), (0, .inr (.inr (.inl (some 107)))), (1, .inr (.inr (.inr 11)))] [.inl ((hs p))] (am_mm D I J ρ) _
      refine am_e_ss 2 (q := (16, [(2, .inl ((0 + 1) + 1)), (0, .inr (.inr (.inl (some 107)))), (1, .inr (.inr (.inr 11)))], [.inl ((0 + 1) + 1), .inr (.inr (.inr 11)), .inl ((hs p))], (am_mm D I J ρ))) rfl ?_
      refine am_e_virtual (Q := fun r => r = (some (.inl 62), (am_mm D I J ρ))) rfl rfl (Nat.le_of_ble_eq_true rfl) rfl rfl (Nat.le_of_ble_eq_true rfl) (Nat.le_of_ble_eq_true rfl) (am_chr_5_2 _) ?_
      rintro r rfl
      show am_E _ _ _ 19 [(2, .inl ((0 + 1) + 1)), (0, .inr (.inr (.inl (some 107)))), (1, .inr (.inr (.inr 11)))] [.inl 62, .inl ((hs p))] (am_mm D I J ρ) _
      refine am_e_icmp2 rfl ⟨by omega, by omega⟩ ⟨by omega, by omega⟩ (fun (hw6 : ¬ (hs p) = 62) => ?_) (fun (hw6 : ¬ (¬ (hs p) = 62)) => ?_)
      · show am_E _ _ _ 34 [(2, .inl ((0 + 1) + 1)), (0, .inr (.inr (.inl (some 107)))), (1, .inr (.inr (.inr 11)))] [] (am_mm D I J ρ) _
        refine am_e_ss 4 (q := (4, [(2, .inl (((0 + 1) + 1) + 1)), (0, .inr (.inr (.inl (some 107)))), (1, .inr (.inr (.inr 11)))], [.inr (.inr (.inr 11)), .inl (((0 + 1) + 1) + 1)], (am_mm D I J ρ))) rfl ?_
        refine am_e_virtual (Q := fun r => r = (some (.inl 3), (am_mm D I J ρ))) rfl rfl (Nat.le_of_ble_eq_true rfl) rfl rfl (Nat.le_of_ble_eq_true rfl) (Nat.le_of_ble_eq_true rfl) (am_len_5 _) ?_
        rintro r rfl
        show am_E _ _ _ 7 [(2, .inl (((0 + 1) + 1) + 1)), (0, .inr (.inr (.inl (some 107)))), (1, .inr (.inr (.inr 11)))] [.inl 3, .inl (((0 + 1) + 1) + 1)] (am_mm D I J ρ) _
        refine am_e_s (q := (40, [(2, .inl (((0 + 1) + 1) + 1)), (0, .inr (.inr (.inl (some 107)))), (1, .inr (.inr (.inr 11)))], [], (am_mm D I J ρ))) rfl rfl ?_
        refine am_e_ss 1 (q := (41, [(2, .inl (((0 + 1) + 1) + 1)), (0, .inr (.inr (.inl (some 107)))), (1, .inr (.inr (.inr 11)))], [.inl (-1)], (am_mm D I J ρ))) rfl ?_
        refine am_e_ireturn rfl rfl ?_
        have ev : pt_hw (hs p) = -1 := by
          unfold pt_hw
          (repeat' split) <;> omega
        rw [ev]
        exact ⟨_, rfl, hcs⟩
      · show am_E _ _ _ 22 [(2, .inl ((0 + 1) + 1)), (0, .inr (.inr (.inl (some 107)))), (1, .inr (.inr (.inr 11)))] [] (am_mm D I J ρ) _
        refine am_e_ss 6 (q := (32, [(2, .inl ((0 + 1) + 1)), (0, .inr (.inr (.inl (some 107)))), (1, .inr (.inr (.inr 11)))], [], (am_mm D (am_up I 107 6 ((I 107 6) + 1)) J ρ))) rfl ?_
        have u9 : I 107 6 = ((p : Nat) : Int) := hcs.2.1.1
        rw [u9]
        have g9 := r_cs_6 hcs (r_cs_lt hcs (show 0 ≤ hs (p) by omega))
        have gb9 := tb (p + 1)
        generalize am_up I 107 6 (((p : Nat) : Int) + 1) = K9 at g9 ⊢
        have k89 : K9 107 8 = 0 := g9.2.2.2.2.2.1
        show am_E _ _ _ 32 [(2, .inl ((0 + 1) + 1)), (0, .inr (.inr (.inl (some 107)))), (1, .inr (.inr (.inr 11)))] [] (am_mm D K9 J ρ) _
        refine am_e_ss 1 (q := (33, [(2, .inl ((0 + 1) + 1)), (0, .inr (.inr (.inl (some 107)))), (1, .inr (.inr (.inr 11)))], [.inl ((0 + 1) + 1)], (am_mm D K9 J ρ))) rfl ?_
        refine am_e_ireturn rfl rfl ?_
        have ev : pt_hw (hs p) = 2 := by
          unfold pt_hw
          (repeat' split) <;> omega
        rw [ev]
        exact ⟨_, rfl, g9⟩
    · show am_E _ _ _ 22 [(2, .inl (0 + 1)), (0, .inr (.inr (.inl (some 107)))), (1, .inr (.inr (.inr 11)))] [] (am_mm D I J ρ) _
      refine am_e_ss 6 (q := (32, [(2, .inl (0 + 1)), (0, .inr (.inr (.inl (some 107)))), (1, .inr (.inr (.inr 11)))], [], (am_mm D (am_up I 107 6 ((I 107 6) + 1)) J ρ))) rfl ?_
      have u10 : I 107 6 = ((p : Nat) : Int) := hcs.2.1.1
      rw [u10]
      have g10 := r_cs_6 hcs (r_cs_lt hcs (show 0 ≤ hs (p) by omega))
      have gb10 := tb (p + 1)
      generalize am_up I 107 6 (((p : Nat) : Int) + 1) = K10 at g10 ⊢
      have k810 : K10 107 8 = 0 := g10.2.2.2.2.2.1
      show am_E _ _ _ 32 [(2, .inl (0 + 1)), (0, .inr (.inr (.inl (some 107)))), (1, .inr (.inr (.inr 11)))] [] (am_mm D K10 J ρ) _
      refine am_e_ss 1 (q := (33, [(2, .inl (0 + 1)), (0, .inr (.inr (.inl (some 107)))), (1, .inr (.inr (.inr 11)))], [.inl (0 + 1)], (am_mm D K10 J ρ))) rfl ?_
      refine am_e_ireturn rfl rfl ?_
      have ev : pt_hw (hs p) = 1 := by
        unfold pt_hw
        (repeat' split) <;> omega
      rw [ev]
      exact ⟨_, rfl, g10⟩
  · show am_E _ _ _ 22 [(2, .inl 0), (0, .inr (.inr (.inl (some 107)))), (1, .inr (.inr (.inr 11)))] [] (am_mm D I J ρ) _
    refine am_e_ss 6 (q := (32, [(2, .inl 0), (0, .inr (.inr (.inl (some 107)))), (1, .inr (.inr (.inr 11)))], [], (am_mm D (am_up I 107 6 ((I 107 6) + 1)) J ρ))) rfl ?_
    have u11 : I 107 6 = ((p : Nat) : Int) := hcs.2.1.1
    rw [u11]
    have g11 := r_cs_6 hcs (r_cs_lt hcs (show 0 ≤ hs (p) by omega))
    have gb11 := tb (p + 1)
    generalize am_up I 107 6 (((p : Nat) : Int) + 1) = K11 at g11 ⊢
    have k811 : K11 107 8 = 0 := g11.2.2.2.2.2.1
    show am_E _ _ _ 32 [(2, .inl 0), (0, .inr (.inr (.inl (some 107)))), (1, .inr (.inr (.inr 11)))] [] (am_mm D K11 J ρ) _
    refine am_e_ss 1 (q := (33, [(2, .inl 0), (0, .inr (.inr (.inl (some 107)))), (1, .inr (.inr (.inr 11)))], [.inl 0], (am_mm D K11 J ρ))) rfl ?_
    refine am_e_ireturn rfl rfl ?_
    have ev : pt_hw (hs p) = 0 := by
      unfold pt_hw
      (repeat' split) <;> omega
    rw [ev]
    exact ⟨_, rfl, g11⟩
/-- a word: sign by sign -/
def pt_sp (h : Nat → Int) (ws : List Int) (R : pt_R) : pt_R := ws.foldl (fun R s => pt_bd R (fun p L => pt_ms h s p L)) R
theorem pt_sp_no {h : Nat → Int} {ws : List Int} {p : Nat} : pt_sp h ws (p, none) = (p, none) := by
  induction ws with
  | nil => rfl
  | cons s ws ih => exact ih
theorem pt_sp_w {h : Nat → Int} {L : List Int} : ∀ {ws : List Int} {p : Nat}, pt_sp h ws (p, some L) = ((pt_w h ws p).1, if (pt_w h ws p).2 = true then some L else none) := by
  intro ws
  induction ws with
  | nil => intro p; rfl
  | cons s ws ih =>
    intro p
    show pt_sp h ws (pt_ms h s p L) = _
    unfold pt_ms pt_w
    by_cases c : h p = s
    · rw [if_pos c, if_pos c]; exact ih
    · rw [if_neg c, if_neg c]; exact pt_sp_no
theorem r_spells6 {X : Nat × (Nat → Int)} {D : List (Nat × Nat)} {I J : Nat → Nat → Int} {ρ : Nat → Nat → Option Nat} (d : Nat) {I0 : Nat → Nat → Int} {hs : Nat → Int} {z a : Nat} {w e : Int} {R : pt_R} (hcs : r_cs I0 I hs z a w e R)  : am_E X (d + 4) 137 0 [(0, .inr (.inr (.inl (some 107)))), (1, .inr (.inr (.inr 13)))] [] (am_mm D I J ρ) (fun r => ∃ K, r = (none, am_mm D K J ρ) ∧ r_cs I0 K hs z a w e ((pt_sp hs [105, 107, 101, 32] R))) := by
  refine am_e_ss 4 (q := (4, [(2, .inl 0), (0, .inr (.inr (.inl (some 107)))), (1, .inr (.inr (.inr 13)))], [.inr (.inr (.inr 13)), .inl 0], (am_mm D I J ρ))) rfl ?_
  refine am_e_virtual (Q := fun r => r = (some (.inl 4), (am_mm D I J ρ))) rfl rfl (Nat.le_of_ble_eq_true rfl) rfl rfl (Nat.le_of_ble_eq_true rfl) (Nat.le_of_ble_eq_true rfl) (am_len_6 _) ?_
  rintro r rfl
  show am_E _ _ _ 7 [(2, .inl 0), (0, .inr (.inr (.inl (some 107)))), (1, .inr (.inr (.inr 13)))] [.inl 4, .inl 0] (am_mm D I J ρ) _
  refine am_e_s (q := (10, [(2, .inl 0), (0, .inr (.inr (.inl (some 107)))), (1, .inr (.inr (.inr 13)))], [], (am_mm D I J ρ))) rfl rfl ?_
  refine am_e_ss 3 (q := (13, [(2, .inl 0), (0, .inr (.inr (.inl (some 107)))), (1, .inr (.inr (.inr 13)))], [.inl 0, .inr (.inr (.inr 13)), .inr (.inr (.inl (some 107)))], (am_mm D I J ρ))) rfl ?_
  refine am_e_virtual (Q := fun r => r = (some (.inl 105), (am_mm D I J ρ))) rfl rfl (Nat.le_of_ble_eq_true rfl) rfl rfl (Nat.le_of_ble_eq_true rfl) (Nat.le_of_ble_eq_true rfl) (am_chr_6_0 _) ?_
  rintro r rfl
  show am_E _ _ _ 16 [(2, .inl 0), (0, .inr (.inr (.inl (some 107)))), (1, .inr (.inr (.inr 13)))] [.inl 105, .inr (.inr (.inl (some 107)))] (am_mm D I J ρ) _
  refine am_e_virtual (Q := fun r => ∃ K12, r = (none, (am_mm D K12 J ρ)) ∧ r_cs I0 K12 hs z a w e ((pt_bd R (fun p L => pt_ms hs 105 p L)))) rfl rfl (Nat.le_of_ble_eq_true rfl) rfl rfl (Nat.le_of_ble_eq_true rfl) (Nat.le_of_ble_eq_true rfl) (r_mustC _ hcs (s := 105) (by decide)) ?_
  rintro r ⟨K12, rfl, g12⟩
  show am_E _ _ _ 19 [(2, .inl 0), (0, .inr (.inr (.inl (some 107)))), (1, .inr (.inr (.inr 13)))] [] (am_mm D K12 J ρ) _
  refine am_e_ss 4 (q := (4, [(2, .inl (0 + 1)), (0, .inr (.inr (.inl (some 107)))), (1, .inr (.inr (.inr 13)))], [.inr (.inr (.inr 13)), .inl (0 + 1)], (am_mm D K12 J ρ))) rfl ?_
  refine am_e_virtual (Q := fun r => r = (some (.inl 4), (am_mm D K12 J ρ))) rfl rfl (Nat.le_of_ble_eq_true rfl) rfl rfl (Nat.le_of_ble_eq_true rfl) (Nat.le_of_ble_eq_true rfl) (am_len_6 _) ?_
  rintro r rfl
  show am_E _ _ _ 7 [(2, .inl (0 + 1)), (0, .inr (.inr (.inl (some 107)))), (1, .inr (.inr (.inr 13)))] [.inl 4, .inl (0 + 1)] (am_mm D K12 J ρ) _
  refine am_e_s (q := (10, [(2, .inl (0 + 1)), (0, .inr (.inr (.inl (some 107)))), (1, .inr (.inr (.inr 13)))], [], (am_mm D K12 J ρ))) rfl rfl ?_
  refine am_e_ss 3 (q := (13, [(2, .inl (0 + 1)), (0, .inr (.inr (.inl (some 107)))), (1, .inr (.inr (.inr 13)))], [.inl (0 + 1), .inr (.inr (.inr 13)), .inr (.inr (.inl (some 107)))], (am_mm D K12 J ρ))) rfl ?_
  refine am_e_virtual (Q := fun r => r = (some (.inl 107), (am_mm D K12 J ρ))) rfl rfl (Nat.le_of_ble_eq_true rfl) rfl rfl (Nat.le_of_ble_eq_true rfl) (Nat.le_of_ble_eq_true rfl) (am_chr_6_1 _) ?_
  rintro r rfl
  show am_E _ _ _ 16 [(2, .inl (0 + 1)), (0, .inr (.inr (.inl (some 107)))), (1, .inr (.inr (.inr 13)))] [.inl 107, .inr (.inr (.inl (some 107)))] (am_mm D K12 J ρ) _
  refine am_e_virtual (Q := fun r => ∃ K13, r = (none, (am_mm D K13 J ρ)) ∧ r_cs I0 K13 hs z a w e ((pt_bd ((pt_bd R (fun p L => pt_ms hs 105 p L))) (fun p L => pt_ms hs 107 p L)))) rfl rfl (Nat.le_of_ble_eq_true rfl) rfl rfl (Nat.le_of_ble_eq_true rfl) (Nat.le_of_ble_eq_true rfl) (r_mustC _ g12 (s := 107) (by decide)) ?_
  rintro r ⟨K13, rfl, g13⟩
  show am_E _ _ _ 19 [(2, .inl (0 + 1)), (0, .inr (.inr (.inl (some 107)))), (1, .inr (.inr (.inr 13)))] [] (am_mm D K13 J ρ) _
  refine am_e_ss 4 (q := (4, [(2, .inl ((0 + 1) + 1)), (0, .inr (.inr (.inl (some 107)))), (1, .inr (.inr (.inr 13)))], [.inr (.inr (.inr 13)), .inl ((0 + 1) + 1)], (am_mm D K13 J ρ))) rfl ?_
  refine am_e_virtual (Q := fun r => r = (some (.inl 4), (am_mm D K13 J ρ))) rfl rfl (Nat.le_of_ble_eq_true rfl) rfl rfl (Nat.le_of_ble_eq_true rfl) (Nat.le_of_ble_eq_true rfl) (am_len_6 _) ?_
  rintro r rfl
  show am_E _ _ _ 7 [(2, .inl ((0 + 1) + 1)), (0, .inr (.inr (.inl (some 107)))), (1, .inr (.inr (.inr 13)))] [.inl 4, .inl ((0 + 1) + 1)] (am_mm D K13 J ρ) _
  refine am_e_s (q := (10, [(2, .inl ((0 + 1) + 1)), (0, .inr (.inr (.inl (some 107)))), (1, .inr (.inr (.inr 13)))], [], (am_mm D K13 J ρ))) rfl rfl ?_
  refine am_e_ss 3 (q := (13, [(2, .inl ((0 + 1) + 1)), (0, .inr (.inr (.inl (some 107)))), (1, .inr (.inr (.inr 13)))], [.inl ((0 + 1) + 1), .inr (.inr (.inr 13)), .inr (.inr (.inl (some 107)))], (am_mm D K13 J ρ))) rfl ?_
  refine am_e_virtual (Q := fun r => r = (some (.inl 101), (am_mm D K13 J ρ))) rfl rfl (Nat.le_of_ble_eq_true rfl) rfl rfl (Nat.le_of_ble_eq_true rfl) (Nat.le_of_ble_eq_true rfl) (am_chr_6_2 _) ?_
  rintro r rfl
  show am_E _ _ _ 16 [(2, .inl ((0 + 1) + 1)), (0, .inr (.inr (.inl (some 107)))), (1, .inr (.inr (.inr 13)))] [.inl 101, .inr (.inr (.inl (some 107)))] (am_mm D K13 J ρ) _
  refine am_e_virtual (Q := fun r => ∃ K14, r = (none, (am_mm D K14 J ρ)) ∧ r_cs I0 K14 hs z a w e ((pt_bd ((pt_bd ((pt_bd R (fun p L => pt_ms hs 105 p L))) (fun p L => pt_ms hs 107 p L))) (fun p L => pt_ms hs 101 p L)))) rfl rfl (Nat.le_of_ble_eq_true rfl) rfl rfl (Nat.le_of_ble_eq_true rfl) (Nat.le_of_ble_eq_true rfl) (r_mustC _ g13 (s := 101) (by decide)) ?_
  rintro r ⟨K14, rfl, g14⟩
  show am_E _ _ _ 19 [(2, .inl ((0 + 1) + 1)), (0, .inr (.inr (.inl (some 107)))), (1, .inr (.inr (.inr 13)))] [] (am_mm D K14 J ρ) _
  refine am_e_ss 4 (q := (4, [(2, .inl (((0 + 1) + 1) + 1)), (0, .inr (.inr (.inl (some 107)))), (1, .inr (.inr (.inr 13)))], [.inr (.inr (.inr 13)), .inl (((0 + 1) + 1) + 1)], (am_mm D K14 J ρ))) rfl ?_
  refine am_e_virtual (Q := fun r => r = (some (.inl 4), (am_mm D K14 J ρ))) rfl rfl (Nat.le_of_ble_eq_true rfl) rfl rfl (Nat.le_of_ble_eq_true rfl) (Nat.le_of_ble_eq_true rfl) (am_len_6 _) ?_
  rintro r rfl
  show am_E _ _ _ 7 [(2, .inl (((0 + 1) + 1) + 1)), (0, .inr (.inr (.inl (some 107)))), (1, .inr (.inr (.inr 13)))] [.inl 4, .inl (((0 + 1) + 1) + 1)] (am_mm D K14 J ρ) _
  refine am_e_s (q := (10, [(2, .inl (((0 + 1) + 1) + 1)), (0, .inr (.inr (.inl (some 107)))), (1, .inr (.inr (.inr 13)))], [], (am_mm D K14 J ρ))) rfl rfl ?_
  refine am_e_ss 3 (q := (13, [(2, .inl (((0 + 1) + 1) + 1)), (0, .inr (.inr (.inl (some 107)))), (1, .inr (.inr (.inr 13)))], [.inl (((0 + 1) + 1) + 1), .inr (.inr (.inr 13)), .inr (.inr (.inl (some 107)))], (am_mm D K14 J ρ))) rfl ?_
  refine am_e_virtual (Q := fun r => r = (some (.inl 32), (am_mm D K14 J ρ))) rfl rfl (Nat.le_of_ble_eq_true rfl) rfl rfl (Nat.le_of_ble_eq_true rfl) (Nat.le_of_ble_eq_true rfl) (am_chr_6_3 _) ?_
  rintro r rfl
  show am_E _ _ _ 16 [(2, .inl (((0 + 1) + 1) + 1)), (0, .inr (.inr (.inl (some 107)))), (1, .inr (.inr (.inr 13)))] [.inl 32, .inr (.inr (.inl (some 107)))] (am_mm D K14 J ρ) _
  refine am_e_virtual (Q := fun r => ∃ K15, r = (none, (am_mm D K15 J ρ)) ∧ r_cs I0 K15 hs z a w e ((pt_bd ((pt_bd ((pt_bd ((pt_bd R (fun p L => pt_ms hs 105 p L))) (fun p L => pt_ms hs 107 p L))) (fun p L => pt_ms hs 101 p L))) (fun p L => pt_ms hs 32 p L)))) rfl rfl (Nat.le_of_ble_eq_true rfl) rfl rfl (Nat.le_of_ble_eq_true rfl) (Nat.le_of_ble_eq_true rfl) (r_mustC _ g14 (s := 32) (by decide)) ?_
  rintro r ⟨K15, rfl, g15⟩
  show am_E _ _ _ 19 [(2, .inl (((0 + 1) + 1) + 1)), (0, .inr (.inr (.inl (some 107)))), (1, .inr (.inr (.inr 13)))] [] (am_mm D K15 J ρ) _
  refine am_e_ss 4 (q := (4, [(2, .inl ((((0 + 1) + 1) + 1) + 1)), (0, .inr (.inr (.inl (some 107)))), (1, .inr (.inr (.inr 13)))], [.inr (.inr (.inr 13)), .inl ((((0 + 1) + 1) + 1) + 1)], (am_mm D K15 J ρ))) rfl ?_
  refine am_e_virtual (Q := fun r => r = (some (.inl 4), (am_mm D K15 J ρ))) rfl rfl (Nat.le_of_ble_eq_true rfl) rfl rfl (Nat.le_of_ble_eq_true rfl) (Nat.le_of_ble_eq_true rfl) (am_len_6 _) ?_
  rintro r rfl
  show am_E _ _ _ 7 [(2, .inl ((((0 + 1) + 1) + 1) + 1)), (0, .inr (.inr (.inl (some 107)))), (1, .inr (.inr (.inr 13)))] [.inl 4, .inl ((((0 + 1) + 1) + 1) + 1)] (am_mm D K15 J ρ) _
  refine am_e_s (q := (25, [(2, .inl ((((0 + 1) + 1) + 1) + 1)), (0, .inr (.inr (.inl (some 107)))), (1, .inr (.inr (.inr 13)))], [], (am_mm D K15 J ρ))) rfl rfl ?_
  refine am_e_return rfl rfl ?_
  exact ⟨_, rfl, g15⟩
theorem r_spells7 {X : Nat × (Nat → Int)} {D : List (Nat × Nat)} {I J : Nat → Nat → Int} {ρ : Nat → Nat → Option Nat} (d : Nat) {I0 : Nat → Nat → Int} {hs : Nat → Int} {z a : Nat} {w e : Int} {R : pt_R} (hcs : r_cs I0 I hs z a w e R)  : am_E X (d + 4) 137 0 [(0, .inr (.inr (.inl (some 107)))), (1, .inr (.inr (.inr 15)))] [] (am_mm D I J ρ) (fun r => ∃ K, r = (none, am_mm D K J ρ) ∧ r_cs I0 K hs z a w e ((pt_sp hs [111, 97, 116, 104, 32] R))) := by
  refine am_e_ss 4 (q := (4, [(2, .inl 0), (0, .inr (.inr (.inl (some 107)))), (1, .inr (.inr (.inr 15)))], [.inr (.inr (.inr 15)), .inl 0], (am_mm D I J ρ))) rfl ?_
  refine am_e_virtual (Q := fun r => r = (some (.inl 5), (am_mm D I J ρ))) rfl rfl (Nat.le_of_ble_eq_true rfl) rfl rfl (Nat.le_of_ble_eq_true rfl) (Nat.le_of_ble_eq_true rfl) (am_len_7 _) ?_
  rintro r rfl
  show am_E _ _ _ 7 [(2, .inl 0), (0, .inr (.inr (.inl (some 107)))), (1, .inr (.inr (.inr 15)))] [.inl 5, .inl 0] (am_mm D I J ρ) _
  refine am_e_s (q := (10, [(2, .inl 0), (0, .inr (.inr (.inl (some 107)))), (1, .inr (.inr (.inr 15)))], [], (am_mm D I J ρ))) rfl rfl ?_
  refine am_e_ss 3 (q := (13, [(2, .inl 0), (0, .inr (.inr (.inl (some 107)))), (1, .inr (.inr (.inr 15)))], [.inl 0, .inr (.inr (.inr 15)), .inr (.inr (.inl (some 107)))], (am_mm D I J ρ))) rfl ?_
  refine am_e_virtual (Q := fun r => r = (some (.inl 111), (am_mm D I J ρ))) rfl rfl (Nat.le_of_ble_eq_true rfl) rfl rfl (Nat.le_of_ble_eq_true rfl) (Nat.le_of_ble_eq_true rfl) (am_chr_7_0 _) ?_
  rintro r rfl
  show am_E _ _ _ 16 [(2, .inl 0), (0, .inr (.inr (.inl (some 107)))), (1, .inr (.inr (.inr 15)))] [.inl 111, .inr (.inr (.inl (some 107)))] (am_mm D I J ρ) _
  refine am_e_virtual (Q := fun r => ∃ K16, r = (none, (am_mm D K16 J ρ)) ∧ r_cs I0 K16 hs z a w e ((pt_bd R (fun p L => pt_ms hs 111 p L)))) rfl rfl (Nat.le_of_ble_eq_true rfl) rfl rfl (Nat.le_of_ble_eq_true rfl) (Nat.le_of_ble_eq_true rfl) (r_mustC _ hcs (s := 111) (by decide)) ?_
  rintro r ⟨K16, rfl, g16⟩
  show am_E _ _ _ 19 [(2, .inl 0), (0, .inr (.inr (.inl (some 107)))), (1, .inr (.inr (.inr 15)))] [] (am_mm D K16 J ρ) _
  refine am_e_ss 4 (q := (4, [(2, .inl (0 + 1)), (0, .inr (.inr (.inl (some 107)))), (1, .inr (.inr (.inr 15)))], [.inr (.inr (.inr 15)), .inl (0 + 1)], (am_mm D K16 J ρ))) rfl ?_
  refine am_e_virtual (Q := fun r => r = (some (.inl 5), (am_mm D K16 J ρ))) rfl rfl (Nat.le_of_ble_eq_true rfl) rfl rfl (Nat.le_of_ble_eq_true rfl) (Nat.le_of_ble_eq_true rfl) (am_len_7 _) ?_
  rintro r rfl
  show am_E _ _ _ 7 [(2, .inl (0 + 1)), (0, .inr (.inr (.inl (some 107)))), (1, .inr (.inr (.inr 15)))] [.inl 5, .inl (0 + 1)] (am_mm D K16 J ρ) _
  refine am_e_s (q := (10, [(2, .inl (0 + 1)), (0, .inr (.inr (.inl (some 107)))), (1, .inr (.inr (.inr 15)))], [], (am_mm D K16 J ρ))) rfl rfl ?_
  refine am_e_ss 3 (q := (13, [(2, .inl (0 + 1)), (0, .inr (.inr (.inl (some 107)))), (1, .inr (.inr (.inr 15)))], [.inl (0 + 1), .inr (.inr (.inr 15)), .inr (.inr (.inl (some 107)))], (am_mm D K16 J ρ))) rfl ?_
  refine am_e_virtual (Q := fun r => r = (some (.inl 97), (am_mm D K16 J ρ))) rfl rfl (Nat.le_of_ble_eq_true rfl) rfl rfl (Nat.le_of_ble_eq_true rfl) (Nat.le_of_ble_eq_true rfl) (am_chr_7_1 _) ?_
  rintro r rfl
  show am_E _ _ _ 16 [(2, .inl (0 + 1)), (0, .inr (.inr (.inl (some 107)))), (1, .inr (.inr (.inr 15)))] [.inl 97, .inr (.inr (.inl (some 107)))] (am_mm D K16 J ρ) _
  refine am_e_virtual (Q := fun r => ∃ K17, r = (none, (am_mm D K17 J ρ)) ∧ r_cs I0 K17 hs z a w e ((pt_bd ((pt_bd R (fun p L => pt_ms hs 111 p L))) (fun p L => pt_ms hs 97 p L)))) rfl rfl (Nat.le_of_ble_eq_true rfl) rfl rfl (Nat.le_of_ble_eq_true rfl) (Nat.le_of_ble_eq_true rfl) (r_mustC _ g16 (s := 97) (by decide)) ?_
  rintro r ⟨K17, rfl, g17⟩
  show am_E _ _ _ 19 [(2, .inl (0 + 1)), (0, .inr (.inr (.inl (some 107)))), (1, .inr (.inr (.inr 15)))] [] (am_mm D K17 J ρ) _
  refine am_e_ss 4 (q := (4, [(2, .inl ((0 + 1) + 1)), (0, .inr (.inr (.inl (some 107)))), (1, .inr (.inr (.inr 15)))], [.inr (.inr (.inr 15)), .inl ((0 + 1) + 1)], (am_mm D K17 J ρ))) rfl ?_
  refine am_e_virtual (Q := fun r => r = (some (.inl 5), (am_mm D K17 J ρ))) rfl rfl (Nat.le_of_ble_eq_true rfl) rfl rfl (Nat.le_of_ble_eq_true rfl) (Nat.le_of_ble_eq_true rfl) (am_len_7 _) ?_
  rintro r rfl
  show am_E _ _ _ 7 [(2, .inl ((0 + 1) + 1)), (0, .inr (.inr (.inl (some 107)))), (1, .inr (.inr (.inr 15)))] [.inl 5, .inl ((0 + 1) + 1)] (am_mm D K17 J ρ) _
  refine am_e_s (q := (10, [(2, .inl ((0 + 1) + 1)), (0, .inr (.inr (.inl (some 107)))), (1, .inr (.inr (.inr 15)))], [], (am_mm D K17 J ρ))) rfl rfl ?_
  refine am_e_ss 3 (q := (13, [(2, .inl ((0 + 1) + 1)), (0, .inr (.inr (.inl (some 107)))), (1, .inr (.inr (.inr 15)))], [.inl ((0 + 1) + 1), .inr (.inr (.inr 15)), .inr (.inr (.inl (some 107)))], (am_mm D K17 J ρ))) rfl ?_
  refine am_e_virtual (Q := fun r => r = (some (.inl 116), (am_mm D K17 J ρ))) rfl rfl (Nat.le_of_ble_eq_true rfl) rfl rfl (Nat.le_of_ble_eq_true rfl) (Nat.le_of_ble_eq_true rfl) (am_chr_7_2 _) ?_
  rintro r rfl
  show am_E _ _ _ 16 [(2, .inl ((0 + 1) + 1)), (0, .inr (.inr (.inl (some 107)))), (1, .inr (.inr (.inr 15)))] [.inl 116, .inr (.inr (.inl (some 107)))] (am_mm D K17 J ρ) _
  refine am_e_virtual (Q := fun r => ∃ K18, r = (none, (am_mm D K18 J ρ)) ∧ r_cs I0 K18 hs z a w e ((pt_bd ((pt_bd ((pt_bd R (fun p L => pt_ms hs 111 p L))) (fun p L => pt_ms hs 97 p L))) (fun p L => pt_ms hs 116 p L)))) rfl rfl (Nat.le_of_ble_eq_true rfl) rfl rfl (Nat.le_of_ble_eq_true rfl) (Nat.le_of_ble_eq_true rfl) (r_mustC _ g17 (s := 116) (by decide)) ?_
  rintro r ⟨K18, rfl, g18⟩
  show am_E _ _ _ 19 [(2, .inl ((0 + 1) + 1)), (0, .inr (.inr (.inl (some 107)))), (1, .inr (.inr (.inr 15)))] [] (am_mm D K18 J ρ) _
  refine am_e_ss 4 (q := (4, [(2, .inl (((0 + 1) + 1) + 1)), (0, .inr (.inr (.inl (some 107)))), (1, .inr (.inr (.inr 15)))], [.inr (.inr (.inr 15)), .inl (((0 + 1) + 1) + 1)], (am_mm D K18 J ρ))) rfl ?_
  refine am_e_virtual (Q := fun r => r = (some (.inl 5), (am_mm D K18 J ρ))) rfl rfl (Nat.le_of_ble_eq_true rfl) rfl rfl (Nat.le_of_ble_eq_true rfl) (Nat.le_of_ble_eq_true rfl) (am_len_7 _) ?_
  rintro r rfl
  show am_E _ _ _ 7 [(2, .inl (((0 + 1) + 1) + 1)), (0, .inr (.inr (.inl (some 107)))), (1, .inr (.inr (.inr 15)))] [.inl 5, .inl (((0 + 1) + 1) + 1)] (am_mm D K18 J ρ) _
  refine am_e_s (q := (10, [(2, .inl (((0 + 1) + 1) + 1)), (0, .inr (.inr (.inl (some 107)))), (1, .inr (.inr (.inr 15)))], [], (am_mm D K18 J ρ))) rfl rfl ?_
  refine am_e_ss 3 (q := (13, [(2, .inl (((0 + 1) + 1) + 1)), (0, .inr (.inr (.inl (some 107)))), (1, .inr (.inr (.inr 15)))], [.inl (((0 + 1) + 1) + 1), .inr (.inr (.inr 15)), .inr (.inr (.inl (some 107)))], (am_mm D K18 J ρ))) rfl ?_
  refine am_e_virtual (Q := fun r => r = (some (.inl 104), (am_mm D K18 J ρ))) rfl rfl (Nat.le_of_ble_eq_true rfl) rfl rfl (Nat.le_of_ble_eq_true rfl) (Nat.le_of_ble_eq_true rfl) (am_chr_7_3 _) ?_
  rintro r rfl
  show am_E _ _ _ 16 [(2, .inl (((0 + 1) + 1) + 1)), (0, .inr (.inr (.inl (some 107)))), (1, .inr (.inr (.inr 15)))] [.inl 104, .inr (.inr (.inl (some 107)))] (am_mm D K18 J ρ) _
  refine am_e_virtual (Q := fun r => ∃ K19, r = (none, (am_mm D K19 J ρ)) ∧ r_cs I0 K19 hs z a w e ((pt_bd ((pt_bd ((pt_bd ((pt_bd R (fun p L => pt_ms hs 111 p L))) (fun p L => pt_ms hs 97 p L))) (fun p L => pt_ms hs 116 p L))) (fun p L => pt_ms hs 104 p L)))) rfl rfl (Nat.le_of_ble_eq_true rfl) rfl rfl (Nat.le_of_ble_eq_true rfl) (Nat.le_of_ble_eq_true rfl) (r_mustC _ g18 (s := 104) (by decide)) ?_
  rintro r ⟨K19, rfl, g19⟩
  show am_E _ _ _ 19 [(2, .inl (((0 + 1) + 1) + 1)), (0, .inr (.inr (.inl (some 107)))), (1, .inr (.inr (.inr 15)))] [] (am_mm D K19 J ρ) _
  refine am_e_ss 4 (q := (4, [(2, .inl ((((0 + 1) + 1) + 1) + 1)), (0, .inr (.inr (.inl (some 107)))), (1, .inr (.inr (.inr 15)))], [.inr (.inr (.inr 15)), .inl ((((0 + 1) + 1) + 1) + 1)], (am_mm D K19 J ρ))) rfl ?_
  refine am_e_virtual (Q := fun r => r = (some (.inl 5), (am_mm D K19 J ρ))) rfl rfl (Nat.le_of_ble_eq_true rfl) rfl rfl (Nat.le_of_ble_eq_true rfl) (Nat.le_of_ble_eq_true rfl) (am_len_7 _) ?_
  rintro r rfl
  show am_E _ _ _ 7 [(2, .inl ((((0 + 1) + 1) + 1) + 1)), (0, .inr (.inr (.inl (some 107)))), (1, .inr (.inr (.inr 15)))] [.inl 5, .inl ((((0 + 1) + 1) + 1) + 1)] (am_mm D K19 J ρ) _
  refine am_e_s (q := (10, [(2, .inl ((((0 + 1) + 1) + 1) + 1)), (0, .inr (.inr (.inl (some 107)))), (1, .inr (.inr (.inr 15)))], [], (am_mm D K19 J ρ))) rfl rfl ?_
  refine am_e_ss 3 (q := (13, [(2, .inl ((((0 + 1) + 1) + 1) + 1)), (0, .inr (.inr (.inl (some 107)))), (1, .inr (.inr (.inr 15)))], [.inl ((((0 + 1) + 1) + 1) + 1), .inr (.inr (.inr 15)), .inr (.inr (.inl (some 107)))], (am_mm D K19 J ρ))) rfl ?_
  refine am_e_virtual (Q := fun r => r = (some (.inl 32), (am_mm D K19 J ρ))) rfl rfl (Nat.le_of_ble_eq_true rfl) rfl rfl (Nat.le_of_ble_eq_true rfl) (Nat.le_of_ble_eq_true rfl) (am_chr_7_4 _) ?_
  rintro r rfl
  show am_E _ _ _ 16 [(2, .inl ((((0 + 1) + 1) + 1) + 1)), (0, .inr (.inr (.inl (some 107)))), (1, .inr (.inr (.inr 15)))] [.inl 32, .inr (.inr (.inl (some 107)))] (am_mm D K19 J ρ) _
  refine am_e_virtual (Q := fun r => ∃ K20, r = (none, (am_mm D K20 J ρ)) ∧ r_cs I0 K20 hs z a w e ((pt_bd ((pt_bd ((pt_bd ((pt_bd ((pt_bd R (fun p L => pt_ms hs 111 p L))) (fun p L => pt_ms hs 97 p L))) (fun p L => pt_ms hs 116 p L))) (fun p L => pt_ms hs 104 p L))) (fun p L => pt_ms hs 32 p L)))) rfl rfl (Nat.le_of_ble_eq_true rfl) rfl rfl (Nat.le_of_ble_eq_true rfl) (Nat.le_of_ble_eq_true rfl) (r_mustC _ g19 (s := 32) (by decide)) ?_
  rintro r ⟨K20, rfl, g20⟩
  show am_E _ _ _ 19 [(2, .inl ((((0 + 1) + 1) + 1) + 1)), (0, .inr (.inr (.inl (some 107)))), (1, .inr (.inr (.inr 15)))] [] (am_mm D K20 J ρ) _
  refine am_e_ss 4 (q := (4, [(2, .inl (((((0 + 1) + 1) + 1) + 1) + 1)), (0, .inr (.inr (.inl (some 107)))), (1, .inr (.inr (.inr 15)))], [.inr (.inr (.inr 15)), .inl (((((0 + 1) + 1) + 1) + 1) + 1)], (am_mm D K20 J ρ))) rfl ?_
  refine am_e_virtual (Q := fun r => r = (some (.inl 5), (am_mm D K20 J ρ))) rfl rfl (Nat.le_of_ble_eq_true rfl) rfl rfl (Nat.le_of_ble_eq_true rfl) (Nat.le_of_ble_eq_true rfl) (am_len_7 _) ?_
  rintro r rfl
  show am_E _ _ _ 7 [(2, .inl (((((0 + 1) + 1) + 1) + 1) + 1)), (0, .inr (.inr (.inl (some 107)))), (1, .inr (.inr (.inr 15)))] [.inl 5, .inl (((((0 + 1) + 1) + 1) + 1) + 1)] (am_mm D K20 J ρ) _
  refine am_e_s (q := (25, [(2, .inl (((((0 + 1) + 1) + 1) + 1) + 1)), (0, .inr (.inr (.inl (some 107)))), (1, .inr (.inr (.inr 15)))], [], (am_mm D K20 J ρ))) rfl rfl ?_
  refine am_e_return rfl rfl ?_
  exact ⟨_, rfl, g20⟩
theorem r_spells8 {X : Nat × (Nat → Int)} {D : List (Nat × Nat)} {I J : Nat → Nat → Int} {ρ : Nat → Nat → Option Nat} (d : Nat) {I0 : Nat → Nat → Int} {hs : Nat → Int} {z a : Nat} {w e : Int} {R : pt_R} (hcs : r_cs I0 I hs z a w e R)  : am_E X (d + 4) 137 0 [(0, .inr (.inr (.inl (some 107)))), (1, .inr (.inr (.inr 17)))] [] (am_mm D I J ρ) (fun r => ∃ K, r = (none, am_mm D K J ρ) ∧ r_cs I0 K hs z a w e ((pt_sp hs [114, 101, 97, 100, 32] R))) := by
  refine am_e_ss 4 (q := (4, [(2, .inl 0), (0, .inr (.inr (.inl (some 107)))), (1, .inr (.inr (.inr 17)))], [.inr (.inr (.inr 17)), .inl 0], (am_mm D I J ρ))) rfl ?_
  refine am_e_virtual (Q := fun r => r = (some (.inl 5), (am_mm D I J ρ))) rfl rfl (Nat.le_of_ble_eq_true rfl) rfl rfl (Nat.le_of_ble_eq_true rfl) (Nat.le_of_ble_eq_true rfl) (am_len_8 _) ?_
  rintro r rfl
  show am_E _ _ _ 7 [(2, .inl 0), (0, .inr (.inr (.inl (some 107)))), (1, .inr (.inr (.inr 17)))] [.inl 5, .inl 0] (am_mm D I J ρ) _
  refine am_e_s (q := (10, [(2, .inl 0), (0, .inr (.inr (.inl (some 107)))), (1, .inr (.inr (.inr 17)))], [], (am_mm D I J ρ))) rfl rfl ?_
  refine am_e_ss 3 (q := (13, [(2, .inl 0), (0, .inr (.inr (.inl (some 107)))), (1, .inr (.inr (.inr 17)))], [.inl 0, .inr (.inr (.inr 17)), .inr (.inr (.inl (some 107)))], (am_mm D I J ρ))) rfl ?_
  refine am_e_virtual (Q := fun r => r = (some (.inl 114), (am_mm D I J ρ))) rfl rfl (Nat.le_of_ble_eq_true rfl) rfl rfl (Nat.le_of_ble_eq_true rfl) (Nat.le_of_ble_eq_true rfl) (am_chr_8_0 _) ?_
  rintro r rfl
  show am_E _ _ _ 16 [(2, .inl 0), (0, .inr (.inr (.inl (some 107)))), (1, .inr (.inr (.inr 17)))] [.inl 114, .inr (.inr (.inl (some 107)))] (am_mm D I J ρ) _
  refine am_e_virtual (Q := fun r => ∃ K21, r = (none, (am_mm D K21 J ρ)) ∧ r_cs I0 K21 hs z a w e ((pt_bd R (fun p L => pt_ms hs 114 p L)))) rfl rfl (Nat.le_of_ble_eq_true rfl) rfl rfl (Nat.le_of_ble_eq_true rfl) (Nat.le_of_ble_eq_true rfl) (r_mustC _ hcs (s := 114) (by decide)) ?_
  rintro r ⟨K21, rfl, g21⟩
  show am_E _ _ _ 19 [(2, .inl 0), (0, .inr (.inr (.inl (some 107)))), (1, .inr (.inr (.inr 17)))] [] (am_mm D K21 J ρ) _
  refine am_e_ss 4 (q := (4, [(2, .inl (0 + 1)), (0, .inr (.inr (.inl (some 107)))), (1, .inr (.inr (.inr 17)))], [.inr (.inr (.inr 17)), .inl (0 + 1)], (am_mm D K21 J ρ))) rfl ?_
  refine am_e_virtual (Q := fun r => r = (some (.inl 5), (am_mm D K21 J ρ))) rfl rfl (Nat.le_of_ble_eq_true rfl) rfl rfl (Nat.le_of_ble_eq_true rfl) (Nat.le_of_ble_eq_true rfl) (am_len_8 _) ?_
  rintro r rfl
  show am_E _ _ _ 7 [(2, .inl (0 + 1)), (0, .inr (.inr (.inl (some 107)))), (1, .inr (.inr (.inr 17)))] [.inl 5, .inl (0 + 1)] (am_mm D K21 J ρ) _
  refine am_e_s (q := (10, [(2, .inl (0 + 1)), (0, .inr (.inr (.inl (some 107)))), (1, .inr (.inr (.inr 17)))], [], (am_mm D K21 J ρ))) rfl rfl ?_
  refine am_e_ss 3 (q := (13, [(2, .inl (0 + 1)), (0, .inr (.inr (.inl (some 107)))), (1, .inr (.inr (.inr 17)))], [.inl (0 + 1), .inr (.inr (.inr 17)), .inr (.inr (.inl (some 107)))], (am_mm D K21 J ρ))) rfl ?_
  refine am_e_virtual (Q := fun r => r = (some (.inl 101), (am_mm D K21 J ρ))) rfl rfl (Nat.le_of_ble_eq_true rfl) rfl rfl (Nat.le_of_ble_eq_true rfl) (Nat.le_of_ble_eq_true rfl) (am_chr_8_1 _) ?_
  rintro r rfl
  show am_E _ _ _ 16 [(2, .inl (0 + 1)), (0, .inr (.inr (.inl (some 107)))), (1, .inr (.inr (.inr 17)))] [.inl 101, .inr (.inr (.inl (some 107)))] (am_mm D K21 J ρ) _
  refine am_e_virtual (Q := fun r => ∃ K22, r = (none, (am_mm D K22 J ρ)) ∧ r_cs I0 K22 hs z a w e ((pt_bd ((pt_bd R (fun p L => pt_ms hs 114 p L))) (fun p L => pt_ms hs 101 p L)))) rfl rfl (Nat.le_of_ble_eq_true rfl) rfl rfl (Nat.le_of_ble_eq_true rfl) (Nat.le_of_ble_eq_true rfl) (r_mustC _ g21 (s := 101) (by decide)) ?_
  rintro r ⟨K22, rfl, g22⟩
  show am_E _ _ _ 19 [(2, .inl (0 + 1)), (0, .inr (.inr (.inl (some 107)))), (1, .inr (.inr (.inr 17)))] [] (am_mm D K22 J ρ) _
  refine am_e_ss 4 (q := (4, [(2, .inl ((0 + 1) + 1)), (0, .inr (.inr (.inl (some 107)))), (1, .inr (.inr (.inr 17)))], [.inr (.inr (.inr 17)), .inl ((0 + 1) + 1)], (am_mm D K22 J ρ))) rfl ?_
  refine am_e_virtual (Q := fun r => r = (some (.inl 5), (am_mm D K22 J ρ))) rfl rfl (Nat.le_of_ble_eq_true rfl) rfl rfl (Nat.le_of_ble_eq_true rfl) (Nat.le_of_ble_eq_true rfl) (am_len_8 _) ?_
  rintro r rfl
  show am_E _ _ _ 7 [(2, .inl ((0 + 1) + 1)), (0, .inr (.inr (.inl (some 107)))), (1, .inr (.inr (.inr 17)))] [.inl 5, .inl ((0 + 1) + 1)] (am_mm D K22 J ρ) _
  refine am_e_s (q := (10, [(2, .inl ((0 + 1) + 1)), (0, .inr (.inr (.inl (some 107)))), (1, .inr (.inr (.inr 17)))], [], (am_mm D K22 J ρ))) rfl rfl ?_
  refine am_e_ss 3 (q := (13, [(2, .inl ((0 + 1) + 1)), (0, .inr (.inr (.inl (some 107)))), (1, .inr (.inr (.inr 17)))], [.inl ((0 + 1) + 1), .inr (.inr (.inr 17)), .inr (.inr (.inl (some 107)))], (am_mm D K22 J ρ))) rfl ?_
  refine am_e_virtual (Q := fun r => r = (some (.inl 97), (am_mm D K22 J ρ))) rfl rfl (Nat.le_of_ble_eq_true rfl) rfl rfl (Nat.le_of_ble_eq_true rfl) (Nat.le_of_ble_eq_true rfl) (am_chr_8_2 _) ?_
  rintro r rfl
  show am_E _ _ _ 16 [(2, .inl ((0 + 1) + 1)), (0, .inr (.inr (.inl (some 107)))), (1, .inr (.inr (.inr 17)))] [.inl 97, .inr (.inr (.inl (some 107)))] (am_mm D K22 J ρ) _
  refine am_e_virtual (Q := fun r => ∃ K23, r = (none, (am_mm D K23 J ρ)) ∧ r_cs I0 K23 hs z a w e ((pt_bd ((pt_bd ((pt_bd R (fun p L => pt_ms hs 114 p L))) (fun p L => pt_ms hs 101 p L))) (fun p L => pt_ms hs 97 p L)))) rfl rfl (Nat.le_of_ble_eq_true rfl) rfl rfl (Nat.le_of_ble_eq_true rfl) (Nat.le_of_ble_eq_true rfl) (r_mustC _ g22 (s := 97) (by decide)) ?_
  rintro r ⟨K23, rfl, g23⟩
  show am_E _ _ _ 19 [(2, .inl ((0 + 1) + 1)), (0, .inr (.inr (.inl (some 107)))), (1, .inr (.inr (.inr 17)))] [] (am_mm D K23 J ρ) _
  refine am_e_ss 4 (q := (4, [(2, .inl (((0 + 1) + 1) + 1)), (0, .inr (.inr (.inl (some 107)))), (1, .inr (.inr (.inr 17)))], [.inr (.inr (.inr 17)), .inl (((0 + 1) + 1) + 1)], (am_mm D K23 J ρ))) rfl ?_
  refine am_e_virtual (Q := fun r => r = (some (.inl 5), (am_mm D K23 J ρ))) rfl rfl (Nat.le_of_ble_eq_true rfl) rfl rfl (Nat.le_of_ble_eq_true rfl) (Nat.le_of_ble_eq_true rfl) (am_len_8 _) ?_
  rintro r rfl
  show am_E _ _ _ 7 [(2, .inl (((0 + 1) + 1) + 1)), (0, .inr (.inr (.inl (some 107)))), (1, .inr (.inr (.inr 17)))] [.inl 5, .inl (((0 + 1) + 1) + 1)] (am_mm D K23 J ρ) _
  refine am_e_s (q := (10, [(2, .inl (((0 + 1) + 1) + 1)), (0, .inr (.inr (.inl (some 107)))), (1, .inr (.inr (.inr 17)))], [], (am_mm D K23 J ρ))) rfl rfl ?_
  refine am_e_ss 3 (q := (13, [(2, .inl (((0 + 1) + 1) + 1)), (0, .inr (.inr (.inl (some 107)))), (1, .inr (.inr (.inr 17)))], [.inl (((0 + 1) + 1) + 1), .inr (.inr (.inr 17)), .inr (.inr (.inl (some 107)))], (am_mm D K23 J ρ))) rfl ?_
  refine am_e_virtual (Q := fun r => r = (some (.inl 100), (am_mm D K23 J ρ))) rfl rfl (Nat.le_of_ble_eq_true rfl) rfl rfl (Nat.le_of_ble_eq_true rfl) (Nat.le_of_ble_eq_true rfl) (am_chr_8_3 _) ?_
  rintro r rfl
  show am_E _ _ _ 16 [(2, .inl (((0 + 1) + 1) + 1)), (0, .inr (.inr (.inl (some 107)))), (1, .inr (.inr (.inr 17)))] [.inl 100, .inr (.inr (.inl (some 107)))] (am_mm D K23 J ρ) _
  refine am_e_virtual (Q := fun r => ∃ K24, r = (none, (am_mm D K24 J ρ)) ∧ r_cs I0 K24 hs z a w e ((pt_bd ((pt_bd ((pt_bd ((pt_bd R (fun p L => pt_ms hs 114 p L))) (fun p L => pt_ms hs 101 p L))) (fun p L => pt_ms hs 97 p L))) (fun p L => pt_ms hs 100 p L)))) rfl rfl (Nat.le_of_ble_eq_true rfl) rfl rfl (Nat.le_of_ble_eq_true rfl) (Nat.le_of_ble_eq_true rfl) (r_mustC _ g23 (s := 100) (by decide)) ?_
  rintro r ⟨K24, rfl, g24⟩
  show am_E _ _ _ 19 [(2, .inl (((0 + 1) + 1) + 1)), (0, .inr (.inr (.inl (some 107)))), (1, .inr (.inr (.inr 17)))] [] (am_mm D K24 J ρ) _
  refine am_e_ss 4 (q := (4, [(2, .inl ((((0 + 1) + 1) + 1) + 1)), (0, .inr (.inr (.inl (some 107)))), (1, .inr (.inr (.inr 17)))], [.inr (.inr (.inr 17)), .inl ((((0 + 1) + 1) + 1) + 1)], (am_mm D K24 J ρ))) rfl ?_
  refine am_e_virtual (Q := fun r => r = (some (.inl 5), (am_mm D K24 J ρ))) rfl rfl (Nat.le_of_ble_eq_true rfl) rfl rfl (Nat.le_of_ble_eq_true rfl) (Nat.le_of_ble_eq_true rfl) (am_len_8 _) ?_
  rintro r rfl
  show am_E _ _ _ 7 [(2, .inl ((((0 + 1) + 1) + 1) + 1)), (0, .inr (.inr (.inl (some 107)))), (1, .inr (.inr (.inr 17)))] [.inl 5, .inl ((((0 + 1) + 1) + 1) + 1)] (am_mm D K24 J ρ) _
  refine am_e_s (q := (10, [(2, .inl ((((0 + 1) + 1) + 1) + 1)), (0, .inr (.inr (.inl (some 107)))), (1, .inr (.inr (.inr 17)))], [], (am_mm D K24 J ρ))) rfl rfl ?_
  refine am_e_ss 3 (q := (13, [(2, .inl ((((0 + 1) + 1) + 1) + 1)), (0, .inr (.inr (.inl (some 107)))), (1, .inr (.inr (.inr 17)))], [.inl ((((0 + 1) + 1) + 1) + 1), .inr (.inr (.inr 17)), .inr (.inr (.inl (some 107)))], (am_mm D K24 J ρ))) rfl ?_
  refine am_e_virtual (Q := fun r => r = (some (.inl 32), (am_mm D K24 J ρ))) rfl rfl (Nat.le_of_ble_eq_true rfl) rfl rfl (Nat.le_of_ble_eq_true rfl) (Nat.le_of_ble_eq_true rfl) (am_chr_8_4 _) ?_
  rintro r rfl
  show am_E _ _ _ 16 [(2, .inl ((((0 + 1) + 1) + 1) + 1)), (0, .inr (.inr (.inl (some 107)))), (1, .inr (.inr (.inr 17)))] [.inl 32, .inr (.inr (.inl (some 107)))] (am_mm D K24 J ρ) _
  refine am_e_virtual (Q := fun r => ∃ K25, r = (none, (am_mm D K25 J ρ)) ∧ r_cs I0 K25 hs z a w e ((pt_bd ((pt_bd ((pt_bd ((pt_bd ((pt_bd R (fun p L => pt_ms hs 114 p L))) (fun p L => pt_ms hs 101 p L))) (fun p L => pt_ms hs 97 p L))) (fun p L => pt_ms hs 100 p L))) (fun p L => pt_ms hs 32 p L)))) rfl rfl (Nat.le_of_ble_eq_true rfl) rfl rfl (Nat.le_of_ble_eq_true rfl) (Nat.le_of_ble_eq_true rfl) (r_mustC _ g24 (s := 32) (by decide)) ?_
  rintro r ⟨K25, rfl, g25⟩
  show am_E _ _ _ 19 [(2, .inl ((((0 + 1) + 1) + 1) + 1)), (0, .inr (.inr (.inl (some 107)))), (1, .inr (.inr (.inr 17)))] [] (am_mm D K25 J ρ) _
  refine am_e_ss 4 (q := (4, [(2, .inl (((((0 + 1) + 1) + 1) + 1) + 1)), (0, .inr (.inr (.inl (some 107)))), (1, .inr (.inr (.inr 17)))], [.inr (.inr (.inr 17)), .inl (((((0 + 1) + 1) + 1) + 1) + 1)], (am_mm D K25 J ρ))) rfl ?_
  refine am_e_virtual (Q := fun r => r = (some (.inl 5), (am_mm D K25 J ρ))) rfl rfl (Nat.le_of_ble_eq_true rfl) rfl rfl (Nat.le_of_ble_eq_true rfl) (Nat.le_of_ble_eq_true rfl) (am_len_8 _) ?_
  rintro r rfl
  show am_E _ _ _ 7 [(2, .inl (((((0 + 1) + 1) + 1) + 1) + 1)), (0, .inr (.inr (.inl (some 107)))), (1, .inr (.inr (.inr 17)))] [.inl 5, .inl (((((0 + 1) + 1) + 1) + 1) + 1)] (am_mm D K25 J ρ) _
  refine am_e_s (q := (25, [(2, .inl (((((0 + 1) + 1) + 1) + 1) + 1)), (0, .inr (.inr (.inl (some 107)))), (1, .inr (.inr (.inr 17)))], [], (am_mm D K25 J ρ))) rfl rfl ?_
  refine am_e_return rfl rfl ?_
  exact ⟨_, rfl, g25⟩
theorem r_spells9 {X : Nat × (Nat → Int)} {D : List (Nat × Nat)} {I J : Nat → Nat → Int} {ρ : Nat → Nat → Option Nat} (d : Nat) {I0 : Nat → Nat → Int} {hs : Nat → Int} {z a : Nat} {w e : Int} {R : pt_R} (hcs : r_cs I0 I hs z a w e R)  : am_E X (d + 4) 137 0 [(0, .inr (.inr (.inl (some 107)))), (1, .inr (.inr (.inr 19)))] [] (am_mm D I J ρ) (fun r => ∃ K, r = (none, am_mm D K J ρ) ∧ r_cs I0 K hs z a w e ((pt_sp hs [99, 111, 109, 101, 32] R))) := by
  refine am_e_ss 4 (q := (4, [(2, .inl 0), (0, .inr (.inr (.inl (some 107)))), (1, .inr (.inr (.inr 19)))], [.inr (.inr (.inr 19)), .inl 0], (am_mm D I J ρ))) rfl ?_
  refine am_e_virtual (Q := fun r => r = (some (.inl 5), (am_mm D I J ρ))) rfl rfl (Nat.le_of_ble_eq_true rfl) rfl rfl (Nat.le_of_ble_eq_true rfl) (Nat.le_of_ble_eq_true rfl) (am_len_9 _) ?_
  rintro r rfl
  show am_E _ _ _ 7 [(2, .inl 0), (0, .inr (.inr (.inl (some 107)))), (1, .inr (.inr (.inr 19)))] [.inl 5, .inl 0] (am_mm D I J ρ) _
  refine am_e_s (q := (10, [(2, .inl 0), (0, .inr (.inr (.inl (some 107)))), (1, .inr (.inr (.inr 19)))], [], (am_mm D I J ρ))) rfl rfl ?_
  refine am_e_ss 3 (q := (13, [(2, .inl 0), (0, .inr (.inr (.inl (some 107)))), (1, .inr (.inr (.inr 19)))], [.inl 0, .inr (.inr (.inr 19)), .inr (.inr (.inl (some 107)))], (am_mm D I J ρ))) rfl ?_
  refine am_e_virtual (Q := fun r => r = (some (.inl 99), (am_mm D I J ρ))) rfl rfl (Nat.le_of_ble_eq_true rfl) rfl rfl (Nat.le_of_ble_eq_true rfl) (Nat.le_of_ble_eq_true rfl) (am_chr_9_0 _) ?_
  rintro r rfl
  show am_E _ _ _ 16 [(2, .inl 0), (0, .inr (.inr (.inl (some 107)))), (1, .inr (.inr (.inr 19)))] [.inl 99, .inr (.inr (.inl (some 107)))] (am_mm D I J ρ) _
  refine am_e_virtual (Q := fun r => ∃ K26, r = (none, (am_mm D K26 J ρ)) ∧ r_cs I0 K26 hs z a w e ((pt_bd R (fun p L => pt_ms hs 99 p L)))) rfl rfl (Nat.le_of_ble_eq_true rfl) rfl rfl (Nat.le_of_ble_eq_true rfl) (Nat.le_of_ble_eq_true rfl) (r_mustC _ hcs (s := 99) (by decide)) ?_
  rintro r ⟨K26, rfl, g26⟩
  show am_E _ _ _ 19 [(2, .inl 0), (0, .inr (.inr (.inl (some 107)))), (1, .inr (.inr (.inr 19)))] [] (am_mm D K26 J ρ) _
  refine am_e_ss 4 (q := (4, [(2, .inl (0 + 1)), (0, .inr (.inr (.inl (some 107)))), (1, .inr (.inr (.inr 19)))], [.inr (.inr (.inr 19)), .inl (0 + 1)], (am_mm D K26 J ρ))) rfl ?_
  refine am_e_virtual (Q := fun r => r = (some (.inl 5), (am_mm D K26 J ρ))) rfl rfl (Nat.le_of_ble_eq_true rfl) rfl rfl (Nat.le_of_ble_eq_true rfl) (Nat.le_of_ble_eq_true rfl) (am_len_9 _) ?_
  rintro r rfl
  show am_E _ _ _ 7 [(2, .inl (0 + 1)), (0, .inr (.inr (.inl (some 107)))), (1, .inr (.inr (.inr 19)))] [.inl 5, .inl (0 + 1)] (am_mm D K26 J ρ) _
  refine am_e_s (q := (10, [(2, .inl (0 + 1)), (0, .inr (.inr (.inl (some 107)))), (1, .inr (.inr (.inr 19)))], [], (am_mm D K26 J ρ))) rfl rfl ?_
  refine am_e_ss 3 (q := (13, [(2, .inl (0 + 1)), (0, .inr (.inr (.inl (some 107)))), (1, .inr (.inr (.inr 19)))], [.inl (0 + 1), .inr (.inr (.inr 19)), .inr (.inr (.inl (some 107)))], (am_mm D K26 J ρ))) rfl ?_
  refine am_e_virtual (Q := fun r => r = (some (.inl 111), (am_mm D K26 J ρ))) rfl rfl (Nat.le_of_ble_eq_true rfl) rfl rfl (Nat.le_of_ble_eq_true rfl) (Nat.le_of_ble_eq_true rfl) (am_chr_9_1 _) ?_
  rintro r rfl
  show am_E _ _ _ 16 [(2, .inl (0 + 1)), (0, .inr (.inr (.inl (some 107)))), (1, .inr (.inr (.inr 19)))] [.inl 111, .inr (.inr (.inl (some 107)))] (am_mm D K26 J ρ) _
  refine am_e_virtual (Q := fun r => ∃ K27, r = (none, (am_mm D K27 J ρ)) ∧ r_cs I0 K27 hs z a w e ((pt_bd ((pt_bd R (fun p L => pt_ms hs 99 p L))) (fun p L => pt_ms hs 111 p L)))) rfl rfl (Nat.le_of_ble_eq_true rfl) rfl rfl (Nat.le_of_ble_eq_true rfl) (Nat.le_of_ble_eq_true rfl) (r_mustC _ g26 (s := 111) (by decide)) ?_
  rintro r ⟨K27, rfl, g27⟩
  show am_E _ _ _ 19 [(2, .inl (0 + 1)), (0, .inr (.inr (.inl (some 107)))), (1, .inr (.inr (.inr 19)))] [] (am_mm D K27 J ρ) _
  refine am_e_ss 4 (q := (4, [(2, .inl ((0 + 1) + 1)), (0, .inr (.inr (.inl (some 107)))), (1, .inr (.inr (.inr 19)))], [.inr (.inr (.inr 19)), .inl ((0 + 1) + 1)], (am_mm D K27 J ρ))) rfl ?_
  refine am_e_virtual (Q := fun r => r = (some (.inl 5), (am_mm D K27 J ρ))) rfl rfl (Nat.le_of_ble_eq_true rfl) rfl rfl (Nat.le_of_ble_eq_true rfl) (Nat.le_of_ble_eq_true rfl) (am_len_9 _) ?_
  rintro r rfl
  show am_E _ _ _ 7 [(2, .inl ((0 + 1) + 1)), (0, .inr (.inr (.inl (some 107)))), (1, .inr (.inr (.inr 19)))] [.inl 5, .inl ((0 + 1) + 1)] (am_mm D K27 J ρ) _
  refine am_e_s (q := (10, [(2, .inl ((0 + 1) + 1)), (0, .inr (.inr (.inl (some 107)))), (1, .inr (.inr (.inr 19)))], [], (am_mm D K27 J ρ))) rfl rfl ?_
  refine am_e_ss 3 (q := (13, [(2, .inl ((0 + 1) + 1)), (0, .inr (.inr (.inl (some 107)))), (1, .inr (.inr (.inr 19)))], [.inl ((0 + 1) + 1), .inr (.inr (.inr 19)), .inr (.inr (.inl (some 107)))], (am_mm D K27 J ρ))) rfl ?_
  refine am_e_virtual (Q := fun r => r = (some (.inl 109), (am_mm D K27 J ρ))) rfl rfl (Nat.le_of_ble_eq_true rfl) rfl rfl (Nat.le_of_ble_eq_true rfl) (Nat.le_of_ble_eq_true rfl) (am_chr_9_2 _) ?_
  rintro r rfl
  show am_E _ _ _ 16 [(2, .inl ((0 + 1) + 1)), (0, .inr (.inr (.inl (some 107)))), (1, .inr (.inr (.inr 19)))] [.inl 109, .inr (.inr (.inl (some 107)))] (am_mm D K27 J ρ) _
  refine am_e_virtual (Q := fun r => ∃ K28, r = (none, (am_mm D K28 J ρ)) ∧ r_cs I0 K28 hs z a w e ((pt_bd ((pt_bd ((pt_bd R (fun p L => pt_ms hs 99 p L))) (fun p L => pt_ms hs 111 p L))) (fun p L => pt_ms hs 109 p L)))) rfl rfl (Nat.le_of_ble_eq_true rfl) rfl rfl (Nat.le_of_ble_eq_true rfl) (Nat.le_of_ble_eq_true rfl) (r_mustC _ g27 (s := 109) (by decide)) ?_
  rintro r ⟨K28, rfl, g28⟩
  show am_E _ _ _ 19 [(2, .inl ((0 + 1) + 1)), (0, .inr (.inr (.inl (some 107)))), (1, .inr (.inr (.inr 19)))] [] (am_mm D K28 J ρ) _
  refine am_e_ss 4 (q := (4, [(2, .inl (((0 + 1) + 1) + 1)), (0, .inr (.inr (.inl (some 107)))), (1, .inr (.inr (.inr 19)))], [.inr (.inr (.inr 19)), .inl (((0 + 1) + 1) + 1)], (am_mm D K28 J ρ))) rfl ?_
  refine am_e_virtual (Q := fun r => r = (some (.inl 5), (am_mm D K28 J ρ))) rfl rfl (Nat.le_of_ble_eq_true rfl) rfl rfl (Nat.le_of_ble_eq_true rfl) (Nat.le_of_ble_eq_true rfl) (am_len_9 _) ?_
  rintro r rfl
  show am_E _ _ _ 7 [(2, .inl (((0 + 1) + 1) + 1)), (0, .inr (.inr (.inl (some 107)))), (1, .inr (.inr (.inr 19)))] [.inl 5, .inl (((0 + 1) + 1) + 1)] (am_mm D K28 J ρ) _
  refine am_e_s (q := (10, [(2, .inl (((0 + 1) + 1) + 1)), (0, .inr (.inr (.inl (some 107)))), (1, .inr (.inr (.inr 19)))], [], (am_mm D K28 J ρ))) rfl rfl ?_
  refine am_e_ss 3 (q := (13, [(2, .inl (((0 + 1) + 1) + 1)), (0, .inr (.inr (.inl (some 107)))), (1, .inr (.inr (.inr 19)))], [.inl (((0 + 1) + 1) + 1), .inr (.inr (.inr 19)), .inr (.inr (.inl (some 107)))], (am_mm D K28 J ρ))) rfl ?_
  refine am_e_virtual (Q := fun r => r = (some (.inl 101), (am_mm D K28 J ρ))) rfl rfl (Nat.le_of_ble_eq_true rfl) rfl rfl (Nat.le_of_ble_eq_true rfl) (Nat.le_of_ble_eq_true rfl) (am_chr_9_3 _) ?_
  rintro r rfl
  show am_E _ _ _ 16 [(2, .inl (((0 + 1) + 1) + 1)), (0, .inr (.inr (.inl (some 107)))), (1, .inr (.inr (.inr 19)))] [.inl 101, .inr (.inr (.inl (some 107)))] (am_mm D K28 J ρ) _
  refine am_e_virtual (Q := fun r => ∃ K29, r = (none, (am_mm D K29 J ρ)) ∧ r_cs I0 K29 hs z a w e ((pt_bd ((pt_bd ((pt_bd ((pt_bd R (fun p L => pt_ms hs 99 p L))) (fun p L => pt_ms hs 111 p L))) (fun p L => pt_ms hs 109 p L))) (fun p L => pt_ms hs 101 p L)))) rfl rfl (Nat.le_of_ble_eq_true rfl) rfl rfl (Nat.le_of_ble_eq_true rfl) (Nat.le_of_ble_eq_true rfl) (r_mustC _ g28 (s := 101) (by decide)) ?_
  rintro r ⟨K29, rfl, g29⟩
  show am_E _ _ _ 19 [(2, .inl (((0 + 1) + 1) + 1)), (0, .inr (.inr (.inl (some 107)))), (1, .inr (.inr (.inr 19)))] [] (am_mm D K29 J ρ) _
  refine am_e_ss 4 (q := (4, [(2, .inl ((((0 + 1) + 1) + 1) + 1)), (0, .inr (.inr (.inl (some 107)))), (1, .inr (.inr (.inr 19)))], [.inr (.inr (.inr 19)), .inl ((((0 + 1) + 1) + 1) + 1)], (am_mm D K29 J ρ))) rfl ?_
  refine am_e_virtual (Q := fun r => r = (some (.inl 5), (am_mm D K29 J ρ))) rfl rfl (Nat.le_of_ble_eq_true rfl) rfl rfl (Nat.le_of_ble_eq_true rfl) (Nat.le_of_ble_eq_true rfl) (am_len_9 _) ?_
  rintro r rfl
  show am_E _ _ _ 7 [(2, .inl ((((0 + 1) + 1) + 1) + 1)), (0, .inr (.inr (.inl (some 107)))), (1, .inr (.inr (.inr 19)))] [.inl 5, .inl ((((0 + 1) + 1) + 1) + 1)] (am_mm D K29 J ρ) _
  refine am_e_s (q := (10, [(2, .inl ((((0 + 1) + 1) + 1) + 1)), (0, .inr (.inr (.inl (some 107)))), (1, .inr (.inr (.inr 19)))], [], (am_mm D K29 J ρ))) rfl rfl ?_
  refine am_e_ss 3 (q := (13, [(2, .inl ((((0 + 1) + 1) + 1) + 1)), (0, .inr (.inr (.inl (some 107)))), (1, .inr (.inr (.inr 19)))], [.inl ((((0 + 1) + 1) + 1) + 1), .inr (.inr (.inr 19)), .inr (.inr (.inl (some 107)))], (am_mm D K29 J ρ))) rfl ?_
  refine am_e_virtual (Q := fun r => r = (some (.inl 32), (am_mm D K29 J ρ))) rfl rfl (Nat.le_of_ble_eq_true rfl) rfl rfl (Nat.le_of_ble_eq_true rfl) (Nat.le_of_ble_eq_true rfl) (am_chr_9_4 _) ?_
  rintro r rfl
  show am_E _ _ _ 16 [(2, .inl ((((0 + 1) + 1) + 1) + 1)), (0, .inr (.inr (.inl (some 107)))), (1, .inr (.inr (.inr 19)))] [.inl 32, .inr (.inr (.inl (some 107)))] (am_mm D K29 J ρ) _
  refine am_e_virtual (Q := fun r => ∃ K30, r = (none, (am_mm D K30 J ρ)) ∧ r_cs I0 K30 hs z a w e ((pt_bd ((pt_bd ((pt_bd ((pt_bd ((pt_bd R (fun p L => pt_ms hs 99 p L))) (fun p L => pt_ms hs 111 p L))) (fun p L => pt_ms hs 109 p L))) (fun p L => pt_ms hs 101 p L))) (fun p L => pt_ms hs 32 p L)))) rfl rfl (Nat.le_of_ble_eq_true rfl) rfl rfl (Nat.le_of_ble_eq_true rfl) (Nat.le_of_ble_eq_true rfl) (r_mustC _ g29 (s := 32) (by decide)) ?_
  rintro r ⟨K30, rfl, g30⟩
  show am_E _ _ _ 19 [(2, .inl ((((0 + 1) + 1) + 1) + 1)), (0, .inr (.inr (.inl (some 107)))), (1, .inr (.inr (.inr 19)))] [] (am_mm D K30 J ρ) _
  refine am_e_ss 4 (q := (4, [(2, .inl (((((0 + 1) + 1) + 1) + 1) + 1)), (0, .inr (.inr (.inl (some 107)))), (1, .inr (.inr (.inr 19)))], [.inr (.inr (.inr 19)), .inl (((((0 + 1) + 1) + 1) + 1) + 1)], (am_mm D K30 J ρ))) rfl ?_
  refine am_e_virtual (Q := fun r => r = (some (.inl 5), (am_mm D K30 J ρ))) rfl rfl (Nat.le_of_ble_eq_true rfl) rfl rfl (Nat.le_of_ble_eq_true rfl) (Nat.le_of_ble_eq_true rfl) (am_len_9 _) ?_
  rintro r rfl
  show am_E _ _ _ 7 [(2, .inl (((((0 + 1) + 1) + 1) + 1) + 1)), (0, .inr (.inr (.inl (some 107)))), (1, .inr (.inr (.inr 19)))] [.inl 5, .inl (((((0 + 1) + 1) + 1) + 1) + 1)] (am_mm D K30 J ρ) _
  refine am_e_s (q := (25, [(2, .inl (((((0 + 1) + 1) + 1) + 1) + 1)), (0, .inr (.inr (.inl (some 107)))), (1, .inr (.inr (.inr 19)))], [], (am_mm D K30 J ρ))) rfl rfl ?_
  refine am_e_return rfl rfl ?_
  exact ⟨_, rfl, g30⟩
