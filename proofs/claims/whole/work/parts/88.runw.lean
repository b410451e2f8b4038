/-! THE REFERENCE: run, asked for what can't be -/
theorem am_w_lo {v : Int} (h : -2147483658 ≤ v ∧ v < -2147483648) : am_w v = v + 4294967296 := by
  unfold am_w
  rw [Int32.toInt_ofInt]
  show Int.bmod v 4294967296 = v + 4294967296
  unfold Int.bmod
  have h1 : v % ((4294967296 : Nat) : Int) = v + 4294967296 := by omega
  rw [h1]
  show (if v + 4294967296 < (((4294967296 : Nat) : Int) + 1) / 2 then v + 4294967296 else v + 4294967296 - ((4294967296 : Nat) : Int)) = v + 4294967296
  split <;> omega
theorem r_inW {X : Nat × (Nat → Int)} {D : List (Nat × Nat)} {I J : Nat → Nat → Int} {ρ : Nat → Nat → Option Nat} (d : Nat) {v hi : Int} (hv : -2147483658 ≤ v ∧ v < -2147483648) (hh : -1 ≤ hi ∧ hi ≤ 100) : am_E X d 126 0 [(0, .inl v), (1, .inl 0), (2, .inl hi)] [] (am_mm D I J ρ) (fun r => r = (some (.inl 0), am_mm D I J ρ)) := by
  have ew := am_w_lo hv
  have eh : am_w hi = hi := am_w_id (by omega) (by omega)
  have h14 : am_E X d 126 14 [(0, .inl v), (1, .inl 0), (2, .inl hi)] [] (am_mm D I J ρ) (fun r => r = (some (.inl 0), am_mm D I J ρ)) := by
    refine am_e_ss 1 (q := (15, [(0, .inl v), (1, .inl 0), (2, .inl hi)], [.inl 0], (am_mm D I J ρ))) rfl ?_
    refine am_e_ireturn rfl rfl ?_
    rfl
  refine am_e_ss 2 (q := (2, [(0, .inl v), (1, .inl 0), (2, .inl hi)], [.inl 0, .inl v], (am_mm D I J ρ))) rfl ?_
  refine am_e_icmp rfl (fun _ => h14) (fun _ => ?_)
  show am_E _ _ _ 5 [(0, .inl v), (1, .inl 0), (2, .inl hi)] [] (am_mm D I J ρ) _
  refine am_e_ss 2 (q := (7, [(0, .inl v), (1, .inl 0), (2, .inl hi)], [.inl hi, .inl v], (am_mm D I J ρ))) rfl ?_
  refine am_e_icmp rfl (fun _ => h14) (fun h2 => ?_)
  have h3 : ¬ (am_w hi < am_w v) := h2
  rw [ew, eh] at h3
  exfalso
  omega
theorem r_isMemW {X : Nat × (Nat → Int)} {D : List (Nat × Nat)} {I J : Nat → Nat → Int} {ρ : Nat → Nat → Option Nat} (d : Nat) {v : Int} (hv : -2147483658 ≤ v ∧ v < -2147483648) (h19 : 0 ≤ I 108 19 ∧ I 108 19 ≤ 6) : am_E X (d + 1) 127 0 [(0, .inr (.inr (.inl (some 107)))), (1, .inl v)] [] (am_mm D I J ρ) (fun r => r = (some (.inl ((am_bi (0 ≤ v ∧ v ≤ I 108 19 - 1)))), (am_mm D I J ρ))) := by
  refine am_e_ss 8 (q := (11, [(0, .inr (.inr (.inl (some 107)))), (1, .inl v)], [.inl ((I 108 19) - 1), .inl 0, .inl v], (am_mm D I J ρ))) rfl ?_
  refine am_e_static (Q := fun r => r = (some (.inl 0), (am_mm D I J ρ))) rfl (Nat.le_of_ble_eq_true rfl) rfl (Nat.le_of_ble_eq_true rfl) (Nat.le_of_ble_eq_true rfl) (r_inW _ hv ⟨by omega, by omega⟩) ?_
  rintro r rfl
  show am_E _ _ _ 14 [(0, .inr (.inr (.inl (some 107)))), (1, .inl v)] [.inl 0] (am_mm D I J ρ) _
  refine am_e_ireturn rfl rfl ?_
  rw [am_bi_f (by omega)]
theorem r_runW {X : Nat × (Nat → Int)} {D : List (Nat × Nat)} {I J : Nat → Nat → Int} {ρ : Nat → Nat → Option Nat} (d : Nat) {B n way what : Int} (hway : -2147483648 ≤ way ∧ way < 2147483648) (hwhat : -2147483648 ≤ what ∧ what < -2147483638) (hok : r_ok (I 108) B) : am_E X (d + 2) 195 0 [(0, .inr (.inr (.inl (some 107)))), (1, .inl n), (2, .inl way), (3, .inl what)] [] (am_mm D I J ρ) (fun r => ∃ Q, r = (some (.inl (sp_run (I 108) n way what)), am_mm D (am_wp tU I Q) J ρ)) := by
  have h19 := r_ok_19 hok
  refine am_e_ss 1 (q := (1, [(0, .inr (.inr (.inl (some 107)))), (1, .inl n), (2, .inl way), (3, .inl what)], [.inl way], (am_mm D I J ρ))) rfl ?_
  refine am_e_static (Q := fun r => r = (some (.inl ((am_bi (0 ≤ way ∧ way ≤ 5)))), (am_mm D I J ρ))) rfl (Nat.le_of_ble_eq_true rfl) rfl (Nat.le_of_ble_eq_true rfl) (Nat.le_of_ble_eq_true rfl) (r_isWay _ ⟨by omega, by omega⟩) ?_
  rintro r rfl
  show am_E _ _ _ 4 [(0, .inr (.inr (.inl (some 107)))), (1, .inl n), (2, .inl way), (3, .inl what)] [.inl ((am_bi (0 ≤ way ∧ way ≤ 5)))] (am_mm D I J ρ) _
  refine am_e_ifeq rfl (fun hw1 => ?_) (fun hw1 => ?_)
  · show am_E _ _ _ 27 [(0, .inr (.inr (.inl (some 107)))), (1, .inl n), (2, .inl way), (3, .inl what)] [] (am_mm D I J ρ) _
    refine am_e_ss 1 (q := (30, [(0, .inr (.inr (.inl (some 107)))), (1, .inl n), (2, .inl way), (3, .inl what)], [.inl (-10001)], (am_mm D I J ρ))) rfl ?_
    refine am_e_ireturn rfl rfl ?_
    have er : sp_run (I 108) n way what = (-10001) := by
      unfold sp_run
      (repeat' split) <;> first | rfl | (exfalso; omega)
    rw [er]
    exact ⟨I, am_r_wp tU am_k_id⟩
  · show am_E _ _ _ 7 [(0, .inr (.inr (.inl (some 107)))), (1, .inl n), (2, .inl way), (3, .inl what)] [] (am_mm D I J ρ) _
    refine am_e_ss 3 (q := (10, [(0, .inr (.inr (.inl (some 107)))), (1, .inl n), (2, .inl way), (3, .inl what)], [.inl 2, .inl 0, .inl what], (am_mm D I J ρ))) rfl ?_
    refine am_e_static (Q := fun r => r = (some (.inl ((am_bi (0 ≤ what ∧ what ≤ 2)))), (am_mm D I J ρ))) rfl (Nat.le_of_ble_eq_true rfl) rfl (Nat.le_of_ble_eq_true rfl) (Nat.le_of_ble_eq_true rfl) (r_in _ ⟨by omega, by omega⟩ ⟨by omega, by omega⟩ ⟨by omega, by omega⟩) ?_
    rintro r rfl
    show am_E _ _ _ 13 [(0, .inr (.inr (.inl (some 107)))), (1, .inl n), (2, .inl way), (3, .inl what)] [.inl ((am_bi (0 ≤ what ∧ what ≤ 2)))] (am_mm D I J ρ) _
    refine am_e_ifne rfl (fun hw2 => ?_) (fun hw2 => ?_)
    · show am_E _ _ _ 31 [(0, .inr (.inr (.inl (some 107)))), (1, .inl n), (2, .inl way), (3, .inl what)] [] (am_mm D I J ρ) _
      exfalso
      omega
    · show am_E _ _ _ 16 [(0, .inr (.inr (.inl (some 107)))), (1, .inl n), (2, .inl way), (3, .inl what)] [] (am_mm D I J ρ) _
      refine am_e_ss 4 (q := (21, [(0, .inr (.inr (.inl (some 107)))), (1, .inl n), (2, .inl way), (3, .inl what)], [.inl (what - 10), .inr (.inr (.inl (some 107)))], (am_mm D I J ρ))) rfl ?_
      refine am_e_virtual (Q := fun r => r = (some (.inl ((am_bi (0 ≤ (what - 10) ∧ (what - 10) ≤ I 108 19 - 1)))), (am_mm D I J ρ))) rfl rfl (Nat.le_of_ble_eq_true rfl) rfl rfl (Nat.le_of_ble_eq_true rfl) (Nat.le_of_ble_eq_true rfl) (r_isMemW _ ⟨by omega, by omega⟩ (show 0 ≤ I 108 19 ∧ I 108 19 ≤ 6 by omega)) ?_
      rintro r rfl
      show am_E _ _ _ 24 [(0, .inr (.inr (.inl (some 107)))), (1, .inl n), (2, .inl way), (3, .inl what)] [.inl ((am_bi (0 ≤ (what - 10) ∧ (what - 10) ≤ I 108 19 - 1)))] (am_mm D I J ρ) _
      refine am_e_ifne rfl (fun hw3 => ?_) (fun hw3 => ?_)
      · show am_E _ _ _ 31 [(0, .inr (.inr (.inl (some 107)))), (1, .inl n), (2, .inl way), (3, .inl what)] [] (am_mm D I J ρ) _
        exfalso
        omega
      · show am_E _ _ _ 27 [(0, .inr (.inr (.inl (some 107)))), (1, .inl n), (2, .inl way), (3, .inl what)] [] (am_mm D I J ρ) _
        refine am_e_ss 1 (q := (30, [(0, .inr (.inr (.inl (some 107)))), (1, .inl n), (2, .inl way), (3, .inl what)], [.inl (-10001)], (am_mm D I J ρ))) rfl ?_
        refine am_e_ireturn rfl rfl ?_
        have er : sp_run (I 108) n way what = (-10001) := by
          unfold sp_run
          (repeat' split) <;> first | rfl | (exfalso; omega)
        rw [er]
        exact ⟨I, am_r_wp tU am_k_id⟩
