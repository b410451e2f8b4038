/-! THE REFERENCE: its small questions -/
theorem r_in {X : Nat × (Nat → Int)} {D : List (Nat × Nat)} {I J : Nat → Nat → Int} {ρ : Nat → Nat → Option Nat} (d : Nat) {v lo hi : Int} (hv : -2147483648 ≤ v ∧ v < 2147483648) (hl : -2147483648 ≤ lo ∧ lo < 2147483648) (hh : -2147483648 ≤ hi ∧ hi < 2147483648) : am_E X d 126 0 [(0, .inl v), (1, .inl lo), (2, .inl hi)] [] (am_mm D I J ρ) (fun r => r = (some (.inl (am_bi (lo ≤ v ∧ v ≤ hi))), (am_mm D I J ρ))) := by
  refine am_e_ss 2 (q := (2, [(0, .inl v), (1, .inl lo), (2, .inl hi)], [.inl lo, .inl v], (am_mm D I J ρ))) rfl ?_
  refine am_e_icmp2 rfl ⟨by omega, by omega⟩ ⟨by omega, by omega⟩ (fun (h1 : v < lo) => ?_) (fun (h1 : ¬ (v < lo)) => ?_)
  · show am_E _ _ _ 14 [(0, .inl v), (1, .inl lo), (2, .inl hi)] [] (am_mm D I J ρ) _
    refine am_e_ss 1 (q := (15, [(0, .inl v), (1, .inl lo), (2, .inl hi)], [.inl 0], (am_mm D I J ρ))) rfl ?_
    refine am_e_ireturn rfl rfl ?_
    rw [am_bi_f (fun h => by omega)]; rfl
  · show am_E _ _ _ 5 [(0, .inl v), (1, .inl lo), (2, .inl hi)] [] (am_mm D I J ρ) _
    refine am_e_ss 2 (q := (7, [(0, .inl v), (1, .inl lo), (2, .inl hi)], [.inl hi, .inl v], (am_mm D I J ρ))) rfl ?_
    refine am_e_icmp2 rfl ⟨by omega, by omega⟩ ⟨by omega, by omega⟩ (fun (h2 : hi < v) => ?_) (fun (h2 : ¬ (hi < v)) => ?_)
    · show am_E _ _ _ 14 [(0, .inl v), (1, .inl lo), (2, .inl hi)] [] (am_mm D I J ρ) _
      refine am_e_ss 1 (q := (15, [(0, .inl v), (1, .inl lo), (2, .inl hi)], [.inl 0], (am_mm D I J ρ))) rfl ?_
      refine am_e_ireturn rfl rfl ?_
      rw [am_bi_f (fun h => by omega)]; rfl
    · show am_E _ _ _ 10 [(0, .inl v), (1, .inl lo), (2, .inl hi)] [] (am_mm D I J ρ) _
      refine am_e_ss 2 (q := (15, [(0, .inl v), (1, .inl lo), (2, .inl hi)], [.inl 1], (am_mm D I J ρ))) rfl ?_
      refine am_e_ireturn rfl rfl ?_
      rw [am_bi_t ⟨by omega, by omega⟩]; rfl
theorem r_isMember {X : Nat × (Nat → Int)} {D : List (Nat × Nat)} {I J : Nat → Nat → Int} {ρ : Nat → Nat → Option Nat} (d : Nat) {v : Int} (hv : -2147483648 ≤ v ∧ v < 2147483648) (h19 : 0 ≤ I 108 19 ∧ I 108 19 ≤ 6) : am_E X (d + 1) 127 0 [(0, .inr (.inr (.inl (some 107)))), (1, .inl v)] [] (am_mm D I J ρ) (fun r => r = (some (.inl (am_bi (0 ≤ v ∧ v ≤ I 108 19 - 1))), (am_mm D I J ρ))) := by
  refine am_e_ss 8 (q := (11, [(0, .inr (.inr (.inl (some 107)))), (1, .inl v)], [.inl ((I 108 19) - 1), .inl 0, .inl v], (am_mm D I J ρ))) rfl ?_
  refine am_e_static (Q := fun r => r = (some (.inl ((am_bi (0 ≤ v ∧ v ≤ ((I 108 19) - 1))))), (am_mm D I J ρ))) rfl (Nat.le_of_ble_eq_true rfl) rfl (Nat.le_of_ble_eq_true rfl) (Nat.le_of_ble_eq_true rfl) (r_in _ ⟨by omega, by omega⟩ ⟨by omega, by omega⟩ ⟨by omega, by omega⟩) ?_
  rintro r rfl
  show am_E _ _ _ 14 [(0, .inr (.inr (.inl (some 107)))), (1, .inl v)] [.inl ((am_bi (0 ≤ v ∧ v ≤ ((I 108 19) - 1))))] (am_mm D I J ρ) _
  refine am_e_ireturn rfl (am_rok_bi rfl) ?_
  rfl
theorem r_isBook {X : Nat × (Nat → Int)} {D : List (Nat × Nat)} {I J : Nat → Nat → Int} {ρ : Nat → Nat → Option Nat} (d : Nat) {v : Int} (hv : -2147483648 ≤ v ∧ v < 2147483648) (h20 : 0 ≤ I 108 20 ∧ I 108 20 ≤ 6) : am_E X (d + 1) 128 0 [(0, .inr (.inr (.inl (some 107)))), (1, .inl v)] [] (am_mm D I J ρ) (fun r => r = (some (.inl (am_bi (0 ≤ v ∧ v ≤ I 108 20 - 1))), (am_mm D I J ρ))) := by
  refine am_e_ss 8 (q := (11, [(0, .inr (.inr (.inl (some 107)))), (1, .inl v)], [.inl ((I 108 20) - 1), .inl 0, .inl v], (am_mm D I J ρ))) rfl ?_
  refine am_e_static (Q := fun r => r = (some (.inl ((am_bi (0 ≤ v ∧ v ≤ ((I 108 20) - 1))))), (am_mm D I J ρ))) rfl (Nat.le_of_ble_eq_true rfl) rfl (Nat.le_of_ble_eq_true rfl) (Nat.le_of_ble_eq_true rfl) (r_in _ ⟨by omega, by omega⟩ ⟨by omega, by omega⟩ ⟨by omega, by omega⟩) ?_
  rintro r rfl
  show am_E _ _ _ 14 [(0, .inr (.inr (.inl (some 107)))), (1, .inl v)] [.inl ((am_bi (0 ≤ v ∧ v ≤ ((I 108 20) - 1))))] (am_mm D I J ρ) _
  refine am_e_ireturn rfl (am_rok_bi rfl) ?_
  rfl
