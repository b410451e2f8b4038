/-! THE REFERENCE: reading the text -/
/-- the text that is read: z signs hs, the place p -/
def r_tx (I : Nat → Nat → Int) (hs : Nat → Int) (z p : Nat) : Prop := I 107 6 = (p : Int) ∧ I 107 7 = (z : Int) ∧ z ≤ 100 ∧ p ≤ z ∧ (∀ i, i < z → I 108 (68 + i) = hs i) ∧ (∀ i, z ≤ i → hs i = -1) ∧ ∀ i, -1 ≤ hs i ∧ hs i ≤ 127
theorem r_hereT {X : Nat × (Nat → Int)} {D : List (Nat × Nat)} {I J : Nat → Nat → Int} {ρ : Nat → Nat → Option Nat} (d : Nat) {hs : Nat → Int} {z p : Nat} (htx : r_tx I hs z p)  : am_E X d 135 0 [(0, .inr (.inr (.inl (some 107))))] [] (am_mm D I J ρ) (fun r => r = (some (.inl ((hs p))), (am_mm D I J ρ))) := by
  have htx0 := htx
  obtain ⟨t6, t7, tz, tp, th, te, tb⟩ := htx
  refine am_e_ss 4 (q := (8, [(0, .inr (.inr (.inl (some 107))))], [.inl ((I 107 7)), .inl ((I 107 6))], (am_mm D I J ρ))) rfl ?_
  refine am_e_icmp2 rfl ⟨by omega, by omega⟩ ⟨by omega, by omega⟩ (fun (hw1 : (I 107 7) ≤ (I 107 6)) => ?_) (fun (hw1 : ¬ ((I 107 7) ≤ (I 107 6))) => ?_)
  · show am_E _ _ _ 26 [(0, .inr (.inr (.inl (some 107))))] [] (am_mm D I J ρ) _
    refine am_e_ss 1 (q := (27, [(0, .inr (.inr (.inl (some 107))))], [.inl (-1)], (am_mm D I J ρ))) rfl ?_
    refine am_e_ireturn rfl rfl ?_
    rw [te p (by omega)]
  · show am_E _ _ _ 11 [(0, .inr (.inr (.inl (some 107))))] [] (am_mm D I J ρ) _
    refine am_e_ss 6 (q := (22, [(0, .inr (.inr (.inl (some 107))))], [.inl (68 + (I 107 6)), .inr (.inr (.inl (some 108)))], (am_mm D I J ρ))) rfl ?_
    refine am_e_iaload (m := 878) rfl rfl (by omega) (by omega) (by omega) ?_
    show am_E _ _ _ 23 [(0, .inr (.inr (.inl (some 107))))] [.inl ((I 108 ((68 + (I 107 6))).toNat))] (am_mm D I J ρ) _
    refine am_e_ss 1 (q := (27, [(0, .inr (.inr (.inl (some 107))))], [.inl ((I 108 ((68 + (I 107 6))).toNat))], (am_mm D I J ρ))) rfl ?_
    refine am_e_ireturn rfl rfl ?_
    rw [show (68 + I 107 6).toNat = 68 + p by omega, th p (by omega)]
