/-! TEXTS OF THE CODE: how long, which sign -/
theorem am_len_0 {X : Nat × (Nat → Int)} {D : List (Nat × Nat)} {I J : Nat → Nat → Int} {ρ : Nat → Nat → Option Nat} (d : Nat) : am_E X (d + 1) 220 0 [(0, .inr (.inr (.inr 1)))] [] (am_mm D I J ρ) (fun r => r = (some (.inl 4), am_mm D I J ρ)) := ⟨20, _, rfl, rfl⟩
theorem am_chr_0_0 {X : Nat × (Nat → Int)} {D : List (Nat × Nat)} {I J : Nat → Nat → Int} {ρ : Nat → Nat → Option Nat} (d : Nat) : am_E X (d + 3) 221 0 [(0, .inr (.inr (.inr 1))), (1, .inl 0)] [] (am_mm D I J ρ) (fun r => r = (some (.inl 114), am_mm D I J ρ)) := ⟨60, _, rfl, rfl⟩
theorem am_chr_0_1 {X : Nat × (Nat → Int)} {D : List (Nat × Nat)} {I J : Nat → Nat → Int} {ρ : Nat → Nat → Option Nat} (d : Nat) : am_E X (d + 3) 221 0 [(0, .inr (.inr (.inr 1))), (1, .inl 1)] [] (am_mm D I J ρ) (fun r => r = (some (.inl 101), am_mm D I J ρ)) := ⟨60, _, rfl, rfl⟩
theorem am_chr_0_2 {X : Nat × (Nat → Int)} {D : List (Nat × Nat)} {I J : Nat → Nat → Int} {ρ : Nat → Nat → Option Nat} (d : Nat) : am_E X (d + 3) 221 0 [(0, .inr (.inr (.inr 1))), (1, .inl 2)] [] (am_mm D I J ρ) (fun r => r = (some (.inl 97), am_mm D I J ρ)) := ⟨60, _, rfl, rfl⟩
theorem am_chr_0_3 {X : Nat × (Nat → Int)} {D : List (Nat × Nat)} {I J : Nat → Nat → Int} {ρ : Nat → Nat → Option Nat} (d : Nat) : am_E X (d + 3) 221 0 [(0, .inr (.inr (.inr 1))), (1, .inl 3)] [] (am_mm D I J ρ) (fun r => r = (some (.inl 100), am_mm D I J ρ)) := ⟨60, _, rfl, rfl⟩
theorem am_len_1 {X : Nat × (Nat → Int)} {D : List (Nat × Nat)} {I J : Nat → Nat → Int} {ρ : Nat → Nat → Option Nat} (d : Nat) : am_E X (d + 1) 220 0 [(0, .inr (.inr (.inr 3)))] [] (am_mm D I J ρ) (fun r => r = (some (.inl 4), am_mm D I J ρ)) := ⟨20, _, rfl, rfl⟩
theorem am_chr_1_0 {X : Nat × (Nat → Int)} {D : List (Nat × Nat)} {I J : Nat → Nat → Int} {ρ : Nat → Nat → Option Nat} (d : Nat) : am_E X (d + 3) 221 0 [(0, .inr (.inr (.inr 3))), (1, .inl 0)] [] (am_mm D I J ρ) (fun r => r = (some (.inl 99), am_mm D I J ρ)) := ⟨60, _, rfl, rfl⟩
theorem am_chr_1_1 {X : Nat × (Nat → Int)} {D : List (Nat × Nat)} {I J : Nat → Nat → Int} {ρ : Nat → Nat → Option Nat} (d : Nat) : am_E X (d + 3) 221 0 [(0, .inr (.inr (.inr 3))), (1, .inl 1)] [] (am_mm D I J ρ) (fun r => r = (some (.inl 111), am_mm D I J ρ)) := ⟨60, _, rfl, rfl⟩
theorem am_chr_1_2 {X : Nat × (Nat → Int)} {D : List (Nat × Nat)} {I J : Nat → Nat → Int} {ρ : Nat → Nat → Option Nat} (d : Nat) : am_E X (d + 3) 221 0 [(0, .inr (.inr (.inr 3))), (1, .inl 2)] [] (am_mm D I J ρ) (fun r => r = (some (.inl 109), am_mm D I J ρ)) := ⟨60, _, rfl, rfl⟩
theorem am_chr_1_3 {X : Nat × (Nat → Int)} {D : List (Nat × Nat)} {I J : Nat → Nat → Int} {ρ : Nat → Nat → Option Nat} (d : Nat) : am_E X (d + 3) 221 0 [(0, .inr (.inr (.inr 3))), (1, .inl 3)] [] (am_mm D I J ρ) (fun r => r = (some (.inl 101), am_mm D I J ρ)) := ⟨60, _, rfl, rfl⟩
theorem am_len_2 {X : Nat × (Nat → Int)} {D : List (Nat × Nat)} {I J : Nat → Nat → Int} {ρ : Nat → Nat → Option Nat} (d : Nat) : am_E X (d + 1) 220 0 [(0, .inr (.inr (.inr 5)))] [] (am_mm D I J ρ) (fun r => r = (some (.inl 3), am_mm D I J ρ)) := ⟨20, _, rfl, rfl⟩
theorem am_chr_2_0 {X : Nat × (Nat → Int)} {D : List (Nat × Nat)} {I J : Nat → Nat → Int} {ρ : Nat → Nat → Option Nat} (d : Nat) : am_E X (d + 3) 221 0 [(0, .inr (.inr (.inr 5))), (1, .inl 0)] [] (am_mm D I J ρ) (fun r => r = (some (.inl 105), am_mm D I J ρ)) := ⟨60, _, rfl, rfl⟩
theorem am_chr_2_1 {X : Nat × (Nat → Int)} {D : List (Nat × Nat)} {I J : Nat → Nat → Int} {ρ : Nat → Nat → Option Nat} (d : Nat) : am_E X (d + 3) 221 0 [(0, .inr (.inr (.inr 5))), (1, .inl 1)] [] (am_mm D I J ρ) (fun r => r = (some (.inl 107), am_mm D I J ρ)) := ⟨60, _, rfl, rfl⟩
theorem am_chr_2_2 {X : Nat × (Nat → Int)} {D : List (Nat × Nat)} {I J : Nat → Nat → Int} {ρ : Nat → Nat → Option Nat} (d : Nat) : am_E X (d + 3) 221 0 [(0, .inr (.inr (.inr 5))), (1, .inl 2)] [] (am_mm D I J ρ) (fun r => r = (some (.inl 101), am_mm D I J ρ)) := ⟨60, _, rfl, rfl⟩
theorem am_len_3 {X : Nat × (Nat → Int)} {D : List (Nat × Nat)} {I J : Nat → Nat → Int} {ρ : Nat → Nat → Option Nat} (d : Nat) : am_E X (d + 1) 220 0 [(0, .inr (.inr (.inr 7)))] [] (am_mm D I J ρ) (fun r => r = (some (.inl 4), am_mm D I J ρ)) := ⟨20, _, rfl, rfl⟩
theorem am_chr_3_0 {X : Nat × (Nat → Int)} {D : List (Nat × Nat)} {I J : Nat → Nat → Int} {ρ : Nat → Nat → Option Nat} (d : Nat) : am_E X (d + 3) 221 0 [(0, .inr (.inr (.inr 7))), (1, .inl 0)] [] (am_mm D I J ρ) (fun r => r = (some (.inl 111), am_mm D I J ρ)) := ⟨60, _, rfl, rfl⟩
theorem am_chr_3_1 {X : Nat × (Nat → Int)} {D : List (Nat × Nat)} {I J : Nat → Nat → Int} {ρ : Nat → Nat → Option Nat} (d : Nat) : am_E X (d + 3) 221 0 [(0, .inr (.inr (.inr 7))), (1, .inl 1)] [] (am_mm D I J ρ) (fun r => r = (some (.inl 97), am_mm D I J ρ)) := ⟨60, _, rfl, rfl⟩
theorem am_chr_3_2 {X : Nat × (Nat → Int)} {D : List (Nat × Nat)} {I J : Nat → Nat → Int} {ρ : Nat → Nat → Option Nat} (d : Nat) : am_E X (d + 3) 221 0 [(0, .inr (.inr (.inr 7))), (1, .inl 2)] [] (am_mm D I J ρ) (fun r => r = (some (.inl 116), am_mm D I J ρ)) := ⟨60, _, rfl, rfl⟩
theorem am_chr_3_3 {X : Nat × (Nat → Int)} {D : List (Nat × Nat)} {I J : Nat → Nat → Int} {ρ : Nat → Nat → Option Nat} (d : Nat) : am_E X (d + 3) 221 0 [(0, .inr (.inr (.inr 7))), (1, .inl 3)] [] (am_mm D I J ρ) (fun r => r = (some (.inl 104), am_mm D I J ρ)) := ⟨60, _, rfl, rfl⟩
theorem am_len_4 {X : Nat × (Nat → Int)} {D : List (Nat × Nat)} {I J : Nat → Nat → Int} {ρ : Nat → Nat → Option Nat} (d : Nat) : am_E X (d + 1) 220 0 [(0, .inr (.inr (.inr 9)))] [] (am_mm D I J ρ) (fun r => r = (some (.inl 6), am_mm D I J ρ)) := ⟨20, _, rfl, rfl⟩
theorem am_chr_4_0 {X : Nat × (Nat → Int)} {D : List (Nat × Nat)} {I J : Nat → Nat → Int} {ρ : Nat → Nat → Option Nat} (d : Nat) : am_E X (d + 3) 221 0 [(0, .inr (.inr (.inr 9))), (1, .inl 0)] [] (am_mm D I J ρ) (fun r => r = (some (.inl 109), am_mm D I J ρ)) := ⟨60, _, rfl, rfl⟩
theorem am_chr_4_1 {X : Nat × (Nat → Int)} {D : List (Nat × Nat)} {I J : Nat → Nat → Int} {ρ : Nat → Nat → Option Nat} (d : Nat) : am_E X (d + 3) 221 0 [(0, .inr (.inr (.inr 9))), (1, .inl 1)] [] (am_mm D I J ρ) (fun r => r = (some (.inl 107), am_mm D I J ρ)) := ⟨60, _, rfl, rfl⟩
theorem am_chr_4_2 {X : Nat × (Nat → Int)} {D : List (Nat × Nat)} {I J : Nat → Nat → Int} {ρ : Nat → Nat → Option Nat} (d : Nat) : am_E X (d + 3) 221 0 [(0, .inr (.inr (.inr 9))), (1, .inl 2)] [] (am_mm D I J ρ) (fun r => r = (some (.inl 98), am_mm D I J ρ)) := ⟨60, _, rfl, rfl⟩
theorem am_chr_4_3 {X : Nat × (Nat → Int)} {D : List (Nat × Nat)} {I J : Nat → Nat → Int} {ρ : Nat → Nat → Option Nat} (d : Nat) : am_E X (d + 3) 221 0 [(0, .inr (.inr (.inr 9))), (1, .inl 3)] [] (am_mm D I J ρ) (fun r => r = (some (.inl 112), am_mm D I J ρ)) := ⟨60, _, rfl, rfl⟩
theorem am_chr_4_4 {X : Nat × (Nat → Int)} {D : List (Nat × Nat)} {I J : Nat → Nat → Int} {ρ : Nat → Nat → Option Nat} (d : Nat) : am_E X (d + 3) 221 0 [(0, .inr (.inr (.inr 9))), (1, .inl 4)] [] (am_mm D I J ρ) (fun r => r = (some (.inl 111), am_mm D I J ρ)) := ⟨60, _, rfl, rfl⟩
theorem am_chr_4_5 {X : Nat × (Nat → Int)} {D : List (Nat × Nat)} {I J : Nat → Nat → Int} {ρ : Nat → Nat → Option Nat} (d : Nat) : am_E X (d + 3) 221 0 [(0, .inr (.inr (.inr 9))), (1, .inl 5)] [] (am_mm D I J ρ) (fun r => r = (some (.inl 115), am_mm D I J ρ)) := ⟨60, _, rfl, rfl⟩
theorem am_len_5 {X : Nat × (Nat → Int)} {D : List (Nat × Nat)} {I J : Nat → Nat → Int} {ρ : Nat → Nat → Option Nat} (d : Nat) : am_E X (d + 1) 220 0 [(0, .inr (.inr (.inr 11)))] [] (am_mm D I J ρ) (fun r => r = (some (.inl 3), am_mm D I J ρ)) := ⟨20, _, rfl, rfl⟩
theorem am_chr_5_0 {X : Nat × (Nat → Int)} {D : List (Nat × Nat)} {I J : Nat → Nat → Int} {ρ : Nat → Nat → Option Nat} (d : Nat) : am_E X (d + 3) 221 0 [(0, .inr (.inr (.inr 11))), (1, .inl 0)] [] (am_mm D I J ρ) (fun r => r = (some (.inl 60), am_mm D I J ρ)) := ⟨60, _, rfl, rfl⟩
theorem am_chr_5_1 {X : Nat × (Nat → Int)} {D : List (Nat × Nat)} {I J : Nat → Nat → Int} {ρ : Nat → Nat → Option Nat} (d : Nat) : am_E X (d + 3) 221 0 [(0, .inr (.inr (.inr 11))), (1, .inl 1)] [] (am_mm D I J ρ) (fun r => r = (some (.inl 61), am_mm D I J ρ)) := ⟨60, _, rfl, rfl⟩
theorem am_chr_5_2 {X : Nat × (Nat → Int)} {D : List (Nat × Nat)} {I J : Nat → Nat → Int} {ρ : Nat → Nat → Option Nat} (d : Nat) : am_E X (d + 3) 221 0 [(0, .inr (.inr (.inr 11))), (1, .inl 2)] [] (am_mm D I J ρ) (fun r => r = (some (.inl 62), am_mm D I J ρ)) := ⟨60, _, rfl, rfl⟩
theorem am_len_6 {X : Nat × (Nat → Int)} {D : List (Nat × Nat)} {I J : Nat → Nat → Int} {ρ : Nat → Nat → Option Nat} (d : Nat) : am_E X (d + 1) 220 0 [(0, .inr (.inr (.inr 13)))] [] (am_mm D I J ρ) (fun r => r = (some (.inl 4), am_mm D I J ρ)) := ⟨20, _, rfl, rfl⟩
theorem am_chr_6_0 {X : Nat × (Nat → Int)} {D : List (Nat × Nat)} {I J : Nat → Nat → Int} {ρ : Nat → Nat → Option Nat} (d : Nat) : am_E X (d + 3) 221 0 [(0, .inr (.inr (.inr 13))), (1, .inl 0)] [] (am_mm D I J ρ) (fun r => r = (some (.inl 105), am_mm D I J ρ)) := ⟨60, _, rfl, rfl⟩
theorem am_chr_6_1 {X : Nat × (Nat → Int)} {D : List (Nat × Nat)} {I J : Nat → Nat → Int} {ρ : Nat → Nat → Option Nat} (d : Nat) : am_E X (d + 3) 221 0 [(0, .inr (.inr (.inr 13))), (1, .inl 1)] [] (am_mm D I J ρ) (fun r => r = (some (.inl 107), am_mm D I J ρ)) := ⟨60, _, rfl, rfl⟩
theorem am_chr_6_2 {X : Nat × (Nat → Int)} {D : List (Nat × Nat)} {I J : Nat → Nat → Int} {ρ : Nat → Nat → Option Nat} (d : Nat) : am_E X (d + 3) 221 0 [(0, .inr (.inr (.inr 13))), (1, .inl 2)] [] (am_mm D I J ρ) (fun r => r = (some (.inl 101), am_mm D I J ρ)) := ⟨60, _, rfl, rfl⟩
theorem am_chr_6_3 {X : Nat × (Nat → Int)} {D : List (Nat × Nat)} {I J : Nat → Nat → Int} {ρ : Nat → Nat → Option Nat} (d : Nat) : am_E X (d + 3) 221 0 [(0, .inr (.inr (.inr 13))), (1, .inl 3)] [] (am_mm D I J ρ) (fun r => r = (some (.inl 32), am_mm D I J ρ)) := ⟨60, _, rfl, rfl⟩
theorem am_len_7 {X : Nat × (Nat → Int)} {D : List (Nat × Nat)} {I J : Nat → Nat → Int} {ρ : Nat → Nat → Option Nat} (d : Nat) : am_E X (d + 1) 220 0 [(0, .inr (.inr (.inr 15)))] [] (am_mm D I J ρ) (fun r => r = (some (.inl 5), am_mm D I J ρ)) := ⟨20, _, rfl, rfl⟩
theorem am_chr_7_0 {X : Nat × (Nat → Int)} {D : List (Nat × Nat)} {I J : Nat → Nat → Int} {ρ : Nat → Nat → Option Nat} (d : Nat) : am_E X (d + 3) 221 0 [(0, .inr (.inr (.inr 15))), (1, .inl 0)] [] (am_mm D I J ρ) (fun r => r = (some (.inl 111), am_mm D I J ρ)) := ⟨60, _, rfl, rfl⟩
theorem am_chr_7_1 {X : Nat × (Nat → Int)} {D : List (Nat × Nat)} {I J : Nat → Nat → Int} {ρ : Nat → Nat → Option Nat} (d : Nat) : am_E X (d + 3) 221 0 [(0, .inr (.inr (.inr 15))), (1, .inl 1)] [] (am_mm D I J ρ) (fun r => r = (some (.inl 97), am_mm D I J ρ)) := ⟨60, _, rfl, rfl⟩
theorem am_chr_7_2 {X : Nat × (Nat → Int)} {D : List (Nat × Nat)} {I J : Nat → Nat → Int} {ρ : Nat → Nat → Option Nat} (d : Nat) : am_E X (d + 3) 221 0 [(0, .inr (.inr (.inr 15))), (1, .inl 2)] [] (am_mm D I J ρ) (fun r => r = (some (.inl 116), am_mm D I J ρ)) := ⟨60, _, rfl, rfl⟩
theorem am_chr_7_3 {X : Nat × (Nat → Int)} {D : List (Nat × Nat)} {I J : Nat → Nat → Int} {ρ : Nat → Nat → Option Nat} (d : Nat) : am_E X (d + 3) 221 0 [(0, .inr (.inr (.inr 15))), (1, .inl 3)] [] (am_mm D I J ρ) (fun r => r = (some (.inl 104), am_mm D I J ρ)) := ⟨60, _, rfl, rfl⟩
theorem am_chr_7_4 {X : Nat × (Nat → Int)} {D : List (Nat × Nat)} {I J : Nat → Nat → Int} {ρ : Nat → Nat → Option Nat} (d : Nat) : am_E X (d + 3) 221 0 [(0, .inr (.inr (.inr 15))), (1, .inl 4)] [] (am_mm D I J ρ) (fun r => r = (some (.inl 32), am_mm D I J ρ)) := ⟨60, _, rfl, rfl⟩
theorem am_len_8 {X : Nat × (Nat → Int)} {D : List (Nat × Nat)} {I J : Nat → Nat → Int} {ρ : Nat → Nat → Option Nat} (d : Nat) : am_E X (d + 1) 220 0 [(0, .inr (.inr (.inr 17)))] [] (am_mm D I J ρ) (fun r => r = (some (.inl 5), am_mm D I J ρ)) := ⟨20, _, rfl, rfl⟩
theorem am_chr_8_0 {X : Nat × (Nat → Int)} {D : List (Nat × Nat)} {I J : Nat → Nat → Int} {ρ : Nat → Nat → Option Nat} (d : Nat) : am_E X (d + 3) 221 0 [(0, .inr (.inr (.inr 17))), (1, .inl 0)] [] (am_mm D I J ρ) (fun r => r = (some (.inl 114), am_mm D I J ρ)) := ⟨60, _, rfl, rfl⟩
theorem am_chr_8_1 {X : Nat × (Nat → Int)} {D : List (Nat × Nat)} {I J : Nat → Nat → Int} {ρ : Nat → Nat → Option Nat} (d : Nat) : am_E X (d + 3) 221 0 [(0, .inr (.inr (.inr 17))), (1, .inl 1)] [] (am_mm D I J ρ) (fun r => r = (some (.inl 101), am_mm D I J ρ)) := ⟨60, _, rfl, rfl⟩
theorem am_chr_8_2 {X : Nat × (Nat → Int)} {D : List (Nat × Nat)} {I J : Nat → Nat → Int} {ρ : Nat → Nat → Option Nat} (d : Nat) : am_E X (d + 3) 221 0 [(0, .inr (.inr (.inr 17))), (1, .inl 2)] [] (am_mm D I J ρ) (fun r => r = (some (.inl 97), am_mm D I J ρ)) := ⟨60, _, rfl, rfl⟩
theorem am_chr_8_3 {X : Nat × (Nat → Int)} {D : List (Nat × Nat)} {I J : Nat → Nat → Int} {ρ : Nat → Nat → Option Nat} (d : Nat) : am_E X (d + 3) 221 0 [(0, .inr (.inr (.inr 17))), (1, .inl 3)] [] (am_mm D I J ρ) (fun r => r = (some (.inl 100), am_mm D I J ρ)) := ⟨60, _, rfl, rfl⟩
theorem am_chr_8_4 {X : Nat × (Nat → Int)} {D : List (Nat × Nat)} {I J : Nat → Nat → Int} {ρ : Nat → Nat → Option Nat} (d : Nat) : am_E X (d + 3) 221 0 [(0, .inr (.inr (.inr 17))), (1, .inl 4)] [] (am_mm D I J ρ) (fun r => r = (some (.inl 32), am_mm D I J ρ)) := ⟨60, _, rfl, rfl⟩
theorem am_len_9 {X : Nat × (Nat → Int)} {D : List (Nat × Nat)} {I J : Nat → Nat → Int} {ρ : Nat → Nat → Option Nat} (d : Nat) : am_E X (d + 1) 220 0 [(0, .inr (.inr (.inr 19)))] [] (am_mm D I J ρ) (fun r => r = (some (.inl 5), am_mm D I J ρ)) := ⟨20, _, rfl, rfl⟩
theorem am_chr_9_0 {X : Nat × (Nat → Int)} {D : List (Nat × Nat)} {I J : Nat → Nat → Int} {ρ : Nat → Nat → Option Nat} (d : Nat) : am_E X (d + 3) 221 0 [(0, .inr (.inr (.inr 19))), (1, .inl 0)] [] (am_mm D I J ρ) (fun r => r = (some (.inl 99), am_mm D I J ρ)) := ⟨60, _, rfl, rfl⟩
theorem am_chr_9_1 {X : Nat × (Nat → Int)} {D : List (Nat × Nat)} {I J : Nat → Nat → Int} {ρ : Nat → Nat → Option Nat} (d : Nat) : am_E X (d + 3) 221 0 [(0, .inr (.inr (.inr 19))), (1, .inl 1)] [] (am_mm D I J ρ) (fun r => r = (some (.inl 111), am_mm D I J ρ)) := ⟨60, _, rfl, rfl⟩
theorem am_chr_9_2 {X : Nat × (Nat → Int)} {D : List (Nat × Nat)} {I J : Nat → Nat → Int} {ρ : Nat → Nat → Option Nat} (d : Nat) : am_E X (d + 3) 221 0 [(0, .inr (.inr (.inr 19))), (1, .inl 2)] [] (am_mm D I J ρ) (fun r => r = (some (.inl 109), am_mm D I J ρ)) := ⟨60, _, rfl, rfl⟩
theorem am_chr_9_3 {X : Nat × (Nat → Int)} {D : List (Nat × Nat)} {I J : Nat → Nat → Int} {ρ : Nat → Nat → Option Nat} (d : Nat) : am_E X (d + 3) 221 0 [(0, .inr (.inr (.inr 19))), (1, .inl 3)] [] (am_mm D I J ρ) (fun r => r = (some (.inl 101), am_mm D I J ρ)) := ⟨60, _, rfl, rfl⟩
theorem am_chr_9_4 {X : Nat × (Nat → Int)} {D : List (Nat × Nat)} {I J : Nat → Nat → Int} {ρ : Nat → Nat → Option Nat} (d : Nat) : am_E X (d + 3) 221 0 [(0, .inr (.inr (.inr 19))), (1, .inl 4)] [] (am_mm D I J ρ) (fun r => r = (some (.inl 32), am_mm D I J ρ)) := ⟨60, _, rfl, rfl⟩
/-! THE REFERENCE: how far it is: a result R, the codes of club a, come w, e open -/
def r_em (I : Nat → Nat → Int) (a : Nat) (L : List Int) : Prop := I 108 (173 + a) = (L.length : Int) ∧ ∀ i, i < L.length → I 108 (178 + 140 * a + i) = L.getD i 0
def r_pk (a c i : Nat) : Prop := (c = 107 → i ≠ 6 ∧ i ≠ 8 ∧ i ≠ 9) ∧ (c = 108 → i ≠ 168 + a ∧ i ≠ 173 + a ∧ (i < 178 + 140 * a ∨ 318 + 140 * a ≤ i))
def r_cs2 (I : Nat → Nat → Int) (a p : Nat) : Option (List Int) → Prop
  | some L => I 107 8 = 0 ∧ r_em I a L ∧ L.length ≤ p
  | none => I 107 8 = 1 ∧ 0 ≤ I 108 (173 + a) ∧ I 108 (173 + a) ≤ 100
def r_cs (I0 I : Nat → Nat → Int) (hs : Nat → Int) (z a : Nat) (w e : Int) (R : pt_R) : Prop := (∀ c i, r_pk a c i → I c i = I0 c i) ∧ r_tx I hs z R.1 ∧ (I 107 5 = (a : Int) ∧ a < 5) ∧ I 108 (168 + a) = w ∧ I 107 9 = e ∧ r_cs2 I a R.1 R.2
def pt_bd (R : pt_R) (f : Nat → List Int → pt_R) : pt_R := match R with
  | (p, none) => (p, none)
  | (p, some L) => f p L
def pt_pre (L : List Int) (R : pt_R) : pt_R := (R.1, match R.2 with
  | none => none
  | some L2 => some (L ++ L2))
def pt_ms (h : Nat → Int) (s : Int) (p : Nat) (L : List Int) : pt_R := if h p = s then (p + 1, some L) else (p, none)
def pt_ns (h : Nat → Int) (p : Nat) (L : List Int) : pt_R := match pt_num h p with
  | (q, none) => (q, none)
  | (q, some _) => (q, some L)
section
variable {I0 I : Nat → Nat → Int} {hs : Nat → Int} {z a p : Nat} {w e : Int} {L : List Int} {R : pt_R}
theorem r_cs_6 (h : r_cs I0 I hs z a w e (p, some L)) (hp : p < z) : r_cs I0 (am_up I 107 6 ((p : Int) + 1)) hs z a w e (p + 1, some L) := by
  obtain ⟨h1, ⟨t6, t7, tz, tp, th, te, tb⟩, h3, h4, h5, h6, ⟨h7, h8⟩, h9⟩ := h
  refine ⟨fun c i hk => ?_, ⟨am_up_at2, (am_up_ne2 (Or.inr (by decide))).trans t7, tz, hp, fun i hi => (am_up_ne2 (Or.inl (by decide))).trans (th i hi), te, tb⟩, ⟨(am_up_ne2 (Or.inr (by decide))).trans h3.1, h3.2⟩, (am_up_ne2 (Or.inl (by decide))).trans h4, (am_up_ne2 (Or.inr (by decide))).trans h5, (am_up_ne2 (Or.inr (by decide))).trans h6, ⟨(am_up_ne2 (Or.inl (by decide))).trans h7, fun i hi => (am_up_ne2 (Or.inl (by decide))).trans (h8 i hi)⟩, Nat.le_succ_of_le h9⟩
  have h0 := h1 c i hk
  unfold r_pk at hk
  rw [am_up_ne2 (by omega)]
  exact h0
theorem r_cs_b (h : r_cs I0 I hs z a w e (p, some L)) : r_cs I0 (am_up I 107 8 1) hs z a w e (p, none) := by
  obtain ⟨h1, ⟨t6, t7, tz, tp, th, te, tb⟩, h3, h4, h5, h6, ⟨h7, h8⟩, h9⟩ := h
  have h9 : L.length ≤ p := h9
  have tp : p ≤ z := tp
  refine ⟨fun c i hk => ?_, ⟨(am_up_ne2 (Or.inr (by decide))).trans t6, (am_up_ne2 (Or.inr (by decide))).trans t7, tz, tp, fun i hi => (am_up_ne2 (Or.inl (by decide))).trans (th i hi), te, tb⟩, ⟨(am_up_ne2 (Or.inr (by decide))).trans h3.1, h3.2⟩, (am_up_ne2 (Or.inl (by decide))).trans h4, (am_up_ne2 (Or.inr (by decide))).trans h5, am_up_at2, ?_, ?_⟩
  · have h0 := h1 c i hk
    unfold r_pk at hk
    rw [am_up_ne2 (by omega)]
    exact h0
  · rw [am_up_ne2 (Or.inl (by decide)), h7]; omega
  · rw [am_up_ne2 (Or.inl (by decide)), h7]; omega
theorem r_cs_9 {e2 : Int} (h : r_cs I0 I hs z a w e R) : r_cs I0 (am_up I 107 9 e2) hs z a w e2 R := by
  obtain ⟨h1, ⟨t6, t7, tz, tp, th, te, tb⟩, h3, h4, h5, h6⟩ := h
  refine ⟨fun c i hk => ?_, ⟨(am_up_ne2 (Or.inr (by decide))).trans t6, (am_up_ne2 (Or.inr (by decide))).trans t7, tz, tp, fun i hi => (am_up_ne2 (Or.inl (by decide))).trans (th i hi), te, tb⟩, ⟨(am_up_ne2 (Or.inr (by decide))).trans h3.1, h3.2⟩, (am_up_ne2 (Or.inl (by decide))).trans h4, am_up_at2, ?_⟩
  · have h0 := h1 c i hk
    unfold r_pk at hk
    rw [am_up_ne2 (by omega)]
    exact h0
  · obtain ⟨q, _ | L⟩ := R
    · obtain ⟨h6, h7, h8⟩ := h6
      exact ⟨(am_up_ne2 (Or.inr (by decide))).trans h6, by rw [am_up_ne2 (Or.inl (by decide))]; exact h7, by rw [am_up_ne2 (Or.inl (by decide))]; exact h8⟩
    · obtain ⟨h6, ⟨h7, h8⟩, h9⟩ := h6
      exact ⟨(am_up_ne2 (Or.inr (by decide))).trans h6, ⟨(am_up_ne2 (Or.inl (by decide))).trans h7, fun i hi => (am_up_ne2 (Or.inl (by decide))).trans (h8 i hi)⟩, h9⟩
theorem r_cs_e {s : Int} (h : r_cs I0 I hs z a w e (p, some L)) (hl : L.length < p) : r_cs I0 (am_up (am_up I 108 (178 + 140 * a + L.length) s) 108 (173 + a) ((L.length : Int) + 1)) hs z a w e (p, some (L ++ [s])) := by
  obtain ⟨h1, ⟨t6, t7, tz, tp, th, te, tb⟩, h3, h4, h5, h6, ⟨h7, h8⟩, h9⟩ := h
  have tp : p ≤ z := tp
  have e7 : ∀ i, am_up (am_up I 108 (178 + 140 * a + L.length) s) 108 (173 + a) ((L.length : Int) + 1) 107 i = I 107 i := fun i => (am_up_ne2 (Or.inl (by decide))).trans (am_up_ne2 (Or.inl (by decide)))
  have e8 : ∀ i, i < 173 → am_up (am_up I 108 (178 + 140 * a + L.length) s) 108 (173 + a) ((L.length : Int) + 1) 108 i = I 108 i := fun i hi => (am_up_ne2 (Or.inr (by omega))).trans (am_up_ne2 (Or.inr (by omega)))
  refine ⟨fun c i hk => ?_, ⟨(e7 _).trans t6, (e7 _).trans t7, tz, tp, fun i hi => (e8 _ (by omega)).trans (th i hi), te, tb⟩, ⟨(e7 _).trans h3.1, h3.2⟩, (e8 _ (by omega)).trans h4, (e7 _).trans h5, (e7 _).trans h6, ⟨?_, fun i hi => ?_⟩, ?_⟩
  · have h0 := h1 c i hk
    unfold r_pk at hk
    rw [am_up_ne2 (by omega), am_up_ne2 (by omega)]
    exact h0
  · rw [am_up_at2, List.length_append, List.length_singleton]; rfl
  · rw [List.length_append, List.length_singleton] at hi
    rw [am_up_ne2 (Or.inr (by omega))]
    by_cases ei : i = L.length
    · rw [ei, am_up_at2, List.getD_eq_getElem?_getD, List.getElem?_append_right (Nat.le_refl _), Nat.sub_self]; rfl
    · rw [am_up_ne2 (Or.inr (by omega)), h8 i (by omega), List.getD_eq_getElem?_getD, List.getD_eq_getElem?_getD, List.getElem?_append_left (by omega)]
  · rw [List.length_append, List.length_singleton]; exact hl
theorem r_cs_tx (h : r_cs I0 I hs z a w e R) : r_tx I hs z R.1 := h.2.1
theorem r_cs_lt (h : r_cs I0 I hs z a w e (p, some L)) (hp : 0 ≤ hs p) : p < z := by
  obtain ⟨t6, t7, tz, tp, th, te, tb⟩ := h.2.1
  by_cases e2 : p < z
  · exact e2
  · have := te p (by omega); omega
end
theorem r_hereC {X : Nat × (Nat → Int)} {D : List (Nat × Nat)} {I J : Nat → Nat → Int} {ρ : Nat → Nat → Option Nat} (d : Nat) {I0 : Nat → Nat → Int} {hs : Nat → Int} {z a : Nat} {w e : Int} {R : pt_R} (hcs : r_cs I0 I hs z a w e R) : am_E X d 135 0 [(0, .inr (.inr (.inl (some 107))))] [] (am_mm D I J ρ) (fun r => r = (some (.inl (hs R.1)), am_mm D I J ρ)) := r_hereT d hcs.2.1
theorem r_mustC {X : Nat × (Nat → Int)} {D : List (Nat × Nat)} {I J : Nat → Nat → Int} {ρ : Nat → Nat → Option Nat} (d : Nat) {I0 : Nat → Nat → Int} {hs : Nat → Int} {z a : Nat} {w e : Int} {R : pt_R} (hcs : r_cs I0 I hs z a w e R)  {s : Int} (hs0 : 0 ≤ s ∧ s ≤ 127) : am_E X (d + 1) 136 0 [(0, .inr (.inr (.inl (some 107)))), (1, .inl s)] [] (am_mm D I J ρ) (fun r => ∃ K, r = (none, am_mm D K J ρ) ∧ r_cs I0 K hs z a w e ((pt_bd R (fun p L => pt_ms hs s p L)))) := by
  obtain ⟨p, _ | L⟩ := R
  · exact (r_mustW d hcs.2.2.2.2.2.1).imp (fun r h => ⟨I, h, hcs⟩)
  · have h8 : I 107 8 = 0 := hcs.2.2.2.2.2.1
    have t6 : I 107 6 = (p : Int) := hcs.2.1.1
    refine (r_mustT d hcs.2.1 hs0 h8).imp (fun r h => ⟨_, h, ?_⟩)
    show r_cs I0 _ hs z a w e (pt_ms hs s p L)
    unfold pt_ms
    by_cases c : hs p = s
    · rw [if_pos c, if_pos c, if_pos c, am_up_self h8]
      exact r_cs_6 hcs (r_cs_lt hcs (show 0 ≤ hs p by omega))
    · rw [if_neg c, if_neg c, if_neg c, am_up_self ((am_up_ne2 (Or.inr (by decide))).trans t6)]
      exact r_cs_b hcs
theorem r_emitsC {X : Nat × (Nat → Int)} {D : List (Nat × Nat)} {I J : Nat → Nat → Int} {ρ : Nat → Nat → Option Nat} (d : Nat) {I0 : Nat → Nat → Int} {hs : Nat → Int} {z a : Nat} {w e : Int} {R : pt_R} (hcs : r_cs I0 I hs z a w e R)  {s : Int} (hl : ∀ L, R.2 = some L → L.length < R.1) : am_E X d 140 0 [(0, .inr (.inr (.inl (some 107)))), (1, .inl s)] [] (am_mm D I J ρ) (fun r => ∃ K, r = (none, am_mm D K J ρ) ∧ r_cs I0 K hs z a w e ((pt_bd R (fun p L => (p, some (L ++ [s])))))) := by
  obtain ⟨p, _ | L⟩ := R
  · exact (r_emitsW d hcs.2.2.2.2.2.1).imp (fun r h => ⟨I, h, hcs⟩)
  · have hl : L.length < p := hl L rfl
    have tz := hcs.2.1.2.2.1
    have tp : p ≤ z := hcs.2.1.2.2.2.1
    exact (r_emitsT d hcs.2.2.2.2.2.1 hcs.2.2.1.1 hcs.2.2.1.2 hcs.2.2.2.2.2.2.1.1 (by omega)).imp (fun r h => ⟨_, h, r_cs_e hcs hl⟩)
