/-! THE REFERENCE: its small questions -/
/-- bits of a row of yes and no -/
def am_bits (p : Nat → Bool) : Nat → Int
  | 0 => 0
  | n + 1 => am_bits p n + (if p n then 2 ^ n else 0)
/-- a row copied so far -/
def am_cpI (I : Nat → Nat → Int) (dst src n : Nat) : Nat → Nat → Int := fun c i => if c = dst ∧ i < n then I src i else I c i
theorem am_cpI_0 {I : Nat → Nat → Int} {dst src : Nat} : am_cpI I dst src 0 = I := by
  funext c i
  unfold am_cpI
  rw [if_neg (by omega)]
theorem am_cpI_succ {I : Nat → Nat → Int} {dst src n : Nat} (h : src ≠ dst) : am_up (am_cpI I dst src n) dst n (am_cpI I dst src n src n) = am_cpI I dst src (n + 1) := by
  funext c i
  unfold am_up am_cpI
  by_cases h1 : c = dst
  · subst h1
    by_cases h2 : i = n
    · subst h2
      simp [h]
    · by_cases h3 : i < n
      · simp [h2, h3, show i < n + 1 by omega]
      · simp [h2, h3, show ¬ i < n + 1 by omega]
  · simp [h1]
theorem am_bits_lt (p : Nat → Bool) : ∀ n, 0 ≤ am_bits p n ∧ am_bits p n < 2 ^ n := by
  intro n
  induction n with
  | zero => exact ⟨Int.le_refl _, by show (0 : Int) < 2 ^ 0; decide⟩
  | succ n ih =>
    have e : (2 : Int) ^ (n + 1) = 2 ^ n + 2 ^ n := by rw [Int.pow_succ]; omega
    show 0 ≤ am_bits p n + (if p n then 2 ^ n else 0) ∧ am_bits p n + (if p n then 2 ^ n else 0) < 2 ^ (n + 1)
    split <;> omega
/-- a new highest bit -/
theorem am_or_bit : ∀ m : Nat, m < 6 → ∀ a : Nat, a < 2 ^ m → (Int32.ofInt (a : Int) ||| Int32.ofInt ((Int32.ofInt 1 <<< (Int32.ofInt (m : Int) &&& 31)).toInt)).toInt = (a : Int) + 2 ^ m := by decide +kernel
theorem am_or_0 {a : Int} (h0 : -2147483648 ≤ a) (h1 : a < 2147483648) : (Int32.ofInt a ||| Int32.ofInt 0).toInt = a := by
  rw [show Int32.ofInt 0 = 0 by decide +kernel, Int32.or_zero]
  exact am_w_id h0 h1
theorem am_bits_or {p : Nat → Bool} {m : Nat} (hm : m < 6) (hp : p m = true) : (Int32.ofInt (am_bits p m) ||| Int32.ofInt ((Int32.ofInt 1 <<< (Int32.ofInt (m : Int) &&& 31)).toInt)).toInt = am_bits p (m + 1) := by
  obtain ⟨h0, h1⟩ := am_bits_lt p m
  obtain ⟨a, ha⟩ : ∃ a : Nat, am_bits p m = (a : Int) := ⟨(am_bits p m).toNat, by omega⟩
  have hlt : a < 2 ^ m := by
    rw [ha] at h1
    exact_mod_cast h1
  show _ = am_bits p m + (if p m then 2 ^ m else 0)
  rw [ha, am_or_bit m hm a hlt, if_pos hp]
theorem am_bits_no {p : Nat → Bool} {m : Nat} (hm : m ≤ 6) (hp : p m = false) : (Int32.ofInt (am_bits p m) ||| Int32.ofInt 0).toInt = am_bits p (m + 1) := by
  obtain ⟨h0, h1⟩ := am_bits_lt p m
  have h2 : (2 : Int) ^ m ≤ 64 := by
    have : m = 0 ∨ m = 1 ∨ m = 2 ∨ m = 3 ∨ m = 4 ∨ m = 5 ∨ m = 6 := by omega
    rcases this with rfl | rfl | rfl | rfl | rfl | rfl | rfl <;> decide
  show _ = am_bits p m + (if p m then 2 ^ m else 0)
  rw [am_or_0 (by omega) (by omega), hp]
  simp
theorem r_in {X : Nat × (Nat → Int)} {D : List (Nat × Nat)} {I J : Nat → Nat → Int} {ρ : Nat → Nat → Option Nat} (d : Nat) {v lo hi : Int} (hv : -2147483648 ≤ v ∧ v < 2147483648) (hl : -2147483648 ≤ lo ∧ lo < 2147483648) (hh : -2147483648 ≤ hi ∧ hi < 2147483648) : am_E X d 126 0 [(0, .inl v), (1, .inl lo), (2, .inl hi)] [] (am_mm D I J ρ) (fun r => r = (some (.inl (am_bi (lo ≤ v ∧ v ≤ hi))), (am_mm D I J ρ))) := by
  refine am_e_ss 2 (q := (2, [(0, .inl v), (1, .inl lo), (2, .inl hi)], [.inl lo, .inl v], (am_mm D I J ρ))) rfl ?_
  refine am_e_icmp2 rfl ⟨by omega, by omega⟩ ⟨by omega, by omega⟩ (fun (h1 : v < lo) => ?_) (fun (h1 : ¬ (v < lo)) => ?_)
  · show am_E _ _ _ 14 [(0, .inl v), (1, .inl lo), (2, .inl hi)] [] (am_mm D I J ρ) _
    refine am_e_ss 1 (q := (15, [(0, .inl v), (1, .inl lo), (2, .inl hi)], [.inl 0], (am_mm D I J ρ))) rfl ?_
    refine am_e_ireturn rfl rfl ?_
    rw [am_bi_f (fun h => by omega)]
  · show am_E _ _ _ 5 [(0, .inl v), (1, .inl lo), (2, .inl hi)] [] (am_mm D I J ρ) _
    refine am_e_ss 2 (q := (7, [(0, .inl v), (1, .inl lo), (2, .inl hi)], [.inl hi, .inl v], (am_mm D I J ρ))) rfl ?_
    refine am_e_icmp2 rfl ⟨by omega, by omega⟩ ⟨by omega, by omega⟩ (fun (h2 : hi < v) => ?_) (fun (h2 : ¬ (hi < v)) => ?_)
    · show am_E _ _ _ 14 [(0, .inl v), (1, .inl lo), (2, .inl hi)] [] (am_mm D I J ρ) _
      refine am_e_ss 1 (q := (15, [(0, .inl v), (1, .inl lo), (2, .inl hi)], [.inl 0], (am_mm D I J ρ))) rfl ?_
      refine am_e_ireturn rfl rfl ?_
      rw [am_bi_f (fun h => by omega)]
    · show am_E _ _ _ 10 [(0, .inl v), (1, .inl lo), (2, .inl hi)] [] (am_mm D I J ρ) _
      refine am_e_ss 2 (q := (15, [(0, .inl v), (1, .inl lo), (2, .inl hi)], [.inl 1], (am_mm D I J ρ))) rfl ?_
      refine am_e_ireturn rfl rfl ?_
      rw [am_bi_t ⟨by omega, by omega⟩]
theorem r_isMember {X : Nat × (Nat → Int)} {D : List (Nat × Nat)} {I J : Nat → Nat → Int} {ρ : Nat → Nat → Option Nat} (d : Nat) {v : Int} (hv : -2147483648 ≤ v ∧ v < 2147483648) (h19 : 0 ≤ I 108 19 ∧ I 108 19 ≤ 6) : am_E X (d + 1) 127 0 [(0, .inr (.inr (.inl (some 107)))), (1, .inl v)] [] (am_mm D I J ρ) (fun r => r = (some (.inl ((am_bi (0 ≤ v ∧ v ≤ ((I 108 19) - 1))))), (am_mm D I J ρ))) := by
  refine am_e_ss 8 (q := (11, [(0, .inr (.inr (.inl (some 107)))), (1, .inl v)], [.inl ((I 108 19) - 1), .inl 0, .inl v], (am_mm D I J ρ))) rfl ?_
  refine am_e_static (Q := fun r => r = (some (.inl ((am_bi (0 ≤ v ∧ v ≤ ((I 108 19) - 1))))), (am_mm D I J ρ))) rfl (Nat.le_of_ble_eq_true rfl) rfl (Nat.le_of_ble_eq_true rfl) (Nat.le_of_ble_eq_true rfl) (r_in _ ⟨by omega, by omega⟩ ⟨by omega, by omega⟩ ⟨by omega, by omega⟩) ?_
  rintro r rfl
  show am_E _ _ _ 14 [(0, .inr (.inr (.inl (some 107)))), (1, .inl v)] [.inl ((am_bi (0 ≤ v ∧ v ≤ ((I 108 19) - 1))))] (am_mm D I J ρ) _
  refine am_e_ireturn rfl (am_rok_bi rfl) ?_
  rfl
theorem r_isBook {X : Nat × (Nat → Int)} {D : List (Nat × Nat)} {I J : Nat → Nat → Int} {ρ : Nat → Nat → Option Nat} (d : Nat) {v : Int} (hv : -2147483648 ≤ v ∧ v < 2147483648) (h20 : 0 ≤ I 108 20 ∧ I 108 20 ≤ 6) : am_E X (d + 1) 128 0 [(0, .inr (.inr (.inl (some 107)))), (1, .inl v)] [] (am_mm D I J ρ) (fun r => r = (some (.inl ((am_bi (0 ≤ v ∧ v ≤ ((I 108 20) - 1))))), (am_mm D I J ρ))) := by
  refine am_e_ss 8 (q := (11, [(0, .inr (.inr (.inl (some 107)))), (1, .inl v)], [.inl ((I 108 20) - 1), .inl 0, .inl v], (am_mm D I J ρ))) rfl ?_
  refine am_e_static (Q := fun r => r = (some (.inl ((am_bi (0 ≤ v ∧ v ≤ ((I 108 20) - 1))))), (am_mm D I J ρ))) rfl (Nat.le_of_ble_eq_true rfl) rfl (Nat.le_of_ble_eq_true rfl) (Nat.le_of_ble_eq_true rfl) (r_in _ ⟨by omega, by omega⟩ ⟨by omega, by omega⟩ ⟨by omega, by omega⟩) ?_
  rintro r rfl
  show am_E _ _ _ 14 [(0, .inr (.inr (.inl (some 107)))), (1, .inl v)] [.inl ((am_bi (0 ≤ v ∧ v ≤ ((I 108 20) - 1))))] (am_mm D I J ρ) _
  refine am_e_ireturn rfl (am_rok_bi rfl) ?_
  rfl
theorem r_isWay {X : Nat × (Nat → Int)} {D : List (Nat × Nat)} {I J : Nat → Nat → Int} {ρ : Nat → Nat → Option Nat} (d : Nat) {v : Int} (hv : -2147483648 ≤ v ∧ v < 2147483648) : am_E X (d + 1) 129 0 [(0, .inl v)] [] (am_mm D I J ρ) (fun r => r = (some (.inl ((am_bi (0 ≤ v ∧ v ≤ 5)))), (am_mm D I J ρ))) := by
  refine am_e_ss 3 (q := (3, [(0, .inl v)], [.inl 5, .inl 0, .inl v], (am_mm D I J ρ))) rfl ?_
  refine am_e_static (Q := fun r => r = (some (.inl ((am_bi (0 ≤ v ∧ v ≤ 5)))), (am_mm D I J ρ))) rfl (Nat.le_of_ble_eq_true rfl) rfl (Nat.le_of_ble_eq_true rfl) (Nat.le_of_ble_eq_true rfl) (r_in _ ⟨by omega, by omega⟩ ⟨by omega, by omega⟩ ⟨by omega, by omega⟩) ?_
  rintro r rfl
  show am_E _ _ _ 6 [(0, .inl v)] [.inl ((am_bi (0 ≤ v ∧ v ≤ 5)))] (am_mm D I J ρ) _
  refine am_e_ireturn rfl (am_rok_bi rfl) ?_
  rfl
theorem r_isHere {X : Nat × (Nat → Int)} {D : List (Nat × Nat)} {I J : Nat → Nat → Int} {ρ : Nat → Nat → Option Nat} (d : Nat) {v : Int} (hv : 0 ≤ v ∧ v < 6) (hr : I 108 (7 + v).toNat = 0 ∨ I 108 (7 + v).toNat = 1) : am_E X d 130 0 [(0, .inr (.inr (.inl (some 107)))), (1, .inl v)] [] (am_mm D I J ρ) (fun r => r = (some (.inl ((am_bi ((I 108 (7 + v).toNat) = 0)))), (am_mm D I J ρ))) := by
  refine am_e_ss 5 (q := (8, [(0, .inr (.inr (.inl (some 107)))), (1, .inl v)], [.inl (7 + v), .inr (.inr (.inl (some 108)))], (am_mm D I J ρ))) rfl ?_
  refine am_e_iaload (m := 878) rfl rfl (by omega) (by omega) (by omega) ?_
  show am_E _ _ _ 9 [(0, .inr (.inr (.inl (some 107)))), (1, .inl v)] [.inl ((I 108 ((7 + v)).toNat))] (am_mm D I J ρ) _
  refine am_e_if2 rfl ⟨by omega, by omega⟩ (fun (h1 : ¬ (I 108 ((7 + v)).toNat) = 0) => ?_) (fun (h1 : ¬ (¬ (I 108 ((7 + v)).toNat) = 0)) => ?_)
  · show am_E _ _ _ 16 [(0, .inr (.inr (.inl (some 107)))), (1, .inl v)] [] (am_mm D I J ρ) _
    refine am_e_ss 1 (q := (17, [(0, .inr (.inr (.inl (some 107)))), (1, .inl v)], [.inl 0], (am_mm D I J ρ))) rfl ?_
    refine am_e_ireturn rfl rfl ?_
    rw [am_bi_f (by omega)]
  · show am_E _ _ _ 12 [(0, .inr (.inr (.inl (some 107)))), (1, .inl v)] [] (am_mm D I J ρ) _
    refine am_e_ss 2 (q := (17, [(0, .inr (.inr (.inl (some 107)))), (1, .inl v)], [.inl 1], (am_mm D I J ρ))) rfl ?_
    refine am_e_ireturn rfl rfl ?_
    rw [am_bi_t (by omega)]
theorem r_isOpen {X : Nat × (Nat → Int)} {D : List (Nat × Nat)} {I J : Nat → Nat → Int} {ρ : Nat → Nat → Option Nat} (d : Nat) {v : Int} (hv : 0 ≤ v ∧ v < 6) (hr : I 108 (13 + v).toNat = 0 ∨ I 108 (13 + v).toNat = 1) : am_E X d 131 0 [(0, .inr (.inr (.inl (some 107)))), (1, .inl v)] [] (am_mm D I J ρ) (fun r => r = (some (.inl ((am_bi ((I 108 (13 + v).toNat) = 0)))), (am_mm D I J ρ))) := by
  refine am_e_ss 5 (q := (8, [(0, .inr (.inr (.inl (some 107)))), (1, .inl v)], [.inl (13 + v), .inr (.inr (.inl (some 108)))], (am_mm D I J ρ))) rfl ?_
  refine am_e_iaload (m := 878) rfl rfl (by omega) (by omega) (by omega) ?_
  show am_E _ _ _ 9 [(0, .inr (.inr (.inl (some 107)))), (1, .inl v)] [.inl ((I 108 ((13 + v)).toNat))] (am_mm D I J ρ) _
  refine am_e_if2 rfl ⟨by omega, by omega⟩ (fun (h1 : ¬ (I 108 ((13 + v)).toNat) = 0) => ?_) (fun (h1 : ¬ (¬ (I 108 ((13 + v)).toNat) = 0)) => ?_)
  · show am_E _ _ _ 16 [(0, .inr (.inr (.inl (some 107)))), (1, .inl v)] [] (am_mm D I J ρ) _
    refine am_e_ss 1 (q := (17, [(0, .inr (.inr (.inl (some 107)))), (1, .inl v)], [.inl 0], (am_mm D I J ρ))) rfl ?_
    refine am_e_ireturn rfl rfl ?_
    rw [am_bi_f (by omega)]
  · show am_E _ _ _ 12 [(0, .inr (.inr (.inl (some 107)))), (1, .inl v)] [] (am_mm D I J ρ) _
    refine am_e_ss 2 (q := (17, [(0, .inr (.inr (.inl (some 107)))), (1, .inl v)], [.inl 1], (am_mm D I J ρ))) rfl ?_
    refine am_e_ireturn rfl rfl ?_
    rw [am_bi_t (by omega)]
theorem r_keeps_l {X : Nat × (Nat → Int)} {D : List (Nat × Nat)} {I J : Nat → Nat → Int} {ρ : Nat → Nat → Option Nat} (d : Nat) {k : Nat} (hk : k ≤ 19) : am_E X d 132 2 [(1, .inl (k : Int)), (0, .inr (.inr (.inl (some 107))))] [] (am_mm D (am_cpI I 110 108 k) J ρ) (fun r => r = (none, (am_mm D (am_cpI I 110 108 19) J ρ))) := by
  refine am_e_ss 2 (q := (5, [(1, .inl (k : Int)), (0, .inr (.inr (.inl (some 107))))], [.inl 19, .inl (k : Int)], (am_mm D (am_cpI I 110 108 k) J ρ))) rfl ?_
  refine am_e_icmp2 rfl ⟨by omega, by omega⟩ ⟨by omega, by omega⟩ (fun (h1 : 19 ≤ (k : Int)) => ?_) (fun (h1 : ¬ (19 ≤ (k : Int))) => ?_)
  · show am_E _ _ _ 26 [(1, .inl (k : Int)), (0, .inr (.inr (.inl (some 107))))] [] (am_mm D (am_cpI I 110 108 k) J ρ) _
    refine am_e_return rfl rfl ?_
    rw [show k = 19 by omega]
  · show am_E _ _ _ 8 [(1, .inl (k : Int)), (0, .inr (.inr (.inl (some 107))))] [] (am_mm D (am_cpI I 110 108 k) J ρ) _
    refine am_e_ss 6 (q := (18, [(1, .inl (k : Int)), (0, .inr (.inr (.inl (some 107))))], [.inl (k : Int), .inr (.inr (.inl (some 108))), .inl (k : Int), .inr (.inr (.inl (some 110)))], (am_mm D (am_cpI I 110 108 k) J ρ))) rfl ?_
    refine am_e_iaload (m := 878) rfl rfl (by omega) (by omega) (by omega) ?_
    show am_E _ _ _ 19 [(1, .inl (k : Int)), (0, .inr (.inr (.inl (some 107))))] [.inl (((am_cpI I 110 108 k) 108 k)), .inl (k : Int), .inr (.inr (.inl (some 110)))] (am_mm D (am_cpI I 110 108 k) J ρ) _
    refine am_e_iastore (m := 19) rfl rfl (by omega) (by omega) (by omega) ?_
    show am_E _ _ _ 20 [(1, .inl (k : Int)), (0, .inr (.inr (.inl (some 107))))] [] (am_mm D (am_up (am_cpI I 110 108 k) 110 k ((am_cpI I 110 108 k) 108 k)) J ρ) _
    refine am_e_ss 2 (q := (2, [(1, .inl ((k : Int) + 1)), (0, .inr (.inr (.inl (some 107))))], [], (am_mm D (am_up (am_cpI I 110 108 k) 110 k ((am_cpI I 110 108 k) 108 k)) J ρ))) rfl ?_
    rw [am_cpI_succ (by decide)]
    exact am_less (lv := [(1, .inl ((k + 1) : Int)), (0, .inr (.inr (.inl (some 107))))]) rfl (List.forall_mem_cons.mpr ⟨rfl, List.forall_mem_cons.mpr ⟨rfl, List.forall_mem_nil _⟩⟩) (r_keeps_l d (k := k + 1) (by omega))
termination_by 19 - k
decreasing_by all_goals omega
theorem r_keeps {X : Nat × (Nat → Int)} {D : List (Nat × Nat)} {I J : Nat → Nat → Int} {ρ : Nat → Nat → Option Nat} (d : Nat)  : am_E X d 132 0 [(0, .inr (.inr (.inl (some 107))))] [] (am_mm D I J ρ) (fun r => r = (none, (am_mm D (am_cpI I 110 108 19) J ρ))) := by
  refine am_e_ss 2 (q := (2, [(1, .inl 0), (0, .inr (.inr (.inl (some 107))))], [], (am_mm D I J ρ))) rfl ?_
  have h := r_keeps_l (X := X) (D := D) (I := I) (J := J) (ρ := ρ) d (k := 0) (by omega)
  rw [am_cpI_0] at h
  exact h
theorem r_goesBack_l {X : Nat × (Nat → Int)} {D : List (Nat × Nat)} {I J : Nat → Nat → Int} {ρ : Nat → Nat → Option Nat} (d : Nat) {k : Nat} (hk : k ≤ 19) : am_E X d 133 2 [(1, .inl (k : Int)), (0, .inr (.inr (.inl (some 107))))] [] (am_mm D (am_cpI I 108 110 k) J ρ) (fun r => r = (none, (am_mm D (am_cpI I 108 110 19) J ρ))) := by
  refine am_e_ss 2 (q := (5, [(1, .inl (k : Int)), (0, .inr (.inr (.inl (some 107))))], [.inl 19, .inl (k : Int)], (am_mm D (am_cpI I 108 110 k) J ρ))) rfl ?_
  refine am_e_icmp2 rfl ⟨by omega, by omega⟩ ⟨by omega, by omega⟩ (fun (h1 : 19 ≤ (k : Int)) => ?_) (fun (h1 : ¬ (19 ≤ (k : Int))) => ?_)
  · show am_E _ _ _ 26 [(1, .inl (k : Int)), (0, .inr (.inr (.inl (some 107))))] [] (am_mm D (am_cpI I 108 110 k) J ρ) _
    refine am_e_return rfl rfl ?_
    rw [show k = 19 by omega]
  · show am_E _ _ _ 8 [(1, .inl (k : Int)), (0, .inr (.inr (.inl (some 107))))] [] (am_mm D (am_cpI I 108 110 k) J ρ) _
    refine am_e_ss 6 (q := (18, [(1, .inl (k : Int)), (0, .inr (.inr (.inl (some 107))))], [.inl (k : Int), .inr (.inr (.inl (some 110))), .inl (k : Int), .inr (.inr (.inl (some 108)))], (am_mm D (am_cpI I 108 110 k) J ρ))) rfl ?_
    refine am_e_iaload (m := 19) rfl rfl (by omega) (by omega) (by omega) ?_
    show am_E _ _ _ 19 [(1, .inl (k : Int)), (0, .inr (.inr (.inl (some 107))))] [.inl (((am_cpI I 108 110 k) 110 k)), .inl (k : Int), .inr (.inr (.inl (some 108)))] (am_mm D (am_cpI I 108 110 k) J ρ) _
    refine am_e_iastore (m := 878) rfl rfl (by omega) (by omega) (by omega) ?_
    show am_E _ _ _ 20 [(1, .inl (k : Int)), (0, .inr (.inr (.inl (some 107))))] [] (am_mm D (am_up (am_cpI I 108 110 k) 108 k ((am_cpI I 108 110 k) 110 k)) J ρ) _
    refine am_e_ss 2 (q := (2, [(1, .inl ((k : Int) + 1)), (0, .inr (.inr (.inl (some 107))))], [], (am_mm D (am_up (am_cpI I 108 110 k) 108 k ((am_cpI I 108 110 k) 110 k)) J ρ))) rfl ?_
    rw [am_cpI_succ (by decide)]
    exact am_less (lv := [(1, .inl ((k + 1) : Int)), (0, .inr (.inr (.inl (some 107))))]) rfl (List.forall_mem_cons.mpr ⟨rfl, List.forall_mem_cons.mpr ⟨rfl, List.forall_mem_nil _⟩⟩) (r_goesBack_l d (k := k + 1) (by omega))
termination_by 19 - k
decreasing_by all_goals omega
theorem r_goesBack {X : Nat × (Nat → Int)} {D : List (Nat × Nat)} {I J : Nat → Nat → Int} {ρ : Nat → Nat → Option Nat} (d : Nat)  : am_E X d 133 0 [(0, .inr (.inr (.inl (some 107))))] [] (am_mm D I J ρ) (fun r => r = (none, (am_mm D (am_cpI I 108 110 19) J ρ))) := by
  refine am_e_ss 2 (q := (2, [(1, .inl 0), (0, .inr (.inr (.inl (some 107))))], [], (am_mm D I J ρ))) rfl ?_
  have h := r_goesBack_l (X := X) (D := D) (I := I) (J := J) (ρ := ρ) d (k := 0) (by omega)
  rw [am_cpI_0] at h
  exact h
