/-! BITS OF A STACK -/
theorem am_b32 {v : Int32} {n : Nat} (h : v.toBitVec.toNat = n) (hn : n < 2147483648) : v.toInt = (n : Int) := by
  show v.toBitVec.toInt = _
  rw [BitVec.toInt_eq_toNat_of_lt (by rw [h]; omega), h]
theorem am_b0 {n : Nat} (hn : n < 2147483648) : (Int32.ofInt (n : Int)).toBitVec.toNat = n := by
  show (BitVec.ofInt 32 (n : Int)).toNat = n
  rw [BitVec.ofInt_natCast, BitVec.toNat_ofNat]
  exact Nat.mod_eq_of_lt (by omega)
theorem am_band1 {x : Nat} (hx : x < 2147483648) : (Int32.ofInt (x : Int) &&& Int32.ofInt 1).toInt = ((x % 2 : Nat) : Int) := by
  refine am_b32 ?_ (by omega)
  show ((Int32.ofInt (x : Int)).toBitVec &&& (Int32.ofInt ((1 : Nat) : Int)).toBitVec).toNat = _
  rw [BitVec.toNat_and, am_b0 hx, am_b0 (by omega), Nat.and_one_is_mod]
theorem am_bxor1 {x : Nat} (hx : x < 2147483648) : (Int32.ofInt (x : Int) ^^^ Int32.ofInt 1).toInt = ((2 * (x / 2) + (x + 1) % 2 : Nat) : Int) := by
  have e : x ^^^ 1 = 2 * (x / 2) + (x + 1) % 2 := by
    have h1 := Nat.div_add_mod (x ^^^ 1) 2
    rw [Nat.xor_div_two, show 1 / 2 = 0 from rfl, Nat.xor_zero] at h1
    have h2 := @Nat.xor_mod_two_eq_one x 1
    have h3 : (x ^^^ 1) % 2 = (x + 1) % 2 := by
      by_cases e : x % 2 = 1
      · have : ¬ (x ^^^ 1) % 2 = 1 := fun h => (h2.mp h) ⟨fun _ => rfl, fun _ => e⟩
        omega
      · have : (x ^^^ 1) % 2 = 1 := h2.mpr (fun h => e (h.mpr rfl))
        omega
    omega
  refine am_b32 ?_ (by omega)
  show ((Int32.ofInt (x : Int)).toBitVec ^^^ (Int32.ofInt ((1 : Nat) : Int)).toBitVec).toNat = _
  rw [BitVec.toNat_xor, am_b0 hx, am_b0 (by omega), e]
theorem am_bor {x r : Nat} (hx : x < 2147483648) (hr : r ≤ 1) : (Int32.ofInt (x : Int) ||| Int32.ofInt (r : Int)).toInt = ((2 * (x / 2) + (if r = 1 then 1 else x % 2) : Nat) : Int) := by
  have e : x ||| r = 2 * (x / 2) + (if r = 1 then 1 else x % 2) := by
    have h1 := Nat.div_add_mod (x ||| r) 2
    rw [Nat.or_div_two, show r / 2 = 0 by omega, Nat.or_zero] at h1
    rw [← h1]
    congr 1
    by_cases e : r = 1
    · subst e; rw [if_pos rfl]; exact Nat.or_mod_two_eq_one.mpr (Or.inr rfl)
    · rw [if_neg e, show r = 0 by omega, Nat.or_zero]
  refine am_b32 ?_ (by split <;> omega)
  show ((Int32.ofInt (x : Int)).toBitVec ||| (Int32.ofInt (r : Int)).toBitVec).toNat = _
  rw [BitVec.toNat_or, am_b0 hx, am_b0 (by omega), e]
theorem am_bmsk {x r : Nat} (hx : x < 2147483648) (hr : r ≤ 1) : (Int32.ofInt (x : Int) &&& Int32.ofInt (Int32.ofInt (-2) ||| Int32.ofInt (r : Int)).toInt).toInt = ((2 * (x / 2) + (if r = 1 then x % 2 else 0) : Nat) : Int) := by
  have h : r = 0 ∨ r = 1 := by omega
  rcases h with rfl | rfl
  · have e : x &&& 4294967294 = 2 * (x / 2) := by
      have h1 := Nat.div_add_mod (x &&& 4294967294) 2
      rw [Nat.and_div_two, show 4294967294 / 2 = 2 ^ 31 - 1 from rfl, Nat.and_two_pow_sub_one_eq_mod, Nat.mod_eq_of_lt (show x / 2 < 2 ^ 31 by omega)] at h1
      have h2 : (x &&& 4294967294) % 2 = 0 := by
        have : ¬ (x &&& 4294967294) % 2 = 1 := by rw [Nat.and_mod_two_eq_one]; omega
        omega
      omega
    refine am_b32 ?_ (by rw [if_neg (by omega)]; omega)
    show ((Int32.ofInt (x : Int)).toBitVec &&& (4294967294#32)).toNat = _
    rw [BitVec.toNat_and, am_b0 hx, if_neg (by omega)]
    exact e
  · refine am_b32 ?_ (by rw [if_pos rfl]; omega)
    show ((Int32.ofInt (x : Int)).toBitVec &&& (BitVec.allOnes 32)).toNat = _
    rw [BitVec.and_allOnes, am_b0 hx, if_pos rfl]
    omega
theorem am_bshr1 {x : Nat} (hx : x < 2147483648) : (Int32.ofInt (x : Int) >>> (Int32.ofInt 1 &&& 31)).toInt = ((x / 2 : Nat) : Int) := by
  show ((Int32.ofInt (x : Int)).toBitVec.sshiftRight 1).toInt = _
  rw [BitVec.toInt_sshiftRight, BitVec.toInt_eq_toNat_of_lt (by rw [am_b0 hx]; omega), am_b0 hx, Int.shiftRight_eq_div_pow]
  omega
theorem am_bshl1 {x r : Nat} (hx : x < 1073741824) (hr : r ≤ 1) : (Int32.ofInt (Int32.ofInt (x : Int) <<< (Int32.ofInt 1 &&& 31)).toInt ||| Int32.ofInt (r : Int)).toInt = ((2 * x + r : Nat) : Int) := by
  have h1 : (Int32.ofInt (x : Int) <<< (Int32.ofInt 1 &&& 31)).toInt = ((2 * x : Nat) : Int) := by
    refine am_b32 ?_ (by omega)
    show ((Int32.ofInt (x : Int)).toBitVec <<< 1).toNat = _
    rw [BitVec.toNat_shiftLeft, am_b0 (by omega), Nat.shiftLeft_eq, Nat.mod_eq_of_lt (by omega)]
    omega
  rw [h1, am_bor (by omega) hr]
  split <;> omega
