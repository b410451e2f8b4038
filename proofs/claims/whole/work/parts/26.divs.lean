/-! division of the machine's ints -/
theorem am_div_eq {z y : Int} (hz : -2147483648 ≤ z ∧ z < 2147483648) (hy : 0 < y ∧ y < 2147483648) : (Int32.ofInt z / Int32.ofInt y).toInt = z.tdiv y := by
  rw [Int32.toInt_div, show (Int32.ofInt z).toInt = z from am_w_id hz.1 hz.2, show (Int32.ofInt y).toInt = y from am_w_id (by omega) hy.2]
  have h1 : -2147483648 ≤ z.tdiv y ∧ z.tdiv y < 2147483648 := by
    rcases Int.le_total 0 z with h | h
    · have e := Int.tdiv_eq_ediv_of_nonneg (b := y) h
      rw [e]
      have a1 : 0 ≤ z / y := Int.ediv_nonneg h (by omega)
      have a2 : z / y ≤ z := Int.ediv_le_self y h
      omega
    · have e : z.tdiv y = -((-z) / y) := by
        rw [← Int.tdiv_eq_ediv_of_nonneg (a := -z) (b := y) (by omega), Int.neg_tdiv, Int.neg_neg]
      rw [e]
      have a1 : 0 ≤ (-z) / y := Int.ediv_nonneg (by omega) (by omega)
      have a2 : (-z) / y ≤ -z := Int.ediv_le_self y (by omega)
      omega
  exact Int.bmod_eq_of_le (by omega) (by omega)
theorem am_div_pos {z y : Int} (hz : 0 ≤ z ∧ z < 2147483648) (hy : 0 < y ∧ y < 2147483648) : (Int32.ofInt z / Int32.ofInt y).toInt = z / y := by
  rw [am_div_eq ⟨by omega, hz.2⟩ hy, Int.tdiv_eq_ediv_of_nonneg hz.1]
theorem am_rem_eq {z y : Int} (hz : -2147483648 ≤ z ∧ z < 2147483648) (hy : 0 < y ∧ y < 2147483648) : (Int32.ofInt z - Int32.ofInt z / Int32.ofInt y * Int32.ofInt y).toInt = z.tmod y := by
  have e0 := am_div_eq hz hy
  have e1 : Int32.ofInt z / Int32.ofInt y = Int32.ofInt (z.tdiv y) := by rw [← e0, Int32.ofInt_toInt]
  rw [e1, ← Int32.ofInt_mul, ← Int32.ofInt_sub]
  have e2 : z - z.tdiv y * y = z.tmod y := by
    have := Int.mul_tdiv_add_tmod z y
    have h2 : y * z.tdiv y = z.tdiv y * y := Int.mul_comm _ _
    omega
  rw [e2]
  refine am_w_id ?_ ?_
  · have h3 := Int.tmod_lt_of_pos z hy.1
    have h4 : -y < z.tmod y := by
      rcases Int.le_total 0 z with h | h
      · have := Int.tmod_nonneg y h
        omega
      · have := Int.tmod_nonneg (a := -z) y (by omega)
        have h5 := Int.tmod_lt_of_pos (-z) hy.1
        rw [Int.neg_tmod] at h5
        omega
    omega
  · have := Int.tmod_lt_of_pos z hy.1
    omega
theorem am_rem_pos {z y : Int} (hz : 0 ≤ z ∧ z < 2147483648) (hy : 0 < y ∧ y < 2147483648) : (Int32.ofInt z - Int32.ofInt z / Int32.ofInt y * Int32.ofInt y).toInt = z % y := by
  rw [am_rem_eq ⟨by omega, hz.2⟩ hy, Int.tmod_eq_emod_of_nonneg hz.1]
section
variable {X : Nat × (Nat → Int)} {d mid pc n x : Nat} {lv : List (Nat × am_V)} {st : List am_V} {M : am_M} {P : am_R → Prop}
theorem am_e_idivp {z y : Int} (hi : am_ins mid pc = some (.idiv, n, x)) (hz : 0 ≤ z ∧ z < 2147483648) (hy : 0 < y ∧ y < 2147483648) (h : am_E X d mid (pc + n) lv (.inl (z / y) :: st) M P) : am_E X d mid pc lv (.inl y :: .inl z :: st) M P :=
  am_e_idiv hi (by rw [am_w_id (by omega) hy.2]; omega) (by rw [am_div_pos hz hy]; exact h)
theorem am_e_idivt {z y : Int} (hi : am_ins mid pc = some (.idiv, n, x)) (hz : -2147483648 ≤ z ∧ z < 2147483648) (hy : 0 < y ∧ y < 2147483648) (h : am_E X d mid (pc + n) lv (.inl (z.tdiv y) :: st) M P) : am_E X d mid pc lv (.inl y :: .inl z :: st) M P :=
  am_e_idiv hi (by rw [am_w_id (by omega) hy.2]; omega) (by rw [am_div_eq hz hy]; exact h)
theorem am_e_iremp {z y : Int} (hi : am_ins mid pc = some (.irem, n, x)) (hz : 0 ≤ z ∧ z < 2147483648) (hy : 0 < y ∧ y < 2147483648) (h : am_E X d mid (pc + n) lv (.inl (z % y) :: st) M P) : am_E X d mid pc lv (.inl y :: .inl z :: st) M P :=
  am_e_irem hi (by rw [am_w_id (by omega) hy.2]; omega) (by rw [am_rem_pos hz hy]; exact h)
end
