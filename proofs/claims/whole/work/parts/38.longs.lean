/-! LONGS; THE REFERENCE: enough -/
theorem am_w64 {z : Int} (h : -9223372036854775808 ≤ z ∧ z < 9223372036854775808) : (Int64.ofInt z).toInt = z := Int64.toInt_ofInt_of_le (by omega) (by omega)
def am_sg3 (z y : Int) : Int := if z < y then -1 else if z = y then 0 else 1
theorem am_sg3_p (z y : Int) : (z < y ∧ am_sg3 z y = -1) ∨ (z = y ∧ am_sg3 z y = 0) ∨ (y < z ∧ am_sg3 z y = 1) := by
  unfold am_sg3
  (repeat' split) <;> omega
theorem am_sg3_of {z y : Int} (hz : -9223372036854775808 ≤ z ∧ z < 9223372036854775808) (hy : -9223372036854775808 ≤ y ∧ y < 9223372036854775808) : (lg_cmp (Int64.ofInt z) (Int64.ofInt y)).toInt = am_sg3 z y := by
  unfold lg_cmp am_sg3
  simp only [gt_iff_lt, Int64.lt_iff_toInt_lt, ← Int64.toInt_inj, am_w64 hz, am_w64 hy]
  by_cases h1 : y < z
  · rw [if_pos h1, if_neg (by omega), if_neg (by omega)]; rfl
  · rw [if_neg h1]
    by_cases h2 : z = y
    · rw [if_pos h2, if_neg (by omega), if_pos h2]; rfl
    · rw [if_neg h2, if_pos (by omega)]; rfl
theorem am_ldiv_pos {z y : Int} (hz : 0 ≤ z ∧ z < 9223372036854775808) (hy : 0 < y ∧ y < 9223372036854775808) : (Int64.ofInt z / Int64.ofInt y).toInt = z / y := by
  rw [Int64.toInt_div, am_w64 ⟨by omega, hz.2⟩, am_w64 ⟨by omega, hy.2⟩, Int.tdiv_eq_ediv_of_nonneg hz.1]
  have a1 : 0 ≤ z / y := Int.ediv_nonneg hz.1 (by omega)
  have a2 : z / y ≤ z := Int.ediv_le_self y hz.1
  exact Int.bmod_eq_of_le (by omega) (by omega)
theorem am_lrem_pos {z y : Int} (hz : 0 ≤ z ∧ z < 9223372036854775808) (hy : 0 < y ∧ y < 9223372036854775808) : (Int64.ofInt z - Int64.ofInt z / Int64.ofInt y * Int64.ofInt y).toInt = z % y := by
  have e0 := am_ldiv_pos hz hy
  have e1 : Int64.ofInt z / Int64.ofInt y = Int64.ofInt (z / y) := by rw [← e0, Int64.ofInt_toInt]
  rw [e1, ← Int64.ofInt_mul, ← Int64.ofInt_sub]
  have e2 : z - z / y * y = z % y := by
    have := Int.mul_ediv_add_emod z y
    have h2 : y * (z / y) = z / y * y := Int.mul_comm _ _
    omega
  rw [e2]
  have h1 := Int.emod_nonneg z (show y ≠ 0 by omega)
  have h2 := Int.emod_lt_of_pos z hy.1
  exact am_w64 ⟨by omega, by omega⟩
theorem am_l0 {y : Int} (hy : 0 < y ∧ y < 9223372036854775808) : ¬ Int64.ofInt y = 0 := by
  intro h
  have h2 := congrArg Int64.toInt h
  rw [am_w64 ⟨by omega, hy.2⟩] at h2
  have h3 : (0 : Int64).toInt = 0 := by decide
  omega
section
variable {X : Nat × (Nat → Int)} {d mid pc n x : Nat} {lv : List (Nat × am_V)} {st : List am_V} {M : am_M} {P : am_R → Prop}
theorem am_e_lcmp {z y : Int} (hi : am_ins mid pc = some (.lcmp, n, x)) (hz : -9223372036854775808 ≤ z ∧ z < 9223372036854775808) (hy : -9223372036854775808 ≤ y ∧ y < 9223372036854775808) (h : am_E X d mid (pc + n) lv (.inl (am_sg3 z y) :: st) M P) : am_E X d mid pc lv (.inr (.inl y) :: .inr (.inl z) :: st) M P :=
  am_e_s hi (q := (pc + n, lv, .inl (am_sg3 z y) :: st, M)) (by rw [← am_sg3_of hz hy]; rfl) h
theorem am_e_ldivp {z y : Int} (hi : am_ins mid pc = some (.ldiv, n, x)) (hz : 0 ≤ z ∧ z < 9223372036854775808) (hy : 0 < y ∧ y < 9223372036854775808) (h : am_E X d mid (pc + n) lv (.inr (.inl (z / y)) :: st) M P) : am_E X d mid pc lv (.inr (.inl y) :: .inr (.inl z) :: st) M P :=
  am_e_s hi (q := (pc + n, lv, .inr (.inl (z / y)) :: st, M)) (by
    show (Option.map _ (if Int64.ofInt y = 0 then none else some (Int64.ofInt z / Int64.ofInt y).toInt)) = _
    rw [if_neg (am_l0 hy), am_ldiv_pos hz hy]; rfl) h
theorem am_e_lremp {z y : Int} (hi : am_ins mid pc = some (.lrem, n, x)) (hz : 0 ≤ z ∧ z < 9223372036854775808) (hy : 0 < y ∧ y < 9223372036854775808) (h : am_E X d mid (pc + n) lv (.inr (.inl (z % y)) :: st) M P) : am_E X d mid pc lv (.inr (.inl y) :: .inr (.inl z) :: st) M P :=
  am_e_s hi (q := (pc + n, lv, .inr (.inl (z % y)) :: st, M)) (by
    show (Option.map _ (if Int64.ofInt y = 0 then none else some (Int64.ofInt z - Int64.ofInt z / Int64.ofInt y * Int64.ofInt y).toInt)) = _
    rw [if_neg (am_l0 hy), am_lrem_pos hz hy]; rfl) h
end
theorem am_r_wp2 {D : List (Nat × Nat)} {I K J L : Nat → Nat → Int} {ρ : Nat → Nat → Option Nat} {v : Option am_V} (p q : Nat → Nat → Bool) (hk : ∀ c i, p c i = false → K c i = I c i) (hj : ∀ c i, q c i = false → L c i = J c i) : ((v, am_mm D K L ρ) : am_R) = (v, am_mm D (am_wp p I K) (am_wp q J L) ρ) := by
  rw [← am_wp_of hk, ← am_wp_of hj]
/-- odds that enough read -/
def sp_wyk (p : Int) (w : Nat → Int) (j : Nat) : Int := w j * (10 - p) + (if j = 0 then 0 else w (j - 1) * p)
def sp_wy (S : Nat → Int) (b : Int) : Nat → Nat → Int
  | 0 => fun j => if j = 0 then 1 else 0
  | m + 1 => if S (7 + m) = 0 then sp_wyk (sp_odds S m b) (sp_wy S b m) else sp_wy S b m
def sp_low (S : Nat → Int) : Nat → Int
  | 0 => 1
  | m + 1 => if S (7 + m) = 0 then sp_low S m * 10 else sp_low S m
/-- the sum of n of a row, from k on -/
def sp_upk (w : Nat → Int) (k : Nat) : Nat → Int
  | 0 => 0
  | n + 1 => sp_upk w k n + w (k + n)
def sp_frac (up low part : Int) : Int := (if part = 0 then up else low) / ((Nat.gcd up.toNat low.toNat : Nat) : Int)
def sp_up (S : Nat → Int) (b : Int) (k : Nat) : Int := sp_upk (sp_wy S b (S 19).toNat) k (7 - k)
def sp_enough (S : Nat → Int) (b k part : Int) : Int := if ¬ (0 ≤ b ∧ b ≤ S 20 - 1) then -9223372036854775808 else if ¬ (0 ≤ k ∧ k ≤ 6) then -9223372036854775808 else if ¬ (0 ≤ part ∧ part ≤ 1) then -9223372036854775808 else sp_frac (sp_up S b k.toNat) (sp_low S (S 19).toNat) part
theorem sp_low_b {S : Nat → Int} : ∀ m : Nat, 1 ≤ sp_low S m ∧ sp_low S m ≤ 10 ^ m := by
  intro m
  induction m with
  | zero => exact ⟨Int.le_refl _, Int.le_refl _⟩
  | succ m ih =>
    unfold sp_low
    have e : (10 : Int) ^ (m + 1) = 10 ^ m * 10 := by rw [Int.pow_succ]
    split <;> omega
theorem sp_upk_nn {w : Nat → Int} {k : Nat} (h : ∀ j, 0 ≤ w j) : ∀ n, 0 ≤ sp_upk w k n := by
  intro n
  induction n with
  | zero => exact Int.le_refl _
  | succ n ih =>
    have := h (k + n)
    unfold sp_upk
    omega
theorem sp_wyk_nn {p : Int} {w : Nat → Int} (hp : 0 ≤ p ∧ p ≤ 10) (h : ∀ j, 0 ≤ w j) (j : Nat) : 0 ≤ sp_wyk p w j := by
  have h1 : 0 ≤ w j * (10 - p) := Int.mul_nonneg (h j) (by omega)
  have h2 : 0 ≤ w (j - 1) * p := Int.mul_nonneg (h (j - 1)) hp.1
  unfold sp_wyk
  split <;> omega
theorem sp_wy_nn {S : Nat → Int} {b : Int} : ∀ m j, 0 ≤ sp_wy S b m j := by
  intro m
  induction m with
  | zero => intro j; show (0 : Int) ≤ (if j = 0 then 1 else 0); split <;> omega
  | succ m ih =>
    intro j
    unfold sp_wy
    split
    · exact sp_wyk_nn (sp_odds_b S m b) ih j
    · exact ih j
theorem sp_upk_sp {w : Nat → Int} {k : Nat} : ∀ n, sp_upk w 0 (k + n) = sp_upk w 0 k + sp_upk w k n := by
  intro n
  induction n with
  | zero => show _ = _ + (0 : Int); rw [Nat.add_zero, Int.add_zero]
  | succ n ih =>
    show sp_upk w 0 (k + n) + w (0 + (k + n)) = sp_upk w 0 k + (sp_upk w k n + w (k + n))
    rw [ih, Nat.zero_add, Int.add_assoc]
theorem sp_upk_wyk {p : Int} {w : Nat → Int} (hp : 0 ≤ p ∧ p ≤ 10) (h : ∀ j, 0 ≤ w j) : ∀ n, sp_upk (sp_wyk p w) 0 (n + 1) + w n * p = sp_upk w 0 (n + 1) * 10 := by
  intro n
  induction n with
  | zero =>
    show ((0 : Int) + sp_wyk p w (0 + 0)) + w 0 * p = (0 + w (0 + 0)) * 10
    unfold sp_wyk
    rw [if_pos rfl, Int.mul_sub]
    simp only [Nat.zero_add]
    omega
  | succ n ih =>
    have e1 : sp_upk (sp_wyk p w) 0 (n + 1 + 1) = sp_upk (sp_wyk p w) 0 (n + 1) + sp_wyk p w (n + 1) := by
      show _ + sp_wyk p w (0 + (n + 1)) = _
      rw [Nat.zero_add]
    have e2 : sp_upk w 0 (n + 1 + 1) = sp_upk w 0 (n + 1) + w (n + 1) := by
      show _ + w (0 + (n + 1)) = _
      rw [Nat.zero_add]
    rw [e1, e2]
    have e3 : sp_wyk p w (n + 1) = w (n + 1) * (10 - p) + w n * p := by
      unfold sp_wyk
      rw [if_neg (by omega), Nat.add_sub_cancel]
    rw [e3, Int.mul_sub]
    omega
theorem sp_wy_sum {S : Nat → Int} {b : Int} : ∀ m, sp_upk (sp_wy S b m) 0 7 ≤ sp_low S m := by
  intro m
  induction m with
  | zero => show sp_upk (fun j => if j = 0 then 1 else 0) 0 7 ≤ 1; decide
  | succ m ih =>
    unfold sp_wy sp_low
    split
    · have h1 : sp_upk (sp_wyk (sp_odds S m b) (sp_wy S b m)) 0 7 + sp_wy S b m 6 * sp_odds S m b = sp_upk (sp_wy S b m) 0 7 * 10 := sp_upk_wyk (sp_odds_b S m b) (sp_wy_nn (S := S) (b := b) m) 6
      have h2 : 0 ≤ sp_wy S b m 6 * sp_odds S m b := Int.mul_nonneg (sp_wy_nn m 6) (sp_odds_b S m b).1
      omega
    · exact ih
theorem sp_up_b {S : Nat → Int} {b : Int} {k : Nat} (hk : k ≤ 7) : 0 ≤ sp_up S b k ∧ sp_up S b k ≤ sp_low S (S 19).toNat := by
  have h1 := sp_wy_sum (S := S) (b := b) (S 19).toNat
  have h2 := sp_upk_sp (w := sp_wy S b (S 19).toNat) (k := k) (7 - k)
  rw [show k + (7 - k) = 7 by omega] at h2
  have h3 := sp_upk_nn (k := 0) (sp_wy_nn (S := S) (b := b) (S 19).toNat) k
  have h4 := sp_upk_nn (k := k) (sp_wy_nn (S := S) (b := b) (S 19).toNat) (7 - k)
  unfold sp_up
  omega
theorem sp_low_6 {S : Nat → Int} {m : Nat} (hm : m ≤ 6) : 1 ≤ sp_low S m ∧ sp_low S m ≤ 1000000 := by
  have h := sp_low_b (S := S) m
  have h2 : (10 : Int) ^ m ≤ 10 ^ 6 := by
    have h : m = 0 ∨ m = 1 ∨ m = 2 ∨ m = 3 ∨ m = 4 ∨ m = 5 ∨ m = 6 := by omega
    rcases h with rfl | rfl | rfl | rfl | rfl | rfl | rfl <;> decide
  have e : (10 : Int) ^ 6 = 1000000 := by decide
  omega
theorem r_lowest_l {X : Nat × (Nat → Int)} {D : List (Nat × Nat)} {I J : Nat → Nat → Int} {ρ : Nat → Nat → Option Nat} (d : Nat) {part : Int} {x y up low : Nat} (hup : up ≤ 1000000) (hlow : 1 ≤ low ∧ low ≤ 1000000) (hx : x ≤ 1000000) (hy : y ≤ 1000000) (hg : Nat.gcd x y = Nat.gcd up low) (hpart : part = 0 ∨ part = 1) : am_E X d 188 6 [(7, .inr (.inl (y : Int))), (5, .inr (.inl (x : Int))), (0, .inr (.inl (up : Int))), (2, .inr (.inl (low : Int))), (4, .inl part)] [] (am_mm D I J ρ) (fun r => r = (some (.inr (.inl (sp_frac (up : Int) (low : Int) part))), (am_mm D I J ρ))) := by
  have hgp : 0 < Nat.gcd up low := Nat.gcd_pos_of_pos_right _ (by omega)
  refine am_e_ss 2 (q := (9, [(7, .inr (.inl (y : Int))), (5, .inr (.inl (x : Int))), (0, .inr (.inl (up : Int))), (2, .inr (.inl (low : Int))), (4, .inl part)], [.inr (.inl 0), .inr (.inl (y : Int))], (am_mm D I J ρ))) rfl ?_
  refine am_e_lcmp rfl ⟨by omega, by omega⟩ ⟨by omega, by omega⟩ ?_
  show am_E _ _ _ 10 [(7, .inr (.inl (y : Int))), (5, .inr (.inl (x : Int))), (0, .inr (.inl (up : Int))), (2, .inr (.inl (low : Int))), (4, .inl part)] [.inl ((am_sg3 (y : Int) 0))] (am_mm D I J ρ) _
  have c31 := am_sg3_p (y : Int) 0
  refine am_e_if2 rfl ⟨by omega, by omega⟩ (fun (h2 : (am_sg3 (y : Int) 0) = 0) => ?_) (fun (h2 : ¬ ((am_sg3 (y : Int) 0) = 0)) => ?_)
  · show am_E _ _ _ 31 [(7, .inr (.inl (y : Int))), (5, .inr (.inl (x : Int))), (0, .inr (.inl (up : Int))), (2, .inr (.inl (low : Int))), (4, .inl part)] [] (am_mm D I J ρ) _
    refine am_e_ss 1 (q := (33, [(7, .inr (.inl (y : Int))), (5, .inr (.inl (x : Int))), (0, .inr (.inl (up : Int))), (2, .inr (.inl (low : Int))), (4, .inl part)], [.inl part], (am_mm D I J ρ))) rfl ?_
    refine am_e_if2 rfl ⟨by omega, by omega⟩ (fun (h3 : ¬ part = 0) => ?_) (fun (h3 : ¬ (¬ part = 0)) => ?_)
    · show am_E _ _ _ 40 [(7, .inr (.inl (y : Int))), (5, .inr (.inl (x : Int))), (0, .inr (.inl (up : Int))), (2, .inr (.inl (low : Int))), (4, .inl part)] [] (am_mm D I J ρ) _
      refine am_e_ss 1 (q := (41, [(7, .inr (.inl (y : Int))), (5, .inr (.inl (x : Int))), (0, .inr (.inl (up : Int))), (2, .inr (.inl (low : Int))), (4, .inl part)], [.inr (.inl (low : Int))], (am_mm D I J ρ))) rfl ?_
      have hxp : 0 < x := by
        have : x = Nat.gcd up low := by rw [← hg, show y = 0 by omega, Nat.gcd_zero_right]
        omega
      refine am_e_ss 1 (q := (43, [(7, .inr (.inl (y : Int))), (5, .inr (.inl (x : Int))), (0, .inr (.inl (up : Int))), (2, .inr (.inl (low : Int))), (4, .inl part)], [.inr (.inl (x : Int)), .inr (.inl (low : Int))], (am_mm D I J ρ))) rfl ?_
      refine am_e_ldivp rfl ⟨by omega, by omega⟩ ⟨by omega, by omega⟩ ?_
      show am_E _ _ _ 44 [(7, .inr (.inl (y : Int))), (5, .inr (.inl (x : Int))), (0, .inr (.inl (up : Int))), (2, .inr (.inl (low : Int))), (4, .inl part)] [.inr (.inl ((low : Int) / (x : Int)))] (am_mm D I J ρ) _
      refine am_e_lreturn rfl rfl ?_
      have hx : x = Nat.gcd up low := by rw [← hg, show y = 0 by omega, Nat.gcd_zero_right]
      subst hx
      rw [show sp_frac (up : Int) (low : Int) part = ((low : Int) / ((Nat.gcd up low : Nat) : Int)) by (unfold sp_frac; rw [if_neg (by omega)]; rfl)]
    · show am_E _ _ _ 36 [(7, .inr (.inl (y : Int))), (5, .inr (.inl (x : Int))), (0, .inr (.inl (up : Int))), (2, .inr (.inl (low : Int))), (4, .inl part)] [] (am_mm D I J ρ) _
      refine am_e_ss 2 (q := (41, [(7, .inr (.inl (y : Int))), (5, .inr (.inl (x : Int))), (0, .inr (.inl (up : Int))), (2, .inr (.inl (low : Int))), (4, .inl part)], [.inr (.inl (up : Int))], (am_mm D I J ρ))) rfl ?_
      have hxp : 0 < x := by
        have : x = Nat.gcd up low := by rw [← hg, show y = 0 by omega, Nat.gcd_zero_right]
        omega
      refine am_e_ss 1 (q := (43, [(7, .inr (.inl (y : Int))), (5, .inr (.inl (x : Int))), (0, .inr (.inl (up : Int))), (2, .inr (.inl (low : Int))), (4, .inl part)], [.inr (.inl (x : Int)), .inr (.inl (up : Int))], (am_mm D I J ρ))) rfl ?_
      refine am_e_ldivp rfl ⟨by omega, by omega⟩ ⟨by omega, by omega⟩ ?_
      show am_E _ _ _ 44 [(7, .inr (.inl (y : Int))), (5, .inr (.inl (x : Int))), (0, .inr (.inl (up : Int))), (2, .inr (.inl (low : Int))), (4, .inl part)] [.inr (.inl ((up : Int) / (x : Int)))] (am_mm D I J ρ) _
      refine am_e_lreturn rfl rfl ?_
      have hx : x = Nat.gcd up low := by rw [← hg, show y = 0 by omega, Nat.gcd_zero_right]
      subst hx
      rw [show sp_frac (up : Int) (low : Int) part = ((up : Int) / ((Nat.gcd up low : Nat) : Int)) by (unfold sp_frac; rw [if_pos (by omega)]; rfl)]
  · show am_E _ _ _ 13 [(7, .inr (.inl (y : Int))), (5, .inr (.inl (x : Int))), (0, .inr (.inl (up : Int))), (2, .inr (.inl (low : Int))), (4, .inl part)] [] (am_mm D I J ρ) _
    refine am_e_ss 2 (q := (17, [(7, .inr (.inl (y : Int))), (5, .inr (.inl (x : Int))), (0, .inr (.inl (up : Int))), (2, .inr (.inl (low : Int))), (4, .inl part)], [.inr (.inl (y : Int)), .inr (.inl (x : Int))], (am_mm D I J ρ))) rfl ?_
    refine am_e_lremp rfl ⟨by omega, by omega⟩ ⟨by omega, by omega⟩ ?_
    show am_E _ _ _ 18 [(7, .inr (.inl (y : Int))), (5, .inr (.inl (x : Int))), (0, .inr (.inl (up : Int))), (2, .inr (.inl (low : Int))), (4, .inl part)] [.inr (.inl ((x : Int) % (y : Int)))] (am_mm D I J ρ) _
    refine am_e_ss 6 (q := (6, [(7, .inr (.inl ((x : Int) % (y : Int)))), (5, .inr (.inl (y : Int))), (9, .inr (.inl ((x : Int) % (y : Int)))), (0, .inr (.inl (up : Int))), (2, .inr (.inl (low : Int))), (4, .inl part)], [], (am_mm D I J ρ))) rfl ?_
    have hlt : x % y < y := Nat.mod_lt _ (by omega)
    exact am_less (lv := [(7, .inr (.inl ((x % y : Nat) : Int))), (5, .inr (.inl (y : Int))), (0, .inr (.inl (up : Int))), (2, .inr (.inl (low : Int))), (4, .inl part)]) rfl (List.forall_mem_cons.mpr ⟨rfl, List.forall_mem_cons.mpr ⟨rfl, List.forall_mem_cons.mpr ⟨rfl, List.forall_mem_cons.mpr ⟨rfl, List.forall_mem_cons.mpr ⟨rfl, List.forall_mem_nil _⟩⟩⟩⟩⟩) (r_lowest_l d (x := y) (y := x % y) (up := up) (low := low) hup hlow (by omega) (by omega) (by rw [Nat.gcd_comm, ← Nat.gcd_rec, Nat.gcd_comm]; exact hg) hpart)
termination_by y
decreasing_by all_goals omega
theorem r_lowest {X : Nat × (Nat → Int)} {D : List (Nat × Nat)} {I J : Nat → Nat → Int} {ρ : Nat → Nat → Option Nat} (d : Nat) {part : Int} {up low : Nat} (hup : up ≤ 1000000) (hlow : 1 ≤ low ∧ low ≤ 1000000) (hpart : part = 0 ∨ part = 1) : am_E X d 188 0 [(0, .inr (.inl (up : Int))), (2, .inr (.inl (low : Int))), (4, .inl part)] [] (am_mm D I J ρ) (fun r => r = (some (.inr (.inl (sp_frac (up : Int) (low : Int) part))), (am_mm D I J ρ))) := by
  refine am_e_ss 4 (q := (6, [(7, .inr (.inl (low : Int))), (5, .inr (.inl (up : Int))), (0, .inr (.inl (up : Int))), (2, .inr (.inl (low : Int))), (4, .inl part)], [], (am_mm D I J ρ))) rfl ?_
  exact am_less (lv := [(7, .inr (.inl (low : Int))), (5, .inr (.inl (up : Int))), (0, .inr (.inl (up : Int))), (2, .inr (.inl (low : Int))), (4, .inl part)]) rfl (List.forall_mem_cons.mpr ⟨rfl, List.forall_mem_cons.mpr ⟨rfl, List.forall_mem_cons.mpr ⟨rfl, List.forall_mem_cons.mpr ⟨rfl, List.forall_mem_cons.mpr ⟨rfl, List.forall_mem_nil _⟩⟩⟩⟩⟩) (r_lowest_l d (x := up) (y := low) hup hlow (by omega) (by omega) rfl hpart)
theorem r_lowestI {X : Nat × (Nat → Int)} {D : List (Nat × Nat)} {I J : Nat → Nat → Int} {ρ : Nat → Nat → Option Nat} (d : Nat) {up low part : Int} (hup : 0 ≤ up ∧ up ≤ 1000000) (hlow : 1 ≤ low ∧ low ≤ 1000000) (hpart : part = 0 ∨ part = 1) : am_E X d 188 0 [(0, .inr (.inl up)), (2, .inr (.inl low)), (4, .inl part)] [] (am_mm D I J ρ) (fun r => r = (some (.inr (.inl (sp_frac up low part))), am_mm D I J ρ)) := by
  obtain ⟨u, rfl⟩ : ∃ u : Nat, up = (u : Int) := ⟨up.toNat, by omega⟩
  obtain ⟨l, rfl⟩ : ∃ l : Nat, low = (l : Int) := ⟨low.toNat, by omega⟩
  exact r_lowest d (by omega) (by omega) hpart
