/-! THE REFERENCE: the image, acts and their trace -/
def sp_under (k c : Int) : Prop := c = 0 ∨ c = k ∨ (0 < c ∧ c < 4 ∧ k = c + 3)
def sp_as (S : Nat → Int) (m k : Int) : Int := if ¬ (0 ≤ m ∧ m ≤ S 19 - 1) then -1 else if ¬ (0 ≤ k ∧ k ≤ 6) then -1 else if k = 0 ∨ k = S (26 + m).toNat ∨ (0 < k ∧ k < 4 ∧ S (26 + m).toNat = k + 3) then S (32 + m).toNat else -6
def sp_trace (ran : Int) (row : Nat → Int) (i : Int) : Int := if 0 ≤ i ∧ i ≤ (if ran < 20 then ran else 20) - 1 then row i.toNat else -1
/-- the trace longer by bodies -/
def am_rs (r : Nat → Int) (n : Nat) : List Int → Nat → Int
  | [] => r
  | b :: l => am_rs (am_u1 r n b) (n + 1) l
def am_tq (I : Nat → Nat → Int) (n : Nat) (l : List Int) : Nat → Nat → Int := am_sr (am_sr I 123 (am_rs (I 123) n l)) 107 (am_u1 (I 107) 32 ((n + l.length : Nat) : Int))
theorem am_rs_app {l1 l2 : List Int} : ∀ {r : Nat → Int} {n : Nat}, am_rs (am_rs r n l1) (n + l1.length) l2 = am_rs r n (l1 ++ l2) := by
  induction l1 with
  | nil => intro r n; rfl
  | cons b l ih =>
    intro r n
    show am_rs (am_rs (am_u1 r n b) (n + 1) l) (n + (l.length + 1)) l2 = am_rs (am_u1 r n b) (n + 1) (l ++ l2)
    rw [← ih, show n + (l.length + 1) = n + 1 + l.length by omega]
theorem am_u1_u1 {r : Nat → Int} {i : Nat} {a b : Int} : am_u1 (am_u1 r i a) i b = am_u1 r i b := by
  funext j
  unfold am_u1
  split <;> rfl
theorem am_tq_123 {I : Nat → Nat → Int} {n : Nat} {l : List Int} : am_tq I n l 123 = am_rs (I 123) n l := by
  unfold am_tq
  rw [am_sr_ne (by decide), am_sr_at]
theorem am_tq_107 {I : Nat → Nat → Int} {n : Nat} {l : List Int} : am_tq I n l 107 = am_u1 (I 107) 32 ((n + l.length : Nat) : Int) := by
  unfold am_tq
  rw [am_sr_at]
theorem am_tq_ne {I : Nat → Nat → Int} {n c : Nat} {l : List Int} (h1 : c ≠ 123) (h2 : c ≠ 107) : am_tq I n l c = I c := by
  unfold am_tq
  rw [am_sr_ne h2, am_sr_ne h1]
theorem am_tq_fld {I : Nat → Nat → Int} {n j : Nat} {l : List Int} (h : j ≠ 32) : am_tq I n l 107 j = I 107 j := by
  rw [am_tq_107, am_u1_ne h]
theorem am_tq_ran {I : Nat → Nat → Int} {n : Nat} {l : List Int} : am_tq I n l 107 32 = ((n + l.length : Nat) : Int) := by
  rw [am_tq_107, am_u1_at]
theorem am_tq_app {I : Nat → Nat → Int} {n : Nat} {l1 l2 : List Int} : am_tq (am_tq I n l1) (n + l1.length) l2 = am_tq I n (l1 ++ l2) := by
  have e : n + l1.length + l2.length = n + (l1 ++ l2).length := by rw [List.length_append]; omega
  show am_sr (am_sr (am_tq I n l1) 123 (am_rs (am_tq I n l1 123) (n + l1.length) l2)) 107 (am_u1 (am_tq I n l1 107) 32 ((n + l1.length + l2.length : Nat) : Int)) = _
  rw [am_tq_123, am_tq_107, am_rs_app, am_u1_u1, e]
  funext c j
  unfold am_tq am_sr
  by_cases h1 : c = 107
  · simp [h1]
  · by_cases h2 : c = 123 <;> simp [h1, h2]
theorem am_tq_app3 {I : Nat → Nat → Int} {n : Nat} {l1 l2 l3 : List Int} : am_tq (am_tq I n (l1 ++ l2)) (n + l1.length + l2.length) l3 = am_tq I n (l1 ++ (l2 ++ l3)) := by
  rw [show n + l1.length + l2.length = n + (l1 ++ l2).length by rw [List.length_append]; omega, am_tq_app, List.append_assoc]
def sp_wish (k i x : Int) : Int × List Int := if k = 1 ∨ k = 4 then (x * 3 + i, [11, 1]) else if k = 5 then ((Int32.ofInt (x + i) ^^^ Int32.ofInt i).toInt, [51, 1]) else (x + i, [1])
def sp_rd0 (k i v x : Int) : Int × List Int := ((sp_wish k i x).1 - v, 2 :: (sp_wish k i x).2)
def sp_rd (k i v x : Int) : Int × List Int := if k = 2 ∨ k = 5 then (-(sp_rd0 k i v x).1, 21 :: (sp_rd0 k i v x).2) else if k = 6 then ((sp_rd0 k i v x).1 + v, 61 :: (sp_rd0 k i v x).2) else sp_rd0 k i v x
def sp_tk0 (k i v x : Int) : Int × List Int := ((sp_rd k i v x).1 * 2, 3 :: (sp_rd k i v x).2)
def sp_tk (k i v x : Int) : Int × List Int := if k = 3 ∨ k = 6 then ((Int32.ofInt (sp_tk0 k i v x).1 ^^^ Int32.ofInt 7).toInt, 31 :: (sp_tk0 k i v x).2) else if k = 4 then ((sp_tk0 k i v (x - 1)).1 + (sp_wish k i 2).1, 41 :: ((sp_tk0 k i v (x - 1)).2 ++ (sp_wish k i 2).2)) else sp_tk0 k i v x
def sp_act (k i v a x : Int) : Int × List Int := if a = 0 then sp_wish k i x else if a = 1 then sp_rd k i v x else sp_tk k i v x
theorem sp_wish_len (k i x : Int) : (sp_wish k i x).2.length ≤ 2 := by
  unfold sp_wish
  (repeat' split) <;> simp
theorem sp_rd_len (k i v x : Int) : (sp_rd k i v x).2.length ≤ 4 := by
  have h := sp_wish_len k i x
  unfold sp_rd sp_rd0
  (repeat' split) <;> simp <;> omega
theorem sp_tk_len (k i v x : Int) : (sp_tk k i v x).2.length ≤ 8 := by
  have h := sp_rd_len k i v x
  have h1 := sp_rd_len k i v (x - 1)
  have h2 := sp_wish_len k i 2
  unfold sp_tk sp_tk0
  (repeat' split) <;> simp <;> omega
theorem r_isUnder {X : Nat × (Nat → Int)} {D : List (Nat × Nat)} {I J : Nat → Nat → Int} {ρ : Nat → Nat → Option Nat} (d : Nat) {k c : Int} (hk : 0 ≤ k ∧ k ≤ 6) (hc : 0 ≤ c ∧ c ≤ 6) : am_E X d 204 0 [(0, .inl k), (1, .inl c)] [] (am_mm D I J ρ) (fun r => r = (some (.inl ((am_bi (c = 0 ∨ c = k ∨ (0 < c ∧ c < 4 ∧ k = c + 3))))), (am_mm D I J ρ))) := by
  refine am_e_ss 1 (q := (1, [(0, .inl k), (1, .inl c)], [.inl c], (am_mm D I J ρ))) rfl ?_
  refine am_e_if2 rfl ⟨by omega, by omega⟩ (fun (h1 : c = 0) => ?_) (fun (h1 : ¬ (c = 0)) => ?_)
  · show am_E _ _ _ 25 [(0, .inl k), (1, .inl c)] [] (am_mm D I J ρ) _
    refine am_e_ss 2 (q := (30, [(0, .inl k), (1, .inl c)], [.inl 1], (am_mm D I J ρ))) rfl ?_
    refine am_e_ireturn rfl rfl ?_
    rw [am_bi_t (by omega)]
  · show am_E _ _ _ 4 [(0, .inl k), (1, .inl c)] [] (am_mm D I J ρ) _
    refine am_e_ss 2 (q := (6, [(0, .inl k), (1, .inl c)], [.inl k, .inl c], (am_mm D I J ρ))) rfl ?_
    refine am_e_icmp2 rfl ⟨by omega, by omega⟩ ⟨by omega, by omega⟩ (fun (h2 : c = k) => ?_) (fun (h2 : ¬ (c = k)) => ?_)
    · show am_E _ _ _ 25 [(0, .inl k), (1, .inl c)] [] (am_mm D I J ρ) _
      refine am_e_ss 2 (q := (30, [(0, .inl k), (1, .inl c)], [.inl 1], (am_mm D I J ρ))) rfl ?_
      refine am_e_ireturn rfl rfl ?_
      rw [am_bi_t (by omega)]
    · show am_E _ _ _ 9 [(0, .inl k), (1, .inl c)] [] (am_mm D I J ρ) _
      refine am_e_ss 1 (q := (10, [(0, .inl k), (1, .inl c)], [.inl c], (am_mm D I J ρ))) rfl ?_
      refine am_e_if2 rfl ⟨by omega, by omega⟩ (fun (h3 : c ≤ 0) => ?_) (fun (h3 : ¬ (c ≤ 0)) => ?_)
      · show am_E _ _ _ 29 [(0, .inl k), (1, .inl c)] [] (am_mm D I J ρ) _
        refine am_e_ss 1 (q := (30, [(0, .inl k), (1, .inl c)], [.inl 0], (am_mm D I J ρ))) rfl ?_
        refine am_e_ireturn rfl rfl ?_
        rw [am_bi_f (by omega)]
      · show am_E _ _ _ 13 [(0, .inl k), (1, .inl c)] [] (am_mm D I J ρ) _
        refine am_e_ss 2 (q := (15, [(0, .inl k), (1, .inl c)], [.inl 4, .inl c], (am_mm D I J ρ))) rfl ?_
        refine am_e_icmp2 rfl ⟨by omega, by omega⟩ ⟨by omega, by omega⟩ (fun (h4 : 4 ≤ c) => ?_) (fun (h4 : ¬ (4 ≤ c)) => ?_)
        · show am_E _ _ _ 29 [(0, .inl k), (1, .inl c)] [] (am_mm D I J ρ) _
          refine am_e_ss 1 (q := (30, [(0, .inl k), (1, .inl c)], [.inl 0], (am_mm D I J ρ))) rfl ?_
          refine am_e_ireturn rfl rfl ?_
          rw [am_bi_f (by omega)]
        · show am_E _ _ _ 18 [(0, .inl k), (1, .inl c)] [] (am_mm D I J ρ) _
          refine am_e_ss 4 (q := (22, [(0, .inl k), (1, .inl c)], [.inl (c + 3), .inl k], (am_mm D I J ρ))) rfl ?_
          refine am_e_icmp2 rfl ⟨by omega, by omega⟩ ⟨by omega, by omega⟩ (fun (h5 : ¬ k = (c + 3)) => ?_) (fun (h5 : ¬ (¬ k = (c + 3))) => ?_)
          · show am_E _ _ _ 29 [(0, .inl k), (1, .inl c)] [] (am_mm D I J ρ) _
            refine am_e_ss 1 (q := (30, [(0, .inl k), (1, .inl c)], [.inl 0], (am_mm D I J ρ))) rfl ?_
            refine am_e_ireturn rfl rfl ?_
            rw [am_bi_f (by omega)]
          · show am_E _ _ _ 25 [(0, .inl k), (1, .inl c)] [] (am_mm D I J ρ) _
            refine am_e_ss 2 (q := (30, [(0, .inl k), (1, .inl c)], [.inl 1], (am_mm D I J ρ))) rfl ?_
            refine am_e_ireturn rfl rfl ?_
            rw [am_bi_t (by omega)]
theorem r_as {X : Nat × (Nat → Int)} {D : List (Nat × Nat)} {I J : Nat → Nat → Int} {ρ : Nat → Nat → Option Nat} (d : Nat) {B m k : Int} (hm : -2147483648 ≤ m ∧ m < 2147483648) (hk : -2147483648 ≤ k ∧ k < 2147483648) (hok : r_ok (I 108) B) (hkk : 0 ≤ m → m < 6 → 0 ≤ I 108 (26 + m).toNat ∧ I 108 (26 + m).toNat ≤ 6) : am_E X (d + 2) 213 0 [(0, .inr (.inr (.inl (some 107)))), (1, .inl m), (2, .inl k)] [] (am_mm D I J ρ) (fun r => r = (some (.inl ((sp_as (I 108) m k))), (am_mm D I J ρ))) := by
  obtain ⟨o0, oG, oH, oD, o19, o20, o21, o22, o23, o24, oK, oV, oP, oM, oS, oY, oHd, oT, oC, oN⟩ := hok
  refine am_e_ss 2 (q := (2, [(0, .inr (.inr (.inl (some 107)))), (1, .inl m), (2, .inl k)], [.inl m, .inr (.inr (.inl (some 107)))], (am_mm D I J ρ))) rfl ?_
  refine am_e_virtual (Q := fun r => r = (some (.inl ((am_bi (0 ≤ m ∧ m ≤ ((I 108 19) - 1))))), (am_mm D I J ρ))) rfl rfl (Nat.le_of_ble_eq_true rfl) rfl rfl (Nat.le_of_ble_eq_true rfl) (Nat.le_of_ble_eq_true rfl) (r_isMember _ ⟨by omega, by omega⟩ (show 0 ≤ (I 108 19) ∧ (I 108 19) ≤ 6 by omega)) ?_
  rintro r rfl
  show am_E _ _ _ 5 [(0, .inr (.inr (.inl (some 107)))), (1, .inl m), (2, .inl k)] [.inl ((am_bi (0 ≤ m ∧ m ≤ ((I 108 19) - 1))))] (am_mm D I J ρ) _
  refine am_e_ifeq rfl (fun h1 => ?_) (fun h1 => ?_)
  · show am_E _ _ _ 18 [(0, .inr (.inr (.inl (some 107)))), (1, .inl m), (2, .inl k)] [] (am_mm D I J ρ) _
    refine am_e_ss 1 (q := (19, [(0, .inr (.inr (.inl (some 107)))), (1, .inl m), (2, .inl k)], [.inl (-1)], (am_mm D I J ρ))) rfl ?_
    refine am_e_ireturn rfl rfl ?_
    show (_ : am_R) = _
    unfold sp_as
    (repeat' split) <;> first | (exfalso; omega) | rfl
  · show am_E _ _ _ 8 [(0, .inr (.inr (.inl (some 107)))), (1, .inl m), (2, .inl k)] [] (am_mm D I J ρ) _
    refine am_e_ss 3 (q := (12, [(0, .inr (.inr (.inl (some 107)))), (1, .inl m), (2, .inl k)], [.inl 6, .inl 0, .inl k], (am_mm D I J ρ))) rfl ?_
    refine am_e_static (Q := fun r => r = (some (.inl ((am_bi (0 ≤ k ∧ k ≤ 6)))), (am_mm D I J ρ))) rfl (Nat.le_of_ble_eq_true rfl) rfl (Nat.le_of_ble_eq_true rfl) (Nat.le_of_ble_eq_true rfl) (r_in _ ⟨by omega, by omega⟩ ⟨by omega, by omega⟩ ⟨by omega, by omega⟩) ?_
    rintro r rfl
    show am_E _ _ _ 15 [(0, .inr (.inr (.inl (some 107)))), (1, .inl m), (2, .inl k)] [.inl ((am_bi (0 ≤ k ∧ k ≤ 6)))] (am_mm D I J ρ) _
    refine am_e_ifne rfl (fun h2 => ?_) (fun h2 => ?_)
    · show am_E _ _ _ 20 [(0, .inr (.inr (.inl (some 107)))), (1, .inl m), (2, .inl k)] [] (am_mm D I J ρ) _
      refine am_e_ss 5 (q := (28, [(0, .inr (.inr (.inl (some 107)))), (1, .inl m), (2, .inl k)], [.inl (26 + m), .inr (.inr (.inl (some 108)))], (am_mm D I J ρ))) rfl ?_
      refine am_e_iaload (m := 878) rfl rfl (by omega) (by omega) (by omega) ?_
      show am_E _ _ _ 29 [(0, .inr (.inr (.inl (some 107)))), (1, .inl m), (2, .inl k)] [.inl ((I 108 ((26 + m)).toNat))] (am_mm D I J ρ) _
      refine am_e_ss 1 (q := (30, [(0, .inr (.inr (.inl (some 107)))), (1, .inl m), (2, .inl k)], [.inl k, .inl ((I 108 ((26 + m)).toNat))], (am_mm D I J ρ))) rfl ?_
      refine am_e_static (Q := fun r => r = (some (.inl ((am_bi (k = 0 ∨ k = (I 108 ((26 + m)).toNat) ∨ (0 < k ∧ k < 4 ∧ (I 108 ((26 + m)).toNat) = k + 3))))), (am_mm D I J ρ))) rfl (Nat.le_of_ble_eq_true rfl) rfl (Nat.le_of_ble_eq_true rfl) (Nat.le_of_ble_eq_true rfl) (r_isUnder _ ⟨by omega, by omega⟩ ⟨by omega, by omega⟩) ?_
      rintro r rfl
      show am_E _ _ _ 33 [(0, .inr (.inr (.inl (some 107)))), (1, .inl m), (2, .inl k)] [.inl ((am_bi (k = 0 ∨ k = (I 108 ((26 + m)).toNat) ∨ (0 < k ∧ k < 4 ∧ (I 108 ((26 + m)).toNat) = k + 3))))] (am_mm D I J ρ) _
      refine am_e_ifeq rfl (fun h3 => ?_) (fun h3 => ?_)
      · show am_E _ _ _ 48 [(0, .inr (.inr (.inl (some 107)))), (1, .inl m), (2, .inl k)] [] (am_mm D I J ρ) _
        refine am_e_ss 1 (q := (50, [(0, .inr (.inr (.inl (some 107)))), (1, .inl m), (2, .inl k)], [.inl (-6)], (am_mm D I J ρ))) rfl ?_
        refine am_e_ireturn rfl rfl ?_
        show (_ : am_R) = _
        unfold sp_as
        (repeat' split) <;> first | (exfalso; omega) | rfl
      · show am_E _ _ _ 36 [(0, .inr (.inr (.inl (some 107)))), (1, .inl m), (2, .inl k)] [] (am_mm D I J ρ) _
        refine am_e_ss 5 (q := (44, [(0, .inr (.inr (.inl (some 107)))), (1, .inl m), (2, .inl k)], [.inl (32 + m), .inr (.inr (.inl (some 108)))], (am_mm D I J ρ))) rfl ?_
        refine am_e_iaload (m := 878) rfl rfl (by omega) (by omega) (by omega) ?_
        show am_E _ _ _ 45 [(0, .inr (.inr (.inl (some 107)))), (1, .inl m), (2, .inl k)] [.inl ((I 108 ((32 + m)).toNat))] (am_mm D I J ρ) _
        refine am_e_ss 1 (q := (50, [(0, .inr (.inr (.inl (some 107)))), (1, .inl m), (2, .inl k)], [.inl ((I 108 ((32 + m)).toNat))], (am_mm D I J ρ))) rfl ?_
        refine am_e_ireturn rfl rfl ?_
        show (_ : am_R) = _
        unfold sp_as
        (repeat' split) <;> first | (exfalso; omega) | rfl
    · show am_E _ _ _ 18 [(0, .inr (.inr (.inl (some 107)))), (1, .inl m), (2, .inl k)] [] (am_mm D I J ρ) _
      refine am_e_ss 1 (q := (19, [(0, .inr (.inr (.inl (some 107)))), (1, .inl m), (2, .inl k)], [.inl (-1)], (am_mm D I J ρ))) rfl ?_
      refine am_e_ireturn rfl rfl ?_
      show (_ : am_R) = _
      unfold sp_as
      (repeat' split) <;> first | (exfalso; omega) | rfl
theorem r_trace {X : Nat × (Nat → Int)} {D : List (Nat × Nat)} {I J : Nat → Nat → Int} {ρ : Nat → Nat → Option Nat} (d : Nat) {i : Int} (hi : -2147483648 ≤ i ∧ i < 2147483648) (hr : 0 ≤ I 107 32 ∧ I 107 32 ≤ 1000) : am_E X (d + 1) 212 0 [(0, .inr (.inr (.inl (some 107)))), (1, .inl i)] [] (am_mm D I J ρ) (fun r => r = (some (.inl ((sp_trace (I 107 32) (I 123) i))), (am_mm D I J ρ))) := by
  refine am_e_ss 5 (q := (8, [(0, .inr (.inr (.inl (some 107)))), (1, .inl i)], [.inl 20, .inl ((I 107 32)), .inl 0, .inl i], (am_mm D I J ρ))) rfl ?_
  refine am_e_icmp2 rfl ⟨by omega, by omega⟩ ⟨by omega, by omega⟩ (fun (h1 : 20 ≤ (I 107 32)) => ?_) (fun (h1 : ¬ (20 ≤ (I 107 32))) => ?_)
  · show am_E _ _ _ 18 [(0, .inr (.inr (.inl (some 107)))), (1, .inl i)] [.inl 0, .inl i] (am_mm D I J ρ) _
    refine am_e_ss 3 (q := (22, [(0, .inr (.inr (.inl (some 107)))), (1, .inl i)], [.inl (20 - 1), .inl 0, .inl i], (am_mm D I J ρ))) rfl ?_
    refine am_e_static (Q := fun r => r = (some (.inl ((am_bi (0 ≤ i ∧ i ≤ (20 - 1))))), (am_mm D I J ρ))) rfl (Nat.le_of_ble_eq_true rfl) rfl (Nat.le_of_ble_eq_true rfl) (Nat.le_of_ble_eq_true rfl) (r_in _ ⟨by omega, by omega⟩ ⟨by omega, by omega⟩ ⟨by omega, by omega⟩) ?_
    rintro r rfl
    show am_E _ _ _ 25 [(0, .inr (.inr (.inl (some 107)))), (1, .inl i)] [.inl ((am_bi (0 ≤ i ∧ i ≤ (20 - 1))))] (am_mm D I J ρ) _
    refine am_e_ifeq rfl (fun h2 => ?_) (fun h2 => ?_)
    · show am_E _ _ _ 37 [(0, .inr (.inr (.inl (some 107)))), (1, .inl i)] [] (am_mm D I J ρ) _
      refine am_e_ss 1 (q := (38, [(0, .inr (.inr (.inl (some 107)))), (1, .inl i)], [.inl (-1)], (am_mm D I J ρ))) rfl ?_
      refine am_e_ireturn rfl rfl ?_
      show (_ : am_R) = _
      unfold sp_trace
      (repeat' split) <;> first | (exfalso; omega) | rfl
    · show am_E _ _ _ 28 [(0, .inr (.inr (.inl (some 107)))), (1, .inl i)] [] (am_mm D I J ρ) _
      refine am_e_ss 3 (q := (33, [(0, .inr (.inr (.inl (some 107)))), (1, .inl i)], [.inl i, .inr (.inr (.inl (some 123)))], (am_mm D I J ρ))) rfl ?_
      refine am_e_iaload (m := 20) rfl rfl (by omega) (by omega) (by omega) ?_
      show am_E _ _ _ 34 [(0, .inr (.inr (.inl (some 107)))), (1, .inl i)] [.inl ((I 123 (i).toNat))] (am_mm D I J ρ) _
      refine am_e_ss 1 (q := (38, [(0, .inr (.inr (.inl (some 107)))), (1, .inl i)], [.inl ((I 123 (i).toNat))], (am_mm D I J ρ))) rfl ?_
      refine am_e_ireturn rfl rfl ?_
      show (_ : am_R) = _
      unfold sp_trace
      (repeat' split) <;> first | (exfalso; omega) | rfl
  · show am_E _ _ _ 11 [(0, .inr (.inr (.inl (some 107)))), (1, .inl i)] [.inl 0, .inl i] (am_mm D I J ρ) _
    refine am_e_ss 5 (q := (22, [(0, .inr (.inr (.inl (some 107)))), (1, .inl i)], [.inl ((I 107 32) - 1), .inl 0, .inl i], (am_mm D I J ρ))) rfl ?_
    refine am_e_static (Q := fun r => r = (some (.inl ((am_bi (0 ≤ i ∧ i ≤ ((I 107 32) - 1))))), (am_mm D I J ρ))) rfl (Nat.le_of_ble_eq_true rfl) rfl (Nat.le_of_ble_eq_true rfl) (Nat.le_of_ble_eq_true rfl) (r_in _ ⟨by omega, by omega⟩ ⟨by omega, by omega⟩ ⟨by omega, by omega⟩) ?_
    rintro r rfl
    show am_E _ _ _ 25 [(0, .inr (.inr (.inl (some 107)))), (1, .inl i)] [.inl ((am_bi (0 ≤ i ∧ i ≤ ((I 107 32) - 1))))] (am_mm D I J ρ) _
    refine am_e_ifeq rfl (fun h3 => ?_) (fun h3 => ?_)
    · show am_E _ _ _ 37 [(0, .inr (.inr (.inl (some 107)))), (1, .inl i)] [] (am_mm D I J ρ) _
      refine am_e_ss 1 (q := (38, [(0, .inr (.inr (.inl (some 107)))), (1, .inl i)], [.inl (-1)], (am_mm D I J ρ))) rfl ?_
      refine am_e_ireturn rfl rfl ?_
      show (_ : am_R) = _
      unfold sp_trace
      (repeat' split) <;> first | (exfalso; omega) | rfl
    · show am_E _ _ _ 28 [(0, .inr (.inr (.inl (some 107)))), (1, .inl i)] [] (am_mm D I J ρ) _
      refine am_e_ss 3 (q := (33, [(0, .inr (.inr (.inl (some 107)))), (1, .inl i)], [.inl i, .inr (.inr (.inl (some 123)))], (am_mm D I J ρ))) rfl ?_
      refine am_e_iaload (m := 20) rfl rfl (by omega) (by omega) (by omega) ?_
      show am_E _ _ _ 34 [(0, .inr (.inr (.inl (some 107)))), (1, .inl i)] [.inl ((I 123 (i).toNat))] (am_mm D I J ρ) _
      refine am_e_ss 1 (q := (38, [(0, .inr (.inr (.inl (some 107)))), (1, .inl i)], [.inl ((I 123 (i).toNat))], (am_mm D I J ρ))) rfl ?_
      refine am_e_ireturn rfl rfl ?_
      show (_ : am_R) = _
      unfold sp_trace
      (repeat' split) <;> first | (exfalso; omega) | rfl
theorem r_image_l {X : Nat × (Nat → Int)} {D : List (Nat × Nat)} {I J : Nat → Nat → Int} {ρ : Nat → Nat → Option Nat} (d : Nat) {k : Nat} (hk : k ≤ 878) : am_E X d 214 2 [(1, .inl (k : Int)), (0, .inr (.inr (.inl (some 107))))] [] (am_mm D (am_cpI I 109 108 k) J ρ) (fun r => r = (some (.inl (((am_cpI I 109 108 878) 108 19))), (am_mm D (am_up (am_cpI I 109 108 878) 107 4 1) J ρ))) := by
  refine am_e_ss 2 (q := (6, [(1, .inl (k : Int)), (0, .inr (.inr (.inl (some 107))))], [.inl 878, .inl (k : Int)], (am_mm D (am_cpI I 109 108 k) J ρ))) rfl ?_
  refine am_e_icmp2 rfl ⟨by omega, by omega⟩ ⟨by omega, by omega⟩ (fun (h1 : 878 ≤ (k : Int)) => ?_) (fun (h1 : ¬ (878 ≤ (k : Int))) => ?_)
  · show am_E _ _ _ 27 [(1, .inl (k : Int)), (0, .inr (.inr (.inl (some 107))))] [] (am_mm D (am_cpI I 109 108 k) J ρ) _
    refine am_e_ss 7 (q := (39, [(1, .inl (k : Int)), (0, .inr (.inr (.inl (some 107))))], [.inl (((am_cpI I 109 108 k) 108 19))], (am_mm D (am_up (am_cpI I 109 108 k) 107 4 1) J ρ))) rfl ?_
    refine am_e_ireturn rfl rfl ?_
    rw [show k = 878 by omega]
    try rfl
  · show am_E _ _ _ 9 [(1, .inl (k : Int)), (0, .inr (.inr (.inl (some 107))))] [] (am_mm D (am_cpI I 109 108 k) J ρ) _
    refine am_e_ss 6 (q := (19, [(1, .inl (k : Int)), (0, .inr (.inr (.inl (some 107))))], [.inl (k : Int), .inr (.inr (.inl (some 108))), .inl (k : Int), .inr (.inr (.inl (some 109)))], (am_mm D (am_cpI I 109 108 k) J ρ))) rfl ?_
    refine am_e_iaload (m := 878) rfl rfl (by omega) (by omega) (by omega) ?_
    show am_E _ _ _ 20 [(1, .inl (k : Int)), (0, .inr (.inr (.inl (some 107))))] [.inl (((am_cpI I 109 108 k) 108 k)), .inl (k : Int), .inr (.inr (.inl (some 109)))] (am_mm D (am_cpI I 109 108 k) J ρ) _
    refine am_e_iastore (m := 878) rfl rfl (by omega) (by omega) (by omega) ?_
    show am_E _ _ _ 21 [(1, .inl (k : Int)), (0, .inr (.inr (.inl (some 107))))] [] (am_mm D (am_up (am_cpI I 109 108 k) 109 k ((am_cpI I 109 108 k) 108 k)) J ρ) _
    refine am_e_ss 2 (q := (2, [(1, .inl ((k : Int) + 1)), (0, .inr (.inr (.inl (some 107))))], [], (am_mm D (am_up (am_cpI I 109 108 k) 109 k ((am_cpI I 109 108 k) 108 k)) J ρ))) rfl ?_
    rw [am_cpI_succ (by decide)]
    exact am_less (lv := [(1, .inl ((k + 1) : Int)), (0, .inr (.inr (.inl (some 107))))]) rfl (List.forall_mem_cons.mpr ⟨rfl, List.forall_mem_cons.mpr ⟨rfl, List.forall_mem_nil _⟩⟩) (r_image_l d (k := k + 1) (by omega))
termination_by 878 - k
decreasing_by all_goals omega
theorem r_image {X : Nat × (Nat → Int)} {D : List (Nat × Nat)} {I J : Nat → Nat → Int} {ρ : Nat → Nat → Option Nat} (d : Nat)  : am_E X d 214 0 [(0, .inr (.inr (.inl (some 107))))] [] (am_mm D I J ρ) (fun r => r = (some (.inl (((am_cpI I 109 108 878) 108 19))), (am_mm D (am_up (am_cpI I 109 108 878) 107 4 1) J ρ))) := by
  refine am_e_ss 2 (q := (2, [(1, .inl 0), (0, .inr (.inr (.inl (some 107))))], [], (am_mm D I J ρ))) rfl ?_
  have h := r_image_l (X := X) (D := D) (I := I) (J := J) (ρ := ρ) d (k := 0) (by omega)
  rw [am_cpI_0] at h
  exact am_less (lv := [(1, .inl (0 : Int)), (0, .inr (.inr (.inl (some 107))))]) rfl (List.forall_mem_cons.mpr ⟨rfl, List.forall_mem_cons.mpr ⟨rfl, List.forall_mem_nil _⟩⟩) h
theorem r_undo_l {X : Nat × (Nat → Int)} {D : List (Nat × Nat)} {I J : Nat → Nat → Int} {ρ : Nat → Nat → Option Nat} (d : Nat) {k : Nat} (hk : k ≤ 878) : am_E X d 215 12 [(1, .inl (k : Int)), (0, .inr (.inr (.inl (some 107))))] [] (am_mm D (am_cpI I 108 109 k) J ρ) (fun r => r = (some (.inl (((am_cpI I 108 109 878) 108 19))), (am_mm D (am_cpI I 108 109 878) J ρ))) := by
  refine am_e_ss 2 (q := (16, [(1, .inl (k : Int)), (0, .inr (.inr (.inl (some 107))))], [.inl 878, .inl (k : Int)], (am_mm D (am_cpI I 108 109 k) J ρ))) rfl ?_
  refine am_e_icmp2 rfl ⟨by omega, by omega⟩ ⟨by omega, by omega⟩ (fun (h1 : 878 ≤ (k : Int)) => ?_) (fun (h1 : ¬ (878 ≤ (k : Int))) => ?_)
  · show am_E _ _ _ 37 [(1, .inl (k : Int)), (0, .inr (.inr (.inl (some 107))))] [] (am_mm D (am_cpI I 108 109 k) J ρ) _
    refine am_e_ss 4 (q := (44, [(1, .inl (k : Int)), (0, .inr (.inr (.inl (some 107))))], [.inl (((am_cpI I 108 109 k) 108 19))], (am_mm D (am_cpI I 108 109 k) J ρ))) rfl ?_
    refine am_e_ireturn rfl rfl ?_
    rw [show k = 878 by omega]
    try rfl
  · show am_E _ _ _ 19 [(1, .inl (k : Int)), (0, .inr (.inr (.inl (some 107))))] [] (am_mm D (am_cpI I 108 109 k) J ρ) _
    refine am_e_ss 6 (q := (29, [(1, .inl (k : Int)), (0, .inr (.inr (.inl (some 107))))], [.inl (k : Int), .inr (.inr (.inl (some 109))), .inl (k : Int), .inr (.inr (.inl (some 108)))], (am_mm D (am_cpI I 108 109 k) J ρ))) rfl ?_
    refine am_e_iaload (m := 878) rfl rfl (by omega) (by omega) (by omega) ?_
    show am_E _ _ _ 30 [(1, .inl (k : Int)), (0, .inr (.inr (.inl (some 107))))] [.inl (((am_cpI I 108 109 k) 109 k)), .inl (k : Int), .inr (.inr (.inl (some 108)))] (am_mm D (am_cpI I 108 109 k) J ρ) _
    refine am_e_iastore (m := 878) rfl rfl (by omega) (by omega) (by omega) ?_
    show am_E _ _ _ 31 [(1, .inl (k : Int)), (0, .inr (.inr (.inl (some 107))))] [] (am_mm D (am_up (am_cpI I 108 109 k) 108 k ((am_cpI I 108 109 k) 109 k)) J ρ) _
    refine am_e_ss 2 (q := (12, [(1, .inl ((k : Int) + 1)), (0, .inr (.inr (.inl (some 107))))], [], (am_mm D (am_up (am_cpI I 108 109 k) 108 k ((am_cpI I 108 109 k) 109 k)) J ρ))) rfl ?_
    rw [am_cpI_succ (by decide)]
    exact am_less (lv := [(1, .inl ((k + 1) : Int)), (0, .inr (.inr (.inl (some 107))))]) rfl (List.forall_mem_cons.mpr ⟨rfl, List.forall_mem_cons.mpr ⟨rfl, List.forall_mem_nil _⟩⟩) (r_undo_l d (k := k + 1) (by omega))
termination_by 878 - k
decreasing_by all_goals omega
theorem r_undo1 {X : Nat × (Nat → Int)} {D : List (Nat × Nat)} {I J : Nat → Nat → Int} {ρ : Nat → Nat → Option Nat} (d : Nat) (h0 : I 107 4 = 1) : am_E X d 215 0 [(0, .inr (.inr (.inl (some 107))))] [] (am_mm D I J ρ) (fun r => r = (some (.inl (((am_cpI I 108 109 878) 108 19))), (am_mm D (am_cpI I 108 109 878) J ρ))) := by
  refine am_e_ss 2 (q := (4, [(0, .inr (.inr (.inl (some 107))))], [.inl ((I 107 4))], (am_mm D I J ρ))) rfl ?_
  refine am_e_if2 rfl ⟨by omega, by omega⟩ (fun (h1 : ¬ (I 107 4) = 0) => ?_) (fun (h1 : ¬ (¬ (I 107 4) = 0)) => ?_)
  · show am_E _ _ _ 10 [(0, .inr (.inr (.inl (some 107))))] [] (am_mm D I J ρ) _
    refine am_e_ss 2 (q := (12, [(1, .inl 0), (0, .inr (.inr (.inl (some 107))))], [], (am_mm D I J ρ))) rfl ?_
    have h := r_undo_l (X := X) (D := D) (I := I) (J := J) (ρ := ρ) d (k := 0) (by omega)
    rw [am_cpI_0] at h
    exact am_less (lv := [(1, .inl (0 : Int)), (0, .inr (.inr (.inl (some 107))))]) rfl (List.forall_mem_cons.mpr ⟨rfl, List.forall_mem_cons.mpr ⟨rfl, List.forall_mem_nil _⟩⟩) h
  · show am_E _ _ _ 7 [(0, .inr (.inr (.inl (some 107))))] [] (am_mm D I J ρ) _
    refine am_e_ss 1 (q := (9, [(0, .inr (.inr (.inl (some 107))))], [.inl (-3)], (am_mm D I J ρ))) rfl ?_
    refine am_e_ireturn rfl rfl ?_
    exfalso; omega
theorem r_undo0 {X : Nat × (Nat → Int)} {D : List (Nat × Nat)} {I J : Nat → Nat → Int} {ρ : Nat → Nat → Option Nat} (d : Nat) (h0 : I 107 4 = 0) : am_E X d 215 0 [(0, .inr (.inr (.inl (some 107))))] [] (am_mm D I J ρ) (fun r => r = (some (.inl (-3)), (am_mm D I J ρ))) := by
  refine am_e_ss 2 (q := (4, [(0, .inr (.inr (.inl (some 107))))], [.inl ((I 107 4))], (am_mm D I J ρ))) rfl ?_
  refine am_e_if2 rfl ⟨by omega, by omega⟩ (fun (h1 : ¬ (I 107 4) = 0) => ?_) (fun (h1 : ¬ (¬ (I 107 4) = 0)) => ?_)
  · show am_E _ _ _ 10 [(0, .inr (.inr (.inl (some 107))))] [] (am_mm D I J ρ) _
    refine am_e_ss 2 (q := (12, [(1, .inl 0), (0, .inr (.inr (.inl (some 107))))], [], (am_mm D I J ρ))) rfl ?_
    exfalso; omega
  · show am_E _ _ _ 7 [(0, .inr (.inr (.inl (some 107))))] [] (am_mm D I J ρ) _
    refine am_e_ss 1 (q := (9, [(0, .inr (.inr (.inl (some 107))))], [.inl (-3)], (am_mm D I J ρ))) rfl ?_
    refine am_e_ireturn rfl rfl ?_
    rfl
theorem r_ranBody {X : Nat × (Nat → Int)} {D : List (Nat × Nat)} {I J : Nat → Nat → Int} {ρ : Nat → Nat → Option Nat} (d : Nat) {n : Nat} {b : Int} (hn : I 107 32 = (n : Int)) (h20 : n < 20) : am_E X d 203 0 [(0, .inr (.inr (.inl (some 107)))), (1, .inl b)] [] (am_mm D I J ρ) (fun r => r = (none, (am_mm D (am_tq I n [b]) J ρ))) := by
  refine am_e_ss 3 (q := (6, [(0, .inr (.inr (.inl (some 107)))), (1, .inl b)], [.inl 20, .inl ((I 107 32))], (am_mm D I J ρ))) rfl ?_
  refine am_e_icmp2 rfl ⟨by omega, by omega⟩ ⟨by omega, by omega⟩ (fun (h1 : 20 ≤ (I 107 32)) => ?_) (fun (h1 : ¬ (20 ≤ (I 107 32))) => ?_)
  · show am_E _ _ _ 19 [(0, .inr (.inr (.inl (some 107)))), (1, .inl b)] [] (am_mm D I J ρ) _
    refine am_e_ss 6 (q := (29, [(0, .inr (.inr (.inl (some 107)))), (1, .inl b)], [], (am_mm D (am_up I 107 32 ((I 107 32) + 1)) J ρ))) rfl ?_
    refine am_e_return rfl rfl ?_
    first | (exfalso; omega) | (have e0 : (I 107 32).toNat = n := by omega); (show (_ : am_R) = _); (simp only [am_up_sr, am_tq, am_rs, e0, am_sr_ne (show (107 : Nat) ≠ 123 by decide)]); rw [hn]; rfl
  · show am_E _ _ _ 9 [(0, .inr (.inr (.inl (some 107)))), (1, .inl b)] [] (am_mm D I J ρ) _
    refine am_e_ss 5 (q := (18, [(0, .inr (.inr (.inl (some 107)))), (1, .inl b)], [.inl b, .inl ((I 107 32)), .inr (.inr (.inl (some 123)))], (am_mm D I J ρ))) rfl ?_
    refine am_e_iastore (m := 20) rfl rfl (by omega) (by omega) (by omega) ?_
    show am_E _ _ _ 19 [(0, .inr (.inr (.inl (some 107)))), (1, .inl b)] [] (am_mm D (am_up I 123 ((I 107 32)).toNat b) J ρ) _
    refine am_e_ss 6 (q := (29, [(0, .inr (.inr (.inl (some 107)))), (1, .inl b)], [], (am_mm D (am_up (am_up I 123 ((I 107 32)).toNat b) 107 32 ((I 107 32) + 1)) J ρ))) rfl ?_
    refine am_e_return rfl rfl ?_
    first | (exfalso; omega) | (have e0 : (I 107 32).toNat = n := by omega); (show (_ : am_R) = _); (simp only [am_up_sr, am_tq, am_rs, e0, am_sr_ne (show (107 : Nat) ≠ 123 by decide)]); rw [hn]; rfl
theorem r_plainWishes {X : Nat × (Nat → Int)} {D : List (Nat × Nat)} {I J : Nat → Nat → Int} {ρ : Nat → Nat → Option Nat} (d : Nat) {n : Nat} {x : Int} (hn : I 107 32 = (n : Int)) (h20 : n < 20)  : am_E X (d + 1) 205 0 [(0, .inr (.inr (.inl (some 107)))), (1, .inl x)] [] (am_mm D I J ρ) (fun r => r = (some (.inl ((x + (I 107 34)))), (am_mm D (am_tq I n [1]) J ρ))) := by
  refine am_e_ss 2 (q := (2, [(0, .inr (.inr (.inl (some 107)))), (1, .inl x)], [.inl 1, .inr (.inr (.inl (some 107)))], (am_mm D I J ρ))) rfl ?_
  refine am_e_virtual (Q := fun r => r = (none, (am_mm D (am_tq I n [1]) J ρ))) rfl rfl (Nat.le_of_ble_eq_true rfl) rfl rfl (Nat.le_of_ble_eq_true rfl) (Nat.le_of_ble_eq_true rfl) (r_ranBody _ (n := n) hn (by (try simp only [List.length_cons, List.length_nil]); omega)) ?_
  rintro r rfl
  show am_E _ _ _ 5 [(0, .inr (.inr (.inl (some 107)))), (1, .inl x)] [] (am_mm D (am_tq I n [1]) J ρ) _
  refine am_e_ss 4 (q := (11, [(0, .inr (.inr (.inl (some 107)))), (1, .inl x)], [.inl (x + ((am_tq I n [1]) 107 34))], (am_mm D (am_tq I n [1]) J ρ))) rfl ?_
  refine am_e_ireturn rfl rfl ?_
  show (_ : am_R) = _
  simp only [am_tq_fld (show (33 : Nat) ≠ 32 by decide), am_tq_fld (show (34 : Nat) ≠ 32 by decide), am_tq_fld (show (35 : Nat) ≠ 32 by decide)]
theorem r_wishes {X : Nat × (Nat → Int)} {D : List (Nat × Nat)} {I J : Nat → Nat → Int} {ρ : Nat → Nat → Option Nat} (d : Nat) {n : Nat} {x : Int} (hn : I 107 32 = (n : Int)) (h20 : n < 18) (hk : 0 ≤ I 107 33 ∧ I 107 33 ≤ 6) : am_E X (d + 2) 206 0 [(0, .inr (.inr (.inl (some 107)))), (1, .inl x)] [] (am_mm D I J ρ) (fun r => r = (some (.inl ((sp_wish (I 107 33) (I 107 34) x).1)), (am_mm D (am_tq I n (sp_wish (I 107 33) (I 107 34) x).2) J ρ))) := by
  have e33 : ∀ (n : Nat) (l : List Int), am_tq I n l 107 33 = I 107 33 := fun n l => am_tq_fld (by decide)
  refine am_e_ss 3 (q := (5, [(0, .inr (.inr (.inl (some 107)))), (1, .inl x)], [.inl 1, .inl ((I 107 33))], (am_mm D I J ρ))) rfl ?_
  refine am_e_static (Q := fun r => r = (some (.inl ((am_bi (1 = 0 ∨ 1 = (I 107 33) ∨ (0 < 1 ∧ 1 < 4 ∧ (I 107 33) = 1 + 3))))), (am_mm D I J ρ))) rfl (Nat.le_of_ble_eq_true rfl) rfl (Nat.le_of_ble_eq_true rfl) (Nat.le_of_ble_eq_true rfl) (r_isUnder _ ⟨by omega, by omega⟩ ⟨by omega, by omega⟩) ?_
  rintro r rfl
  show am_E _ _ _ 8 [(0, .inr (.inr (.inl (some 107)))), (1, .inl x)] [.inl ((am_bi (1 = 0 ∨ 1 = (I 107 33) ∨ (0 < 1 ∧ 1 < 4 ∧ (I 107 33) = 1 + 3))))] (am_mm D I J ρ) _
  refine am_e_ifeq rfl (fun h1 => ?_) (fun h1 => ?_)
  · show am_E _ _ _ 25 [(0, .inr (.inr (.inl (some 107)))), (1, .inl x)] [] (am_mm D I J ρ) _
    refine am_e_ss 3 (q := (30, [(0, .inr (.inr (.inl (some 107)))), (1, .inl x)], [.inl 5, .inl ((I 107 33))], (am_mm D I J ρ))) rfl ?_
    refine am_e_icmp2 rfl ⟨by omega, by omega⟩ ⟨by omega, by omega⟩ (fun (h2 : ¬ (I 107 33) = 5) => ?_) (fun (h2 : ¬ (¬ (I 107 33) = 5)) => ?_)
    · show am_E _ _ _ 50 [(0, .inr (.inr (.inl (some 107)))), (1, .inl x)] [] (am_mm D I J ρ) _
      refine am_e_ss 2 (q := (52, [(0, .inr (.inr (.inl (some 107)))), (1, .inl x)], [.inl x, .inr (.inr (.inl (some 107)))], (am_mm D I J ρ))) rfl ?_
      refine am_e_virtual (Q := fun r => r = (some (.inl ((x + (I 107 34)))), (am_mm D (am_tq I n [1]) J ρ))) rfl rfl (Nat.le_of_ble_eq_true rfl) rfl rfl (Nat.le_of_ble_eq_true rfl) (Nat.le_of_ble_eq_true rfl) (r_plainWishes _ (n := n) (x := x) hn (by (try simp only [List.length_cons, List.length_nil, am_tq_fld (show (33 : Nat) ≠ 32 by decide), am_tq_fld (show (34 : Nat) ≠ 32 by decide), am_tq_fld (show (35 : Nat) ≠ 32 by decide)]); omega)) ?_
      rintro r rfl
      show am_E _ _ _ 55 [(0, .inr (.inr (.inl (some 107)))), (1, .inl x)] [.inl ((x + (I 107 34)))] (am_mm D (am_tq I n [1]) J ρ) _
      refine am_e_ireturn rfl rfl ?_
      show (_ : am_R) = _
      try simp only [am_tq_fld (show (33 : Nat) ≠ 32 by decide), am_tq_fld (show (34 : Nat) ≠ 32 by decide), am_tq_fld (show (35 : Nat) ≠ 32 by decide), am_tq_app, am_tq_app3]
      unfold sp_wish
      (repeat' split) <;> first | (exfalso; omega) | rfl
    · show am_E _ _ _ 33 [(0, .inr (.inr (.inl (some 107)))), (1, .inl x)] [] (am_mm D I J ρ) _
      refine am_e_ss 2 (q := (36, [(0, .inr (.inr (.inl (some 107)))), (1, .inl x)], [.inl 51, .inr (.inr (.inl (some 107)))], (am_mm D I J ρ))) rfl ?_
      refine am_e_virtual (Q := fun r => r = (none, (am_mm D (am_tq I n [51]) J ρ))) rfl rfl (Nat.le_of_ble_eq_true rfl) rfl rfl (Nat.le_of_ble_eq_true rfl) (Nat.le_of_ble_eq_true rfl) (r_ranBody _ (n := n) hn (by (try simp only [List.length_cons, List.length_nil]); omega)) ?_
      rintro r rfl
      show am_E _ _ _ 39 [(0, .inr (.inr (.inl (some 107)))), (1, .inl x)] [] (am_mm D (am_tq I n [51]) J ρ) _
      refine am_e_ss 2 (q := (41, [(0, .inr (.inr (.inl (some 107)))), (1, .inl x)], [.inl x, .inr (.inr (.inl (some 107)))], (am_mm D (am_tq I n [51]) J ρ))) rfl ?_
      refine am_e_virtual (Q := fun r => r = (some (.inl ((x + ((am_tq I n [51]) 107 34)))), (am_mm D (am_tq (am_tq I n [51]) (n + ([51] : List Int).length) [1]) J ρ))) rfl rfl (Nat.le_of_ble_eq_true rfl) rfl rfl (Nat.le_of_ble_eq_true rfl) (Nat.le_of_ble_eq_true rfl) (r_plainWishes _ (n := (n + ([51] : List Int).length)) (x := x) am_tq_ran (by (try simp only [List.length_cons, List.length_nil, am_tq_fld (show (33 : Nat) ≠ 32 by decide), am_tq_fld (show (34 : Nat) ≠ 32 by decide), am_tq_fld (show (35 : Nat) ≠ 32 by decide)]); omega)) ?_
      rintro r rfl
      show am_E _ _ _ 44 [(0, .inr (.inr (.inl (some 107)))), (1, .inl x)] [.inl ((x + ((am_tq I n [51]) 107 34)))] (am_mm D (am_tq (am_tq I n [51]) (n + ([51] : List Int).length) [1]) J ρ) _
      refine am_e_ss 3 (q := (49, [(0, .inr (.inr (.inl (some 107)))), (1, .inl x)], [.inl ((Int32.ofInt (x + ((am_tq I n [51]) 107 34)) ^^^ Int32.ofInt ((am_tq (am_tq I n [51]) (n + ([51] : List Int).length) [1]) 107 34)).toInt)], (am_mm D (am_tq (am_tq I n [51]) (n + ([51] : List Int).length) [1]) J ρ))) rfl ?_
      refine am_e_ireturn rfl rfl ?_
      show (_ : am_R) = _
      try simp only [am_tq_fld (show (33 : Nat) ≠ 32 by decide), am_tq_fld (show (34 : Nat) ≠ 32 by decide), am_tq_fld (show (35 : Nat) ≠ 32 by decide), am_tq_app, am_tq_app3]
      unfold sp_wish
      (repeat' split) <;> first | (exfalso; omega) | rfl
  · show am_E _ _ _ 11 [(0, .inr (.inr (.inl (some 107)))), (1, .inl x)] [] (am_mm D I J ρ) _
    refine am_e_ss 2 (q := (14, [(0, .inr (.inr (.inl (some 107)))), (1, .inl x)], [.inl 11, .inr (.inr (.inl (some 107)))], (am_mm D I J ρ))) rfl ?_
    refine am_e_virtual (Q := fun r => r = (none, (am_mm D (am_tq I n [11]) J ρ))) rfl rfl (Nat.le_of_ble_eq_true rfl) rfl rfl (Nat.le_of_ble_eq_true rfl) (Nat.le_of_ble_eq_true rfl) (r_ranBody _ (n := n) hn (by (try simp only [List.length_cons, List.length_nil]); omega)) ?_
    rintro r rfl
    show am_E _ _ _ 17 [(0, .inr (.inr (.inl (some 107)))), (1, .inl x)] [] (am_mm D (am_tq I n [11]) J ρ) _
    refine am_e_ss 4 (q := (21, [(0, .inr (.inr (.inl (some 107)))), (1, .inl x)], [.inl (x * 3), .inr (.inr (.inl (some 107)))], (am_mm D (am_tq I n [11]) J ρ))) rfl ?_
    refine am_e_virtual (Q := fun r => r = (some (.inl (((x * 3) + ((am_tq I n [11]) 107 34)))), (am_mm D (am_tq (am_tq I n [11]) (n + ([11] : List Int).length) [1]) J ρ))) rfl rfl (Nat.le_of_ble_eq_true rfl) rfl rfl (Nat.le_of_ble_eq_true rfl) (Nat.le_of_ble_eq_true rfl) (r_plainWishes _ (n := (n + ([11] : List Int).length)) (x := (x * 3)) am_tq_ran (by (try simp only [List.length_cons, List.length_nil, am_tq_fld (show (33 : Nat) ≠ 32 by decide), am_tq_fld (show (34 : Nat) ≠ 32 by decide), am_tq_fld (show (35 : Nat) ≠ 32 by decide)]); omega)) ?_
    rintro r rfl
    show am_E _ _ _ 24 [(0, .inr (.inr (.inl (some 107)))), (1, .inl x)] [.inl (((x * 3) + ((am_tq I n [11]) 107 34)))] (am_mm D (am_tq (am_tq I n [11]) (n + ([11] : List Int).length) [1]) J ρ) _
    refine am_e_ireturn rfl rfl ?_
    show (_ : am_R) = _
    try simp only [am_tq_fld (show (33 : Nat) ≠ 32 by decide), am_tq_fld (show (34 : Nat) ≠ 32 by decide), am_tq_fld (show (35 : Nat) ≠ 32 by decide), am_tq_app, am_tq_app3]
    unfold sp_wish
    (repeat' split) <;> first | (exfalso; omega) | rfl
theorem r_plainReads {X : Nat × (Nat → Int)} {D : List (Nat × Nat)} {I J : Nat → Nat → Int} {ρ : Nat → Nat → Option Nat} (d : Nat) {n : Nat} {x : Int} (hn : I 107 32 = (n : Int)) (h20 : n < 16) (hk : 0 ≤ I 107 33 ∧ I 107 33 ≤ 6) : am_E X (d + 3) 207 0 [(0, .inr (.inr (.inl (some 107)))), (1, .inl x)] [] (am_mm D I J ρ) (fun r => r = (some (.inl ((sp_rd0 (I 107 33) (I 107 34) (I 107 35) x).1)), (am_mm D (am_tq I n (sp_rd0 (I 107 33) (I 107 34) (I 107 35) x).2) J ρ))) := by
  refine am_e_ss 2 (q := (2, [(0, .inr (.inr (.inl (some 107)))), (1, .inl x)], [.inl 2, .inr (.inr (.inl (some 107)))], (am_mm D I J ρ))) rfl ?_
  refine am_e_virtual (Q := fun r => r = (none, (am_mm D (am_tq I n [2]) J ρ))) rfl rfl (Nat.le_of_ble_eq_true rfl) rfl rfl (Nat.le_of_ble_eq_true rfl) (Nat.le_of_ble_eq_true rfl) (r_ranBody _ (n := n) hn (by (try simp only [List.length_cons, List.length_nil]); omega)) ?_
  rintro r rfl
  show am_E _ _ _ 5 [(0, .inr (.inr (.inl (some 107)))), (1, .inl x)] [] (am_mm D (am_tq I n [2]) J ρ) _
  refine am_e_ss 2 (q := (7, [(0, .inr (.inr (.inl (some 107)))), (1, .inl x)], [.inl x, .inr (.inr (.inl (some 107)))], (am_mm D (am_tq I n [2]) J ρ))) rfl ?_
  refine am_e_virtual (Q := fun r => r = (some (.inl ((sp_wish ((am_tq I n [2]) 107 33) ((am_tq I n [2]) 107 34) x).1)), (am_mm D (am_tq (am_tq I n [2]) (n + ([2] : List Int).length) (sp_wish ((am_tq I n [2]) 107 33) ((am_tq I n [2]) 107 34) x).2) J ρ))) rfl rfl (Nat.le_of_ble_eq_true rfl) rfl rfl (Nat.le_of_ble_eq_true rfl) (Nat.le_of_ble_eq_true rfl) (r_wishes _ (n := (n + ([2] : List Int).length)) (x := x) am_tq_ran (by (try simp only [List.length_cons, List.length_nil, am_tq_fld (show (33 : Nat) ≠ 32 by decide), am_tq_fld (show (34 : Nat) ≠ 32 by decide), am_tq_fld (show (35 : Nat) ≠ 32 by decide)]); omega) (by first | exact hkk | ((try simp only [am_tq_fld (show (33 : Nat) ≠ 32 by decide), am_tq_fld (show (34 : Nat) ≠ 32 by decide), am_tq_fld (show (35 : Nat) ≠ 32 by decide)]); omega))) ?_
  rintro r rfl
  show am_E _ _ _ 10 [(0, .inr (.inr (.inl (some 107)))), (1, .inl x)] [.inl ((sp_wish ((am_tq I n [2]) 107 33) ((am_tq I n [2]) 107 34) x).1)] (am_mm D (am_tq (am_tq I n [2]) (n + ([2] : List Int).length) (sp_wish ((am_tq I n [2]) 107 33) ((am_tq I n [2]) 107 34) x).2) J ρ) _
  refine am_e_ss 3 (q := (15, [(0, .inr (.inr (.inl (some 107)))), (1, .inl x)], [.inl ((sp_wish ((am_tq I n [2]) 107 33) ((am_tq I n [2]) 107 34) x).1 - ((am_tq (am_tq I n [2]) (n + ([2] : List Int).length) (sp_wish ((am_tq I n [2]) 107 33) ((am_tq I n [2]) 107 34) x).2) 107 35))], (am_mm D (am_tq (am_tq I n [2]) (n + ([2] : List Int).length) (sp_wish ((am_tq I n [2]) 107 33) ((am_tq I n [2]) 107 34) x).2) J ρ))) rfl ?_
  refine am_e_ireturn rfl rfl ?_
  show (_ : am_R) = _
  try simp only [am_tq_fld (show (33 : Nat) ≠ 32 by decide), am_tq_fld (show (34 : Nat) ≠ 32 by decide), am_tq_fld (show (35 : Nat) ≠ 32 by decide), am_tq_app, am_tq_app3]
  unfold sp_rd0
  (repeat' split) <;> first | (exfalso; omega) | rfl
theorem r_readsA {X : Nat × (Nat → Int)} {D : List (Nat × Nat)} {I J : Nat → Nat → Int} {ρ : Nat → Nat → Option Nat} (d : Nat) {n : Nat} {x : Int} (hn : I 107 32 = (n : Int)) (h20 : n < 15) (hk : 0 ≤ I 107 33 ∧ I 107 33 ≤ 6) : am_E X (d + 4) 208 0 [(0, .inr (.inr (.inl (some 107)))), (1, .inl x)] [] (am_mm D I J ρ) (fun r => r = (some (.inl ((sp_rd (I 107 33) (I 107 34) (I 107 35) x).1)), (am_mm D (am_tq I n (sp_rd (I 107 33) (I 107 34) (I 107 35) x).2) J ρ))) := by
  refine am_e_ss 3 (q := (5, [(0, .inr (.inr (.inl (some 107)))), (1, .inl x)], [.inl 2, .inl ((I 107 33))], (am_mm D I J ρ))) rfl ?_
  refine am_e_static (Q := fun r => r = (some (.inl ((am_bi (2 = 0 ∨ 2 = (I 107 33) ∨ (0 < 2 ∧ 2 < 4 ∧ (I 107 33) = 2 + 3))))), (am_mm D I J ρ))) rfl (Nat.le_of_ble_eq_true rfl) rfl (Nat.le_of_ble_eq_true rfl) (Nat.le_of_ble_eq_true rfl) (r_isUnder _ ⟨by omega, by omega⟩ ⟨by omega, by omega⟩) ?_
  rintro r rfl
  show am_E _ _ _ 8 [(0, .inr (.inr (.inl (some 107)))), (1, .inl x)] [.inl ((am_bi (2 = 0 ∨ 2 = (I 107 33) ∨ (0 < 2 ∧ 2 < 4 ∧ (I 107 33) = 2 + 3))))] (am_mm D I J ρ) _
  refine am_e_ifeq rfl (fun h1 => ?_) (fun h1 => ?_)
  · show am_E _ _ _ 24 [(0, .inr (.inr (.inl (some 107)))), (1, .inl x)] [] (am_mm D I J ρ) _
    refine am_e_ss 3 (q := (30, [(0, .inr (.inr (.inl (some 107)))), (1, .inl x)], [.inl 6, .inl ((I 107 33))], (am_mm D I J ρ))) rfl ?_
    refine am_e_icmp2 rfl ⟨by omega, by omega⟩ ⟨by omega, by omega⟩ (fun (h2 : ¬ (I 107 33) = 6) => ?_) (fun (h2 : ¬ (¬ (I 107 33) = 6)) => ?_)
    · show am_E _ _ _ 50 [(0, .inr (.inr (.inl (some 107)))), (1, .inl x)] [] (am_mm D I J ρ) _
      refine am_e_ss 2 (q := (52, [(0, .inr (.inr (.inl (some 107)))), (1, .inl x)], [.inl x, .inr (.inr (.inl (some 107)))], (am_mm D I J ρ))) rfl ?_
      refine am_e_virtual (Q := fun r => r = (some (.inl ((sp_rd0 (I 107 33) (I 107 34) (I 107 35) x).1)), (am_mm D (am_tq I n (sp_rd0 (I 107 33) (I 107 34) (I 107 35) x).2) J ρ))) rfl rfl (Nat.le_of_ble_eq_true rfl) rfl rfl (Nat.le_of_ble_eq_true rfl) (Nat.le_of_ble_eq_true rfl) (r_plainReads _ (n := n) (x := x) hn (by (try simp only [List.length_cons, List.length_nil, am_tq_fld (show (33 : Nat) ≠ 32 by decide), am_tq_fld (show (34 : Nat) ≠ 32 by decide), am_tq_fld (show (35 : Nat) ≠ 32 by decide)]); omega) (by first | exact hkk | ((try simp only [am_tq_fld (show (33 : Nat) ≠ 32 by decide), am_tq_fld (show (34 : Nat) ≠ 32 by decide), am_tq_fld (show (35 : Nat) ≠ 32 by decide)]); omega))) ?_
      rintro r rfl
      show am_E _ _ _ 55 [(0, .inr (.inr (.inl (some 107)))), (1, .inl x)] [.inl ((sp_rd0 (I 107 33) (I 107 34) (I 107 35) x).1)] (am_mm D (am_tq I n (sp_rd0 (I 107 33) (I 107 34) (I 107 35) x).2) J ρ) _
      refine am_e_ireturn rfl rfl ?_
      show (_ : am_R) = _
      try simp only [am_tq_fld (show (33 : Nat) ≠ 32 by decide), am_tq_fld (show (34 : Nat) ≠ 32 by decide), am_tq_fld (show (35 : Nat) ≠ 32 by decide), am_tq_app, am_tq_app3]
      unfold sp_rd
      (repeat' split) <;> first | (exfalso; omega) | rfl
    · show am_E _ _ _ 33 [(0, .inr (.inr (.inl (some 107)))), (1, .inl x)] [] (am_mm D I J ρ) _
      refine am_e_ss 2 (q := (36, [(0, .inr (.inr (.inl (some 107)))), (1, .inl x)], [.inl 61, .inr (.inr (.inl (some 107)))], (am_mm D I J ρ))) rfl ?_
      refine am_e_virtual (Q := fun r => r = (none, (am_mm D (am_tq I n [61]) J ρ))) rfl rfl (Nat.le_of_ble_eq_true rfl) rfl rfl (Nat.le_of_ble_eq_true rfl) (Nat.le_of_ble_eq_true rfl) (r_ranBody _ (n := n) hn (by (try simp only [List.length_cons, List.length_nil]); omega)) ?_
      rintro r rfl
      show am_E _ _ _ 39 [(0, .inr (.inr (.inl (some 107)))), (1, .inl x)] [] (am_mm D (am_tq I n [61]) J ρ) _
      refine am_e_ss 2 (q := (41, [(0, .inr (.inr (.inl (some 107)))), (1, .inl x)], [.inl x, .inr (.inr (.inl (some 107)))], (am_mm D (am_tq I n [61]) J ρ))) rfl ?_
      refine am_e_virtual (Q := fun r => r = (some (.inl ((sp_rd0 ((am_tq I n [61]) 107 33) ((am_tq I n [61]) 107 34) ((am_tq I n [61]) 107 35) x).1)), (am_mm D (am_tq (am_tq I n [61]) (n + ([61] : List Int).length) (sp_rd0 ((am_tq I n [61]) 107 33) ((am_tq I n [61]) 107 34) ((am_tq I n [61]) 107 35) x).2) J ρ))) rfl rfl (Nat.le_of_ble_eq_true rfl) rfl rfl (Nat.le_of_ble_eq_true rfl) (Nat.le_of_ble_eq_true rfl) (r_plainReads _ (n := (n + ([61] : List Int).length)) (x := x) am_tq_ran (by (try simp only [List.length_cons, List.length_nil, am_tq_fld (show (33 : Nat) ≠ 32 by decide), am_tq_fld (show (34 : Nat) ≠ 32 by decide), am_tq_fld (show (35 : Nat) ≠ 32 by decide)]); omega) (by first | exact hkk | ((try simp only [am_tq_fld (show (33 : Nat) ≠ 32 by decide), am_tq_fld (show (34 : Nat) ≠ 32 by decide), am_tq_fld (show (35 : Nat) ≠ 32 by decide)]); omega))) ?_
      rintro r rfl
      show am_E _ _ _ 44 [(0, .inr (.inr (.inl (some 107)))), (1, .inl x)] [.inl ((sp_rd0 ((am_tq I n [61]) 107 33) ((am_tq I n [61]) 107 34) ((am_tq I n [61]) 107 35) x).1)] (am_mm D (am_tq (am_tq I n [61]) (n + ([61] : List Int).length) (sp_rd0 ((am_tq I n [61]) 107 33) ((am_tq I n [61]) 107 34) ((am_tq I n [61]) 107 35) x).2) J ρ) _
      refine am_e_ss 3 (q := (49, [(0, .inr (.inr (.inl (some 107)))), (1, .inl x)], [.inl ((sp_rd0 ((am_tq I n [61]) 107 33) ((am_tq I n [61]) 107 34) ((am_tq I n [61]) 107 35) x).1 + ((am_tq (am_tq I n [61]) (n + ([61] : List Int).length) (sp_rd0 ((am_tq I n [61]) 107 33) ((am_tq I n [61]) 107 34) ((am_tq I n [61]) 107 35) x).2) 107 35))], (am_mm D (am_tq (am_tq I n [61]) (n + ([61] : List Int).length) (sp_rd0 ((am_tq I n [61]) 107 33) ((am_tq I n [61]) 107 34) ((am_tq I n [61]) 107 35) x).2) J ρ))) rfl ?_
      refine am_e_ireturn rfl rfl ?_
      show (_ : am_R) = _
      try simp only [am_tq_fld (show (33 : Nat) ≠ 32 by decide), am_tq_fld (show (34 : Nat) ≠ 32 by decide), am_tq_fld (show (35 : Nat) ≠ 32 by decide), am_tq_app, am_tq_app3]
      unfold sp_rd
      (repeat' split) <;> first | (exfalso; omega) | rfl
  · show am_E _ _ _ 11 [(0, .inr (.inr (.inl (some 107)))), (1, .inl x)] [] (am_mm D I J ρ) _
    refine am_e_ss 2 (q := (14, [(0, .inr (.inr (.inl (some 107)))), (1, .inl x)], [.inl 21, .inr (.inr (.inl (some 107)))], (am_mm D I J ρ))) rfl ?_
    refine am_e_virtual (Q := fun r => r = (none, (am_mm D (am_tq I n [21]) J ρ))) rfl rfl (Nat.le_of_ble_eq_true rfl) rfl rfl (Nat.le_of_ble_eq_true rfl) (Nat.le_of_ble_eq_true rfl) (r_ranBody _ (n := n) hn (by (try simp only [List.length_cons, List.length_nil]); omega)) ?_
    rintro r rfl
    show am_E _ _ _ 17 [(0, .inr (.inr (.inl (some 107)))), (1, .inl x)] [] (am_mm D (am_tq I n [21]) J ρ) _
    refine am_e_ss 2 (q := (19, [(0, .inr (.inr (.inl (some 107)))), (1, .inl x)], [.inl x, .inr (.inr (.inl (some 107)))], (am_mm D (am_tq I n [21]) J ρ))) rfl ?_
    refine am_e_virtual (Q := fun r => r = (some (.inl ((sp_rd0 ((am_tq I n [21]) 107 33) ((am_tq I n [21]) 107 34) ((am_tq I n [21]) 107 35) x).1)), (am_mm D (am_tq (am_tq I n [21]) (n + ([21] : List Int).length) (sp_rd0 ((am_tq I n [21]) 107 33) ((am_tq I n [21]) 107 34) ((am_tq I n [21]) 107 35) x).2) J ρ))) rfl rfl (Nat.le_of_ble_eq_true rfl) rfl rfl (Nat.le_of_ble_eq_true rfl) (Nat.le_of_ble_eq_true rfl) (r_plainReads _ (n := (n + ([21] : List Int).length)) (x := x) am_tq_ran (by (try simp only [List.length_cons, List.length_nil, am_tq_fld (show (33 : Nat) ≠ 32 by decide), am_tq_fld (show (34 : Nat) ≠ 32 by decide), am_tq_fld (show (35 : Nat) ≠ 32 by decide)]); omega) (by first | exact hkk | ((try simp only [am_tq_fld (show (33 : Nat) ≠ 32 by decide), am_tq_fld (show (34 : Nat) ≠ 32 by decide), am_tq_fld (show (35 : Nat) ≠ 32 by decide)]); omega))) ?_
    rintro r rfl
    show am_E _ _ _ 22 [(0, .inr (.inr (.inl (some 107)))), (1, .inl x)] [.inl ((sp_rd0 ((am_tq I n [21]) 107 33) ((am_tq I n [21]) 107 34) ((am_tq I n [21]) 107 35) x).1)] (am_mm D (am_tq (am_tq I n [21]) (n + ([21] : List Int).length) (sp_rd0 ((am_tq I n [21]) 107 33) ((am_tq I n [21]) 107 34) ((am_tq I n [21]) 107 35) x).2) J ρ) _
    refine am_e_ss 1 (q := (23, [(0, .inr (.inr (.inl (some 107)))), (1, .inl x)], [.inl ((-(sp_rd0 ((am_tq I n [21]) 107 33) ((am_tq I n [21]) 107 34) ((am_tq I n [21]) 107 35) x).1))], (am_mm D (am_tq (am_tq I n [21]) (n + ([21] : List Int).length) (sp_rd0 ((am_tq I n [21]) 107 33) ((am_tq I n [21]) 107 34) ((am_tq I n [21]) 107 35) x).2) J ρ))) rfl ?_
    refine am_e_ireturn rfl rfl ?_
    show (_ : am_R) = _
    try simp only [am_tq_fld (show (33 : Nat) ≠ 32 by decide), am_tq_fld (show (34 : Nat) ≠ 32 by decide), am_tq_fld (show (35 : Nat) ≠ 32 by decide), am_tq_app, am_tq_app3]
    unfold sp_rd
    (repeat' split) <;> first | (exfalso; omega) | rfl
theorem r_plainTalks {X : Nat × (Nat → Int)} {D : List (Nat × Nat)} {I J : Nat → Nat → Int} {ρ : Nat → Nat → Option Nat} (d : Nat) {n : Nat} {x : Int} (hn : I 107 32 = (n : Int)) (h20 : n < 14) (hk : 0 ≤ I 107 33 ∧ I 107 33 ≤ 6) : am_E X (d + 5) 209 0 [(0, .inr (.inr (.inl (some 107)))), (1, .inl x)] [] (am_mm D I J ρ) (fun r => r = (some (.inl ((sp_tk0 (I 107 33) (I 107 34) (I 107 35) x).1)), (am_mm D (am_tq I n (sp_tk0 (I 107 33) (I 107 34) (I 107 35) x).2) J ρ))) := by
  refine am_e_ss 2 (q := (2, [(0, .inr (.inr (.inl (some 107)))), (1, .inl x)], [.inl 3, .inr (.inr (.inl (some 107)))], (am_mm D I J ρ))) rfl ?_
  refine am_e_virtual (Q := fun r => r = (none, (am_mm D (am_tq I n [3]) J ρ))) rfl rfl (Nat.le_of_ble_eq_true rfl) rfl rfl (Nat.le_of_ble_eq_true rfl) (Nat.le_of_ble_eq_true rfl) (r_ranBody _ (n := n) hn (by (try simp only [List.length_cons, List.length_nil]); omega)) ?_
  rintro r rfl
  show am_E _ _ _ 5 [(0, .inr (.inr (.inl (some 107)))), (1, .inl x)] [] (am_mm D (am_tq I n [3]) J ρ) _
  refine am_e_ss 2 (q := (7, [(0, .inr (.inr (.inl (some 107)))), (1, .inl x)], [.inl x, .inr (.inr (.inl (some 107)))], (am_mm D (am_tq I n [3]) J ρ))) rfl ?_
  refine am_e_virtual (Q := fun r => r = (some (.inl ((sp_rd ((am_tq I n [3]) 107 33) ((am_tq I n [3]) 107 34) ((am_tq I n [3]) 107 35) x).1)), (am_mm D (am_tq (am_tq I n [3]) (n + ([3] : List Int).length) (sp_rd ((am_tq I n [3]) 107 33) ((am_tq I n [3]) 107 34) ((am_tq I n [3]) 107 35) x).2) J ρ))) rfl rfl (Nat.le_of_ble_eq_true rfl) rfl rfl (Nat.le_of_ble_eq_true rfl) (Nat.le_of_ble_eq_true rfl) (r_readsA _ (n := (n + ([3] : List Int).length)) (x := x) am_tq_ran (by (try simp only [List.length_cons, List.length_nil, am_tq_fld (show (33 : Nat) ≠ 32 by decide), am_tq_fld (show (34 : Nat) ≠ 32 by decide), am_tq_fld (show (35 : Nat) ≠ 32 by decide)]); omega) (by first | exact hkk | ((try simp only [am_tq_fld (show (33 : Nat) ≠ 32 by decide), am_tq_fld (show (34 : Nat) ≠ 32 by decide), am_tq_fld (show (35 : Nat) ≠ 32 by decide)]); omega))) ?_
  rintro r rfl
  show am_E _ _ _ 10 [(0, .inr (.inr (.inl (some 107)))), (1, .inl x)] [.inl ((sp_rd ((am_tq I n [3]) 107 33) ((am_tq I n [3]) 107 34) ((am_tq I n [3]) 107 35) x).1)] (am_mm D (am_tq (am_tq I n [3]) (n + ([3] : List Int).length) (sp_rd ((am_tq I n [3]) 107 33) ((am_tq I n [3]) 107 34) ((am_tq I n [3]) 107 35) x).2) J ρ) _
  refine am_e_ss 2 (q := (12, [(0, .inr (.inr (.inl (some 107)))), (1, .inl x)], [.inl ((sp_rd ((am_tq I n [3]) 107 33) ((am_tq I n [3]) 107 34) ((am_tq I n [3]) 107 35) x).1 * 2)], (am_mm D (am_tq (am_tq I n [3]) (n + ([3] : List Int).length) (sp_rd ((am_tq I n [3]) 107 33) ((am_tq I n [3]) 107 34) ((am_tq I n [3]) 107 35) x).2) J ρ))) rfl ?_
  refine am_e_ireturn rfl rfl ?_
  show (_ : am_R) = _
  try simp only [am_tq_fld (show (33 : Nat) ≠ 32 by decide), am_tq_fld (show (34 : Nat) ≠ 32 by decide), am_tq_fld (show (35 : Nat) ≠ 32 by decide), am_tq_app, am_tq_app3]
  unfold sp_tk0
  (repeat' split) <;> first | (exfalso; omega) | rfl
theorem r_talksA {X : Nat × (Nat → Int)} {D : List (Nat × Nat)} {I J : Nat → Nat → Int} {ρ : Nat → Nat → Option Nat} (d : Nat) {n : Nat} {x : Int} (hn : I 107 32 = (n : Int)) (h20 : n < 4) (hk : 0 ≤ I 107 33 ∧ I 107 33 ≤ 6) : am_E X (d + 6) 210 0 [(0, .inr (.inr (.inl (some 107)))), (1, .inl x)] [] (am_mm D I J ρ) (fun r => r = (some (.inl ((sp_tk (I 107 33) (I 107 34) (I 107 35) x).1)), (am_mm D (am_tq I n (sp_tk (I 107 33) (I 107 34) (I 107 35) x).2) J ρ))) := by
  have l0 := sp_rd_len (I 107 33) (I 107 34) (I 107 35) (x - 1)
  have l1 : (sp_tk0 (I 107 33) (I 107 34) (I 107 35) (x - 1)).2.length ≤ 5 := by unfold sp_tk0; simp only [List.length_cons]; omega
  refine am_e_ss 3 (q := (5, [(0, .inr (.inr (.inl (some 107)))), (1, .inl x)], [.inl 3, .inl ((I 107 33))], (am_mm D I J ρ))) rfl ?_
  refine am_e_static (Q := fun r => r = (some (.inl ((am_bi (3 = 0 ∨ 3 = (I 107 33) ∨ (0 < 3 ∧ 3 < 4 ∧ (I 107 33) = 3 + 3))))), (am_mm D I J ρ))) rfl (Nat.le_of_ble_eq_true rfl) rfl (Nat.le_of_ble_eq_true rfl) (Nat.le_of_ble_eq_true rfl) (r_isUnder _ ⟨by omega, by omega⟩ ⟨by omega, by omega⟩) ?_
  rintro r rfl
  show am_E _ _ _ 8 [(0, .inr (.inr (.inl (some 107)))), (1, .inl x)] [.inl ((am_bi (3 = 0 ∨ 3 = (I 107 33) ∨ (0 < 3 ∧ 3 < 4 ∧ (I 107 33) = 3 + 3))))] (am_mm D I J ρ) _
  refine am_e_ifeq rfl (fun h1 => ?_) (fun h1 => ?_)
  · show am_E _ _ _ 26 [(0, .inr (.inr (.inl (some 107)))), (1, .inl x)] [] (am_mm D I J ρ) _
    refine am_e_ss 3 (q := (31, [(0, .inr (.inr (.inl (some 107)))), (1, .inl x)], [.inl 4, .inl ((I 107 33))], (am_mm D I J ρ))) rfl ?_
    refine am_e_icmp2 rfl ⟨by omega, by omega⟩ ⟨by omega, by omega⟩ (fun (h2 : ¬ (I 107 33) = 4) => ?_) (fun (h2 : ¬ (¬ (I 107 33) = 4)) => ?_)
    · show am_E _ _ _ 56 [(0, .inr (.inr (.inl (some 107)))), (1, .inl x)] [] (am_mm D I J ρ) _
      refine am_e_ss 2 (q := (58, [(0, .inr (.inr (.inl (some 107)))), (1, .inl x)], [.inl x, .inr (.inr (.inl (some 107)))], (am_mm D I J ρ))) rfl ?_
      refine am_e_virtual (Q := fun r => r = (some (.inl ((sp_tk0 (I 107 33) (I 107 34) (I 107 35) x).1)), (am_mm D (am_tq I n (sp_tk0 (I 107 33) (I 107 34) (I 107 35) x).2) J ρ))) rfl rfl (Nat.le_of_ble_eq_true rfl) rfl rfl (Nat.le_of_ble_eq_true rfl) (Nat.le_of_ble_eq_true rfl) (r_plainTalks _ (n := n) (x := x) hn (by (try simp only [List.length_cons, List.length_nil, am_tq_fld (show (33 : Nat) ≠ 32 by decide), am_tq_fld (show (34 : Nat) ≠ 32 by decide), am_tq_fld (show (35 : Nat) ≠ 32 by decide)]); omega) (by first | exact hkk | ((try simp only [am_tq_fld (show (33 : Nat) ≠ 32 by decide), am_tq_fld (show (34 : Nat) ≠ 32 by decide), am_tq_fld (show (35 : Nat) ≠ 32 by decide)]); omega))) ?_
      rintro r rfl
      show am_E _ _ _ 61 [(0, .inr (.inr (.inl (some 107)))), (1, .inl x)] [.inl ((sp_tk0 (I 107 33) (I 107 34) (I 107 35) x).1)] (am_mm D (am_tq I n (sp_tk0 (I 107 33) (I 107 34) (I 107 35) x).2) J ρ) _
      refine am_e_ireturn rfl rfl ?_
      show (_ : am_R) = _
      try simp only [am_tq_fld (show (33 : Nat) ≠ 32 by decide), am_tq_fld (show (34 : Nat) ≠ 32 by decide), am_tq_fld (show (35 : Nat) ≠ 32 by decide), am_tq_app, am_tq_app3]
      unfold sp_tk
      (repeat' split) <;> first | (exfalso; omega) | rfl
    · show am_E _ _ _ 34 [(0, .inr (.inr (.inl (some 107)))), (1, .inl x)] [] (am_mm D I J ρ) _
      refine am_e_ss 2 (q := (37, [(0, .inr (.inr (.inl (some 107)))), (1, .inl x)], [.inl 41, .inr (.inr (.inl (some 107)))], (am_mm D I J ρ))) rfl ?_
      refine am_e_virtual (Q := fun r => r = (none, (am_mm D (am_tq I n [41]) J ρ))) rfl rfl (Nat.le_of_ble_eq_true rfl) rfl rfl (Nat.le_of_ble_eq_true rfl) (Nat.le_of_ble_eq_true rfl) (r_ranBody _ (n := n) hn (by (try simp only [List.length_cons, List.length_nil]); omega)) ?_
      rintro r rfl
      show am_E _ _ _ 40 [(0, .inr (.inr (.inl (some 107)))), (1, .inl x)] [] (am_mm D (am_tq I n [41]) J ρ) _
      refine am_e_ss 4 (q := (44, [(0, .inr (.inr (.inl (some 107)))), (1, .inl x)], [.inl (x - 1), .inr (.inr (.inl (some 107)))], (am_mm D (am_tq I n [41]) J ρ))) rfl ?_
      refine am_e_virtual (Q := fun r => r = (some (.inl ((sp_tk0 ((am_tq I n [41]) 107 33) ((am_tq I n [41]) 107 34) ((am_tq I n [41]) 107 35) (x - 1)).1)), (am_mm D (am_tq (am_tq I n [41]) (n + ([41] : List Int).length) (sp_tk0 ((am_tq I n [41]) 107 33) ((am_tq I n [41]) 107 34) ((am_tq I n [41]) 107 35) (x - 1)).2) J ρ))) rfl rfl (Nat.le_of_ble_eq_true rfl) rfl rfl (Nat.le_of_ble_eq_true rfl) (Nat.le_of_ble_eq_true rfl) (r_plainTalks _ (n := (n + ([41] : List Int).length)) (x := (x - 1)) am_tq_ran (by (try simp only [List.length_cons, List.length_nil, am_tq_fld (show (33 : Nat) ≠ 32 by decide), am_tq_fld (show (34 : Nat) ≠ 32 by decide), am_tq_fld (show (35 : Nat) ≠ 32 by decide)]); omega) (by first | exact hkk | ((try simp only [am_tq_fld (show (33 : Nat) ≠ 32 by decide), am_tq_fld (show (34 : Nat) ≠ 32 by decide), am_tq_fld (show (35 : Nat) ≠ 32 by decide)]); omega))) ?_
      rintro r rfl
      show am_E _ _ _ 47 [(0, .inr (.inr (.inl (some 107)))), (1, .inl x)] [.inl ((sp_tk0 ((am_tq I n [41]) 107 33) ((am_tq I n [41]) 107 34) ((am_tq I n [41]) 107 35) (x - 1)).1)] (am_mm D (am_tq (am_tq I n [41]) (n + ([41] : List Int).length) (sp_tk0 ((am_tq I n [41]) 107 33) ((am_tq I n [41]) 107 34) ((am_tq I n [41]) 107 35) (x - 1)).2) J ρ) _
      refine am_e_ss 4 (q := (51, [(2, .inl ((sp_tk0 ((am_tq I n [41]) 107 33) ((am_tq I n [41]) 107 34) ((am_tq I n [41]) 107 35) (x - 1)).1)), (0, .inr (.inr (.inl (some 107)))), (1, .inl x)], [.inl 2, .inr (.inr (.inl (some 107))), .inl ((sp_tk0 ((am_tq I n [41]) 107 33) ((am_tq I n [41]) 107 34) ((am_tq I n [41]) 107 35) (x - 1)).1)], (am_mm D (am_tq (am_tq I n [41]) (n + ([41] : List Int).length) (sp_tk0 ((am_tq I n [41]) 107 33) ((am_tq I n [41]) 107 34) ((am_tq I n [41]) 107 35) (x - 1)).2) J ρ))) rfl ?_
      refine am_e_virtual (Q := fun r => r = (some (.inl ((sp_wish ((am_tq (am_tq I n [41]) (n + ([41] : List Int).length) (sp_tk0 ((am_tq I n [41]) 107 33) ((am_tq I n [41]) 107 34) ((am_tq I n [41]) 107 35) (x - 1)).2) 107 33) ((am_tq (am_tq I n [41]) (n + ([41] : List Int).length) (sp_tk0 ((am_tq I n [41]) 107 33) ((am_tq I n [41]) 107 34) ((am_tq I n [41]) 107 35) (x - 1)).2) 107 34) 2).1)), (am_mm D (am_tq (am_tq (am_tq I n [41]) (n + ([41] : List Int).length) (sp_tk0 ((am_tq I n [41]) 107 33) ((am_tq I n [41]) 107 34) ((am_tq I n [41]) 107 35) (x - 1)).2) ((n + ([41] : List Int).length) + ((sp_tk0 ((am_tq I n [41]) 107 33) ((am_tq I n [41]) 107 34) ((am_tq I n [41]) 107 35) (x - 1)).2 : List Int).length) (sp_wish ((am_tq (am_tq I n [41]) (n + ([41] : List Int).length) (sp_tk0 ((am_tq I n [41]) 107 33) ((am_tq I n [41]) 107 34) ((am_tq I n [41]) 107 35) (x - 1)).2) 107 33) ((am_tq (am_tq I n [41]) (n + ([41] : List Int).length) (sp_tk0 ((am_tq I n [41]) 107 33) ((am_tq I n [41]) 107 34) ((am_tq I n [41]) 107 35) (x - 1)).2) 107 34) 2).2) J ρ))) rfl rfl (Nat.le_of_ble_eq_true rfl) rfl rfl (Nat.le_of_ble_eq_true rfl) (Nat.le_of_ble_eq_true rfl) (r_wishes _ (n := ((n + ([41] : List Int).length) + ((sp_tk0 ((am_tq I n [41]) 107 33) ((am_tq I n [41]) 107 34) ((am_tq I n [41]) 107 35) (x - 1)).2 : List Int).length)) (x := 2) am_tq_ran (by (try simp only [List.length_cons, List.length_nil, am_tq_fld (show (33 : Nat) ≠ 32 by decide), am_tq_fld (show (34 : Nat) ≠ 32 by decide), am_tq_fld (show (35 : Nat) ≠ 32 by decide)]); omega) (by first | exact hkk | ((try simp only [am_tq_fld (show (33 : Nat) ≠ 32 by decide), am_tq_fld (show (34 : Nat) ≠ 32 by decide), am_tq_fld (show (35 : Nat) ≠ 32 by decide)]); omega))) ?_
      rintro r rfl
      show am_E _ _ _ 54 [(2, .inl ((sp_tk0 ((am_tq I n [41]) 107 33) ((am_tq I n [41]) 107 34) ((am_tq I n [41]) 107 35) (x - 1)).1)), (0, .inr (.inr (.inl (some 107)))), (1, .inl x)] [.inl ((sp_wish ((am_tq (am_tq I n [41]) (n + ([41] : List Int).length) (sp_tk0 ((am_tq I n [41]) 107 33) ((am_tq I n [41]) 107 34) ((am_tq I n [41]) 107 35) (x - 1)).2) 107 33) ((am_tq (am_tq I n [41]) (n + ([41] : List Int).length) (sp_tk0 ((am_tq I n [41]) 107 33) ((am_tq I n [41]) 107 34) ((am_tq I n [41]) 107 35) (x - 1)).2) 107 34) 2).1), .inl ((sp_tk0 ((am_tq I n [41]) 107 33) ((am_tq I n [41]) 107 34) ((am_tq I n [41]) 107 35) (x - 1)).1)] (am_mm D (am_tq (am_tq (am_tq I n [41]) (n + ([41] : List Int).length) (sp_tk0 ((am_tq I n [41]) 107 33) ((am_tq I n [41]) 107 34) ((am_tq I n [41]) 107 35) (x - 1)).2) ((n + ([41] : List Int).length) + ((sp_tk0 ((am_tq I n [41]) 107 33) ((am_tq I n [41]) 107 34) ((am_tq I n [41]) 107 35) (x - 1)).2 : List Int).length) (sp_wish ((am_tq (am_tq I n [41]) (n + ([41] : List Int).length) (sp_tk0 ((am_tq I n [41]) 107 33) ((am_tq I n [41]) 107 34) ((am_tq I n [41]) 107 35) (x - 1)).2) 107 33) ((am_tq (am_tq I n [41]) (n + ([41] : List Int).length) (sp_tk0 ((am_tq I n [41]) 107 33) ((am_tq I n [41]) 107 34) ((am_tq I n [41]) 107 35) (x - 1)).2) 107 34) 2).2) J ρ) _
      refine am_e_ss 1 (q := (55, [(2, .inl ((sp_tk0 ((am_tq I n [41]) 107 33) ((am_tq I n [41]) 107 34) ((am_tq I n [41]) 107 35) (x - 1)).1)), (0, .inr (.inr (.inl (some 107)))), (1, .inl x)], [.inl ((sp_tk0 ((am_tq I n [41]) 107 33) ((am_tq I n [41]) 107 34) ((am_tq I n [41]) 107 35) (x - 1)).1 + (sp_wish ((am_tq (am_tq I n [41]) (n + ([41] : List Int).length) (sp_tk0 ((am_tq I n [41]) 107 33) ((am_tq I n [41]) 107 34) ((am_tq I n [41]) 107 35) (x - 1)).2) 107 33) ((am_tq (am_tq I n [41]) (n + ([41] : List Int).length) (sp_tk0 ((am_tq I n [41]) 107 33) ((am_tq I n [41]) 107 34) ((am_tq I n [41]) 107 35) (x - 1)).2) 107 34) 2).1)], (am_mm D (am_tq (am_tq (am_tq I n [41]) (n + ([41] : List Int).length) (sp_tk0 ((am_tq I n [41]) 107 33) ((am_tq I n [41]) 107 34) ((am_tq I n [41]) 107 35) (x - 1)).2) ((n + ([41] : List Int).length) + ((sp_tk0 ((am_tq I n [41]) 107 33) ((am_tq I n [41]) 107 34) ((am_tq I n [41]) 107 35) (x - 1)).2 : List Int).length) (sp_wish ((am_tq (am_tq I n [41]) (n + ([41] : List Int).length) (sp_tk0 ((am_tq I n [41]) 107 33) ((am_tq I n [41]) 107 34) ((am_tq I n [41]) 107 35) (x - 1)).2) 107 33) ((am_tq (am_tq I n [41]) (n + ([41] : List Int).length) (sp_tk0 ((am_tq I n [41]) 107 33) ((am_tq I n [41]) 107 34) ((am_tq I n [41]) 107 35) (x - 1)).2) 107 34) 2).2) J ρ))) rfl ?_
      refine am_e_ireturn rfl rfl ?_
      show (_ : am_R) = _
      try simp only [am_tq_fld (show (33 : Nat) ≠ 32 by decide), am_tq_fld (show (34 : Nat) ≠ 32 by decide), am_tq_fld (show (35 : Nat) ≠ 32 by decide), am_tq_app, am_tq_app3]
      unfold sp_tk
      (repeat' split) <;> first | (exfalso; omega) | rfl
  · show am_E _ _ _ 11 [(0, .inr (.inr (.inl (some 107)))), (1, .inl x)] [] (am_mm D I J ρ) _
    refine am_e_ss 2 (q := (14, [(0, .inr (.inr (.inl (some 107)))), (1, .inl x)], [.inl 31, .inr (.inr (.inl (some 107)))], (am_mm D I J ρ))) rfl ?_
    refine am_e_virtual (Q := fun r => r = (none, (am_mm D (am_tq I n [31]) J ρ))) rfl rfl (Nat.le_of_ble_eq_true rfl) rfl rfl (Nat.le_of_ble_eq_true rfl) (Nat.le_of_ble_eq_true rfl) (r_ranBody _ (n := n) hn (by (try simp only [List.length_cons, List.length_nil]); omega)) ?_
    rintro r rfl
    show am_E _ _ _ 17 [(0, .inr (.inr (.inl (some 107)))), (1, .inl x)] [] (am_mm D (am_tq I n [31]) J ρ) _
    refine am_e_ss 2 (q := (19, [(0, .inr (.inr (.inl (some 107)))), (1, .inl x)], [.inl x, .inr (.inr (.inl (some 107)))], (am_mm D (am_tq I n [31]) J ρ))) rfl ?_
    refine am_e_virtual (Q := fun r => r = (some (.inl ((sp_tk0 ((am_tq I n [31]) 107 33) ((am_tq I n [31]) 107 34) ((am_tq I n [31]) 107 35) x).1)), (am_mm D (am_tq (am_tq I n [31]) (n + ([31] : List Int).length) (sp_tk0 ((am_tq I n [31]) 107 33) ((am_tq I n [31]) 107 34) ((am_tq I n [31]) 107 35) x).2) J ρ))) rfl rfl (Nat.le_of_ble_eq_true rfl) rfl rfl (Nat.le_of_ble_eq_true rfl) (Nat.le_of_ble_eq_true rfl) (r_plainTalks _ (n := (n + ([31] : List Int).length)) (x := x) am_tq_ran (by (try simp only [List.length_cons, List.length_nil, am_tq_fld (show (33 : Nat) ≠ 32 by decide), am_tq_fld (show (34 : Nat) ≠ 32 by decide), am_tq_fld (show (35 : Nat) ≠ 32 by decide)]); omega) (by first | exact hkk | ((try simp only [am_tq_fld (show (33 : Nat) ≠ 32 by decide), am_tq_fld (show (34 : Nat) ≠ 32 by decide), am_tq_fld (show (35 : Nat) ≠ 32 by decide)]); omega))) ?_
    rintro r rfl
    show am_E _ _ _ 22 [(0, .inr (.inr (.inl (some 107)))), (1, .inl x)] [.inl ((sp_tk0 ((am_tq I n [31]) 107 33) ((am_tq I n [31]) 107 34) ((am_tq I n [31]) 107 35) x).1)] (am_mm D (am_tq (am_tq I n [31]) (n + ([31] : List Int).length) (sp_tk0 ((am_tq I n [31]) 107 33) ((am_tq I n [31]) 107 34) ((am_tq I n [31]) 107 35) x).2) J ρ) _
    refine am_e_ss 2 (q := (25, [(0, .inr (.inr (.inl (some 107)))), (1, .inl x)], [.inl ((Int32.ofInt (sp_tk0 ((am_tq I n [31]) 107 33) ((am_tq I n [31]) 107 34) ((am_tq I n [31]) 107 35) x).1 ^^^ Int32.ofInt 7).toInt)], (am_mm D (am_tq (am_tq I n [31]) (n + ([31] : List Int).length) (sp_tk0 ((am_tq I n [31]) 107 33) ((am_tq I n [31]) 107 34) ((am_tq I n [31]) 107 35) x).2) J ρ))) rfl ?_
    refine am_e_ireturn rfl rfl ?_
    show (_ : am_R) = _
    try simp only [am_tq_fld (show (33 : Nat) ≠ 32 by decide), am_tq_fld (show (34 : Nat) ≠ 32 by decide), am_tq_fld (show (35 : Nat) ≠ 32 by decide), am_tq_app, am_tq_app3]
    unfold sp_tk
    (repeat' split) <;> first | (exfalso; omega) | rfl
/-- an act: what it answers, the memory behind it -/
def sp_actI (I : Nat → Nat → Int) (m a : Int) : Nat → Nat → Int := am_up (am_up (am_up (am_up I 107 32 0) 107 33 (I 108 (26 + m).toNat)) 107 34 m) 107 35 (I 108 (32 + m).toNat)
theorem r_act0 {X : Nat × (Nat → Int)} {D : List (Nat × Nat)} {I J : Nat → Nat → Int} {ρ : Nat → Nat → Option Nat} (d : Nat) {B m a x : Int} (hm : -2147483648 ≤ m ∧ m < 2147483648) (ha : -2147483648 ≤ a ∧ a < 2147483648) (hno : ¬ ((0 ≤ m ∧ m ≤ I 108 19 - 1) ∧ (0 ≤ a ∧ a ≤ 2))) (hok : r_ok (I 108) B) : am_E X (d + 8) 211 0 [(0, .inr (.inr (.inl (some 107)))), (1, .inl m), (2, .inl a), (3, .inl x)] [] (am_mm D I J ρ) (fun r => r = (some (.inl 0), (am_mm D (am_up I 107 32 0) J ρ))) := by
  obtain ⟨o0, oG, oH, oD, o19, o20, o21, o22, o23, o24, oK, oV, oP, oM, oS, oY, oHd, oT, oC, oN⟩ := hok
  refine am_e_ss 5 (q := (7, [(0, .inr (.inr (.inl (some 107)))), (1, .inl m), (2, .inl a), (3, .inl x)], [.inl m, .inr (.inr (.inl (some 107)))], (am_mm D (am_up I 107 32 0) J ρ))) rfl ?_
  refine am_e_virtual (Q := fun r => r = (some (.inl ((am_bi (0 ≤ m ∧ m ≤ ((I 108 19) - 1))))), (am_mm D (am_up I 107 32 0) J ρ))) rfl rfl (Nat.le_of_ble_eq_true rfl) rfl rfl (Nat.le_of_ble_eq_true rfl) (Nat.le_of_ble_eq_true rfl) (r_isMember _ ⟨by omega, by omega⟩ (show 0 ≤ (I 108 19) ∧ (I 108 19) ≤ 6 by omega)) ?_
  rintro r rfl
  show am_E _ _ _ 10 [(0, .inr (.inr (.inl (some 107)))), (1, .inl m), (2, .inl a), (3, .inl x)] [.inl ((am_bi (0 ≤ m ∧ m ≤ ((I 108 19) - 1))))] (am_mm D (am_up I 107 32 0) J ρ) _
  refine am_e_ifeq rfl (fun h1 => ?_) (fun h1 => ?_)
  · show am_E _ _ _ 22 [(0, .inr (.inr (.inl (some 107)))), (1, .inl m), (2, .inl a), (3, .inl x)] [] (am_mm D (am_up I 107 32 0) J ρ) _
    refine am_e_ss 1 (q := (23, [(0, .inr (.inr (.inl (some 107)))), (1, .inl m), (2, .inl a), (3, .inl x)], [.inl 0], (am_mm D (am_up I 107 32 0) J ρ))) rfl ?_
    refine am_e_ireturn rfl rfl ?_
    rfl
  · show am_E _ _ _ 13 [(0, .inr (.inr (.inl (some 107)))), (1, .inl m), (2, .inl a), (3, .inl x)] [] (am_mm D (am_up I 107 32 0) J ρ) _
    refine am_e_ss 3 (q := (16, [(0, .inr (.inr (.inl (some 107)))), (1, .inl m), (2, .inl a), (3, .inl x)], [.inl 2, .inl 0, .inl a], (am_mm D (am_up I 107 32 0) J ρ))) rfl ?_
    refine am_e_static (Q := fun r => r = (some (.inl ((am_bi (0 ≤ a ∧ a ≤ 2)))), (am_mm D (am_up I 107 32 0) J ρ))) rfl (Nat.le_of_ble_eq_true rfl) rfl (Nat.le_of_ble_eq_true rfl) (Nat.le_of_ble_eq_true rfl) (r_in _ ⟨by omega, by omega⟩ ⟨by omega, by omega⟩ ⟨by omega, by omega⟩) ?_
    rintro r rfl
    show am_E _ _ _ 19 [(0, .inr (.inr (.inl (some 107)))), (1, .inl m), (2, .inl a), (3, .inl x)] [.inl ((am_bi (0 ≤ a ∧ a ≤ 2)))] (am_mm D (am_up I 107 32 0) J ρ) _
    refine am_e_ifne rfl (fun h2 => ?_) (fun h2 => ?_)
    · show am_E _ _ _ 24 [(0, .inr (.inr (.inl (some 107)))), (1, .inl m), (2, .inl a), (3, .inl x)] [] (am_mm D (am_up I 107 32 0) J ρ) _
      exfalso; omega
    · show am_E _ _ _ 22 [(0, .inr (.inr (.inl (some 107)))), (1, .inl m), (2, .inl a), (3, .inl x)] [] (am_mm D (am_up I 107 32 0) J ρ) _
      refine am_e_ss 1 (q := (23, [(0, .inr (.inr (.inl (some 107)))), (1, .inl m), (2, .inl a), (3, .inl x)], [.inl 0], (am_mm D (am_up I 107 32 0) J ρ))) rfl ?_
      refine am_e_ireturn rfl rfl ?_
      rfl
theorem sp_actI_at {I : Nat → Nat → Int} {m a : Int} : sp_actI I m a 107 32 = ((0 : Nat) : Int) ∧ sp_actI I m a 107 33 = I 108 (26 + m).toNat ∧ sp_actI I m a 107 34 = m ∧ sp_actI I m a 107 35 = I 108 (32 + m).toNat := ⟨rfl, rfl, rfl, rfl⟩
theorem r_act1 {X : Nat × (Nat → Int)} {D : List (Nat × Nat)} {I J : Nat → Nat → Int} {ρ : Nat → Nat → Option Nat} (d : Nat) {B m a x : Int} (hm : 0 ≤ m ∧ m ≤ I 108 19 - 1) (ha : 0 ≤ a ∧ a ≤ 2) (hok : r_ok (I 108) B) : am_E X (d + 8) 211 0 [(0, .inr (.inr (.inl (some 107)))), (1, .inl m), (2, .inl a), (3, .inl x)] [] (am_mm D I J ρ) (fun r => r = (some (.inl (sp_act (I 108 (26 + m).toNat) m (I 108 (32 + m).toNat) a x).1), am_mm D (am_tq (sp_actI I m a) 0 (sp_act (I 108 (26 + m).toNat) m (I 108 (32 + m).toNat) a x).2) J ρ)) := by
  obtain ⟨o0, oG, oH, oD, o19, o20, o21, o22, o23, o24, oK, oV, oP, oM, oS, oY, oHd, oT, oC, oN⟩ := hok
  have hkk := oK m.toNat (by omega)
  rw [show 26 + m.toNat = (26 + m).toNat by omega] at hkk
  refine am_e_ss 5 (q := (7, [(0, .inr (.inr (.inl (some 107)))), (1, .inl m), (2, .inl a), (3, .inl x)], [.inl m, .inr (.inr (.inl (some 107)))], (am_mm D (am_up I 107 32 0) J ρ))) rfl ?_
  refine am_e_virtual (Q := fun r => r = (some (.inl ((am_bi (0 ≤ m ∧ m ≤ ((I 108 19) - 1))))), (am_mm D (am_up I 107 32 0) J ρ))) rfl rfl (Nat.le_of_ble_eq_true rfl) rfl rfl (Nat.le_of_ble_eq_true rfl) (Nat.le_of_ble_eq_true rfl) (r_isMember _ ⟨by omega, by omega⟩ (show 0 ≤ (I 108 19) ∧ (I 108 19) ≤ 6 by omega)) ?_
  rintro r rfl
  show am_E _ _ _ 10 [(0, .inr (.inr (.inl (some 107)))), (1, .inl m), (2, .inl a), (3, .inl x)] [.inl ((am_bi (0 ≤ m ∧ m ≤ ((I 108 19) - 1))))] (am_mm D (am_up I 107 32 0) J ρ) _
  refine am_e_ifeq rfl (fun h1 => ?_) (fun h1 => ?_)
  · show am_E _ _ _ 22 [(0, .inr (.inr (.inl (some 107)))), (1, .inl m), (2, .inl a), (3, .inl x)] [] (am_mm D (am_up I 107 32 0) J ρ) _
    refine am_e_ss 1 (q := (23, [(0, .inr (.inr (.inl (some 107)))), (1, .inl m), (2, .inl a), (3, .inl x)], [.inl 0], (am_mm D (am_up I 107 32 0) J ρ))) rfl ?_
    refine am_e_ireturn rfl rfl ?_
    show (_ : am_R) = _
    unfold sp_act
    (repeat' split) <;> first | (exfalso; omega) | rfl
  · show am_E _ _ _ 13 [(0, .inr (.inr (.inl (some 107)))), (1, .inl m), (2, .inl a), (3, .inl x)] [] (am_mm D (am_up I 107 32 0) J ρ) _
    refine am_e_ss 3 (q := (16, [(0, .inr (.inr (.inl (some 107)))), (1, .inl m), (2, .inl a), (3, .inl x)], [.inl 2, .inl 0, .inl a], (am_mm D (am_up I 107 32 0) J ρ))) rfl ?_
    refine am_e_static (Q := fun r => r = (some (.inl ((am_bi (0 ≤ a ∧ a ≤ 2)))), (am_mm D (am_up I 107 32 0) J ρ))) rfl (Nat.le_of_ble_eq_true rfl) rfl (Nat.le_of_ble_eq_true rfl) (Nat.le_of_ble_eq_true rfl) (r_in _ ⟨by omega, by omega⟩ ⟨by omega, by omega⟩ ⟨by omega, by omega⟩) ?_
    rintro r rfl
    show am_E _ _ _ 19 [(0, .inr (.inr (.inl (some 107)))), (1, .inl m), (2, .inl a), (3, .inl x)] [.inl ((am_bi (0 ≤ a ∧ a ≤ 2)))] (am_mm D (am_up I 107 32 0) J ρ) _
    refine am_e_ifne rfl (fun h2 => ?_) (fun h2 => ?_)
    · show am_E _ _ _ 24 [(0, .inr (.inr (.inl (some 107)))), (1, .inl m), (2, .inl a), (3, .inl x)] [] (am_mm D (am_up I 107 32 0) J ρ) _
      refine am_e_ss 6 (q := (33, [(0, .inr (.inr (.inl (some 107)))), (1, .inl m), (2, .inl a), (3, .inl x)], [.inl (26 + m), .inr (.inr (.inl (some 108))), .inr (.inr (.inl (some 107)))], (am_mm D (am_up I 107 32 0) J ρ))) rfl ?_
      refine am_e_iaload (m := 878) rfl rfl (by omega) (by omega) (by omega) ?_
      show am_E _ _ _ 34 [(0, .inr (.inr (.inl (some 107)))), (1, .inl m), (2, .inl a), (3, .inl x)] [.inl ((I 108 ((26 + m)).toNat)), .inr (.inr (.inl (some 107)))] (am_mm D (am_up I 107 32 0) J ρ) _
      refine am_e_ss 10 (q := (51, [(0, .inr (.inr (.inl (some 107)))), (1, .inl m), (2, .inl a), (3, .inl x)], [.inl (32 + m), .inr (.inr (.inl (some 108))), .inr (.inr (.inl (some 107)))], (am_mm D (am_up (am_up (am_up I 107 32 0) 107 33 (I 108 ((26 + m)).toNat)) 107 34 m) J ρ))) rfl ?_
      refine am_e_iaload (m := 878) rfl rfl (by omega) (by omega) (by omega) ?_
      show am_E _ _ _ 52 [(0, .inr (.inr (.inl (some 107)))), (1, .inl m), (2, .inl a), (3, .inl x)] [.inl ((I 108 ((32 + m)).toNat)), .inr (.inr (.inl (some 107)))] (am_mm D (am_up (am_up (am_up I 107 32 0) 107 33 (I 108 ((26 + m)).toNat)) 107 34 m) J ρ) _
      refine am_e_ss 2 (q := (56, [(0, .inr (.inr (.inl (some 107)))), (1, .inl m), (2, .inl a), (3, .inl x)], [.inl a], (am_mm D (am_up (am_up (am_up (am_up I 107 32 0) 107 33 (I 108 ((26 + m)).toNat)) 107 34 m) 107 35 (I 108 ((32 + m)).toNat)) J ρ))) rfl ?_
      refine am_e_if2 rfl ⟨by omega, by omega⟩ (fun (h3 : ¬ a = 0) => ?_) (fun (h3 : ¬ (¬ a = 0)) => ?_)
      · show am_E _ _ _ 67 [(0, .inr (.inr (.inl (some 107)))), (1, .inl m), (2, .inl a), (3, .inl x)] [] (am_mm D (am_up (am_up (am_up (am_up I 107 32 0) 107 33 (I 108 ((26 + m)).toNat)) 107 34 m) 107 35 (I 108 ((32 + m)).toNat)) J ρ) _
        refine am_e_ss 2 (q := (69, [(0, .inr (.inr (.inl (some 107)))), (1, .inl m), (2, .inl a), (3, .inl x)], [.inl 1, .inl a], (am_mm D (am_up (am_up (am_up (am_up I 107 32 0) 107 33 (I 108 ((26 + m)).toNat)) 107 34 m) 107 35 (I 108 ((32 + m)).toNat)) J ρ))) rfl ?_
        refine am_e_icmp2 rfl ⟨by omega, by omega⟩ ⟨by omega, by omega⟩ (fun (h4 : ¬ a = 1) => ?_) (fun (h4 : ¬ (¬ a = 1)) => ?_)
        · show am_E _ _ _ 80 [(0, .inr (.inr (.inl (some 107)))), (1, .inl m), (2, .inl a), (3, .inl x)] [] (am_mm D (am_up (am_up (am_up (am_up I 107 32 0) 107 33 (I 108 ((26 + m)).toNat)) 107 34 m) 107 35 (I 108 ((32 + m)).toNat)) J ρ) _
          refine am_e_ss 2 (q := (82, [(0, .inr (.inr (.inl (some 107)))), (1, .inl m), (2, .inl a), (3, .inl x)], [.inl x, .inr (.inr (.inl (some 107)))], (am_mm D (am_up (am_up (am_up (am_up I 107 32 0) 107 33 (I 108 ((26 + m)).toNat)) 107 34 m) 107 35 (I 108 ((32 + m)).toNat)) J ρ))) rfl ?_
          refine am_e_virtual (Q := fun r => r = (some (.inl ((sp_tk ((am_up (am_up (am_up (am_up I 107 32 0) 107 33 (I 108 ((26 + m)).toNat)) 107 34 m) 107 35 (I 108 ((32 + m)).toNat)) 107 33) ((am_up (am_up (am_up (am_up I 107 32 0) 107 33 (I 108 ((26 + m)).toNat)) 107 34 m) 107 35 (I 108 ((32 + m)).toNat)) 107 34) ((am_up (am_up (am_up (am_up I 107 32 0) 107 33 (I 108 ((26 + m)).toNat)) 107 34 m) 107 35 (I 108 ((32 + m)).toNat)) 107 35) x).1)), (am_mm D (am_tq (am_up (am_up (am_up (am_up I 107 32 0) 107 33 (I 108 ((26 + m)).toNat)) 107 34 m) 107 35 (I 108 ((32 + m)).toNat)) 0 (sp_tk ((am_up (am_up (am_up (am_up I 107 32 0) 107 33 (I 108 ((26 + m)).toNat)) 107 34 m) 107 35 (I 108 ((32 + m)).toNat)) 107 33) ((am_up (am_up (am_up (am_up I 107 32 0) 107 33 (I 108 ((26 + m)).toNat)) 107 34 m) 107 35 (I 108 ((32 + m)).toNat)) 107 34) ((am_up (am_up (am_up (am_up I 107 32 0) 107 33 (I 108 ((26 + m)).toNat)) 107 34 m) 107 35 (I 108 ((32 + m)).toNat)) 107 35) x).2) J ρ))) rfl rfl (Nat.le_of_ble_eq_true rfl) rfl rfl (Nat.le_of_ble_eq_true rfl) (Nat.le_of_ble_eq_true rfl) (r_talksA _ (n := 0) (x := x) rfl (by (try simp only [List.length_cons, List.length_nil, am_tq_fld (show (33 : Nat) ≠ 32 by decide), am_tq_fld (show (34 : Nat) ≠ 32 by decide), am_tq_fld (show (35 : Nat) ≠ 32 by decide)]); omega) (by first | exact hkk | ((try simp only [am_tq_fld (show (33 : Nat) ≠ 32 by decide), am_tq_fld (show (34 : Nat) ≠ 32 by decide), am_tq_fld (show (35 : Nat) ≠ 32 by decide)]); omega))) ?_
          rintro r rfl
          show am_E _ _ _ 85 [(0, .inr (.inr (.inl (some 107)))), (1, .inl m), (2, .inl a), (3, .inl x)] [.inl ((sp_tk ((am_up (am_up (am_up (am_up I 107 32 0) 107 33 (I 108 ((26 + m)).toNat)) 107 34 m) 107 35 (I 108 ((32 + m)).toNat)) 107 33) ((am_up (am_up (am_up (am_up I 107 32 0) 107 33 (I 108 ((26 + m)).toNat)) 107 34 m) 107 35 (I 108 ((32 + m)).toNat)) 107 34) ((am_up (am_up (am_up (am_up I 107 32 0) 107 33 (I 108 ((26 + m)).toNat)) 107 34 m) 107 35 (I 108 ((32 + m)).toNat)) 107 35) x).1)] (am_mm D (am_tq (am_up (am_up (am_up (am_up I 107 32 0) 107 33 (I 108 ((26 + m)).toNat)) 107 34 m) 107 35 (I 108 ((32 + m)).toNat)) 0 (sp_tk ((am_up (am_up (am_up (am_up I 107 32 0) 107 33 (I 108 ((26 + m)).toNat)) 107 34 m) 107 35 (I 108 ((32 + m)).toNat)) 107 33) ((am_up (am_up (am_up (am_up I 107 32 0) 107 33 (I 108 ((26 + m)).toNat)) 107 34 m) 107 35 (I 108 ((32 + m)).toNat)) 107 34) ((am_up (am_up (am_up (am_up I 107 32 0) 107 33 (I 108 ((26 + m)).toNat)) 107 34 m) 107 35 (I 108 ((32 + m)).toNat)) 107 35) x).2) J ρ) _
          refine am_e_ireturn rfl rfl ?_
          show (_ : am_R) = _
          unfold sp_act
          (repeat' split) <;> first | (exfalso; omega) | rfl
        · show am_E _ _ _ 72 [(0, .inr (.inr (.inl (some 107)))), (1, .inl m), (2, .inl a), (3, .inl x)] [] (am_mm D (am_up (am_up (am_up (am_up I 107 32 0) 107 33 (I 108 ((26 + m)).toNat)) 107 34 m) 107 35 (I 108 ((32 + m)).toNat)) J ρ) _
          refine am_e_ss 2 (q := (74, [(0, .inr (.inr (.inl (some 107)))), (1, .inl m), (2, .inl a), (3, .inl x)], [.inl x, .inr (.inr (.inl (some 107)))], (am_mm D (am_up (am_up (am_up (am_up I 107 32 0) 107 33 (I 108 ((26 + m)).toNat)) 107 34 m) 107 35 (I 108 ((32 + m)).toNat)) J ρ))) rfl ?_
          refine am_e_virtual (Q := fun r => r = (some (.inl ((sp_rd ((am_up (am_up (am_up (am_up I 107 32 0) 107 33 (I 108 ((26 + m)).toNat)) 107 34 m) 107 35 (I 108 ((32 + m)).toNat)) 107 33) ((am_up (am_up (am_up (am_up I 107 32 0) 107 33 (I 108 ((26 + m)).toNat)) 107 34 m) 107 35 (I 108 ((32 + m)).toNat)) 107 34) ((am_up (am_up (am_up (am_up I 107 32 0) 107 33 (I 108 ((26 + m)).toNat)) 107 34 m) 107 35 (I 108 ((32 + m)).toNat)) 107 35) x).1)), (am_mm D (am_tq (am_up (am_up (am_up (am_up I 107 32 0) 107 33 (I 108 ((26 + m)).toNat)) 107 34 m) 107 35 (I 108 ((32 + m)).toNat)) 0 (sp_rd ((am_up (am_up (am_up (am_up I 107 32 0) 107 33 (I 108 ((26 + m)).toNat)) 107 34 m) 107 35 (I 108 ((32 + m)).toNat)) 107 33) ((am_up (am_up (am_up (am_up I 107 32 0) 107 33 (I 108 ((26 + m)).toNat)) 107 34 m) 107 35 (I 108 ((32 + m)).toNat)) 107 34) ((am_up (am_up (am_up (am_up I 107 32 0) 107 33 (I 108 ((26 + m)).toNat)) 107 34 m) 107 35 (I 108 ((32 + m)).toNat)) 107 35) x).2) J ρ))) rfl rfl (Nat.le_of_ble_eq_true rfl) rfl rfl (Nat.le_of_ble_eq_true rfl) (Nat.le_of_ble_eq_true rfl) (r_readsA _ (n := 0) (x := x) rfl (by (try simp only [List.length_cons, List.length_nil, am_tq_fld (show (33 : Nat) ≠ 32 by decide), am_tq_fld (show (34 : Nat) ≠ 32 by decide), am_tq_fld (show (35 : Nat) ≠ 32 by decide)]); omega) (by first | exact hkk | ((try simp only [am_tq_fld (show (33 : Nat) ≠ 32 by decide), am_tq_fld (show (34 : Nat) ≠ 32 by decide), am_tq_fld (show (35 : Nat) ≠ 32 by decide)]); omega))) ?_
          rintro r rfl
          show am_E _ _ _ 77 [(0, .inr (.inr (.inl (some 107)))), (1, .inl m), (2, .inl a), (3, .inl x)] [.inl ((sp_rd ((am_up (am_up (am_up (am_up I 107 32 0) 107 33 (I 108 ((26 + m)).toNat)) 107 34 m) 107 35 (I 108 ((32 + m)).toNat)) 107 33) ((am_up (am_up (am_up (am_up I 107 32 0) 107 33 (I 108 ((26 + m)).toNat)) 107 34 m) 107 35 (I 108 ((32 + m)).toNat)) 107 34) ((am_up (am_up (am_up (am_up I 107 32 0) 107 33 (I 108 ((26 + m)).toNat)) 107 34 m) 107 35 (I 108 ((32 + m)).toNat)) 107 35) x).1)] (am_mm D (am_tq (am_up (am_up (am_up (am_up I 107 32 0) 107 33 (I 108 ((26 + m)).toNat)) 107 34 m) 107 35 (I 108 ((32 + m)).toNat)) 0 (sp_rd ((am_up (am_up (am_up (am_up I 107 32 0) 107 33 (I 108 ((26 + m)).toNat)) 107 34 m) 107 35 (I 108 ((32 + m)).toNat)) 107 33) ((am_up (am_up (am_up (am_up I 107 32 0) 107 33 (I 108 ((26 + m)).toNat)) 107 34 m) 107 35 (I 108 ((32 + m)).toNat)) 107 34) ((am_up (am_up (am_up (am_up I 107 32 0) 107 33 (I 108 ((26 + m)).toNat)) 107 34 m) 107 35 (I 108 ((32 + m)).toNat)) 107 35) x).2) J ρ) _
          refine am_e_ss 1 (q := (85, [(0, .inr (.inr (.inl (some 107)))), (1, .inl m), (2, .inl a), (3, .inl x)], [.inl ((sp_rd ((am_up (am_up (am_up (am_up I 107 32 0) 107 33 (I 108 ((26 + m)).toNat)) 107 34 m) 107 35 (I 108 ((32 + m)).toNat)) 107 33) ((am_up (am_up (am_up (am_up I 107 32 0) 107 33 (I 108 ((26 + m)).toNat)) 107 34 m) 107 35 (I 108 ((32 + m)).toNat)) 107 34) ((am_up (am_up (am_up (am_up I 107 32 0) 107 33 (I 108 ((26 + m)).toNat)) 107 34 m) 107 35 (I 108 ((32 + m)).toNat)) 107 35) x).1)], (am_mm D (am_tq (am_up (am_up (am_up (am_up I 107 32 0) 107 33 (I 108 ((26 + m)).toNat)) 107 34 m) 107 35 (I 108 ((32 + m)).toNat)) 0 (sp_rd ((am_up (am_up (am_up (am_up I 107 32 0) 107 33 (I 108 ((26 + m)).toNat)) 107 34 m) 107 35 (I 108 ((32 + m)).toNat)) 107 33) ((am_up (am_up (am_up (am_up I 107 32 0) 107 33 (I 108 ((26 + m)).toNat)) 107 34 m) 107 35 (I 108 ((32 + m)).toNat)) 107 34) ((am_up (am_up (am_up (am_up I 107 32 0) 107 33 (I 108 ((26 + m)).toNat)) 107 34 m) 107 35 (I 108 ((32 + m)).toNat)) 107 35) x).2) J ρ))) rfl ?_
          refine am_e_ireturn rfl rfl ?_
          show (_ : am_R) = _
          unfold sp_act
          (repeat' split) <;> first | (exfalso; omega) | rfl
      · show am_E _ _ _ 59 [(0, .inr (.inr (.inl (some 107)))), (1, .inl m), (2, .inl a), (3, .inl x)] [] (am_mm D (am_up (am_up (am_up (am_up I 107 32 0) 107 33 (I 108 ((26 + m)).toNat)) 107 34 m) 107 35 (I 108 ((32 + m)).toNat)) J ρ) _
        refine am_e_ss 2 (q := (61, [(0, .inr (.inr (.inl (some 107)))), (1, .inl m), (2, .inl a), (3, .inl x)], [.inl x, .inr (.inr (.inl (some 107)))], (am_mm D (am_up (am_up (am_up (am_up I 107 32 0) 107 33 (I 108 ((26 + m)).toNat)) 107 34 m) 107 35 (I 108 ((32 + m)).toNat)) J ρ))) rfl ?_
        refine am_e_virtual (Q := fun r => r = (some (.inl ((sp_wish ((am_up (am_up (am_up (am_up I 107 32 0) 107 33 (I 108 ((26 + m)).toNat)) 107 34 m) 107 35 (I 108 ((32 + m)).toNat)) 107 33) ((am_up (am_up (am_up (am_up I 107 32 0) 107 33 (I 108 ((26 + m)).toNat)) 107 34 m) 107 35 (I 108 ((32 + m)).toNat)) 107 34) x).1)), (am_mm D (am_tq (am_up (am_up (am_up (am_up I 107 32 0) 107 33 (I 108 ((26 + m)).toNat)) 107 34 m) 107 35 (I 108 ((32 + m)).toNat)) 0 (sp_wish ((am_up (am_up (am_up (am_up I 107 32 0) 107 33 (I 108 ((26 + m)).toNat)) 107 34 m) 107 35 (I 108 ((32 + m)).toNat)) 107 33) ((am_up (am_up (am_up (am_up I 107 32 0) 107 33 (I 108 ((26 + m)).toNat)) 107 34 m) 107 35 (I 108 ((32 + m)).toNat)) 107 34) x).2) J ρ))) rfl rfl (Nat.le_of_ble_eq_true rfl) rfl rfl (Nat.le_of_ble_eq_true rfl) (Nat.le_of_ble_eq_true rfl) (r_wishes _ (n := 0) (x := x) rfl (by (try simp only [List.length_cons, List.length_nil, am_tq_fld (show (33 : Nat) ≠ 32 by decide), am_tq_fld (show (34 : Nat) ≠ 32 by decide), am_tq_fld (show (35 : Nat) ≠ 32 by decide)]); omega) (by first | exact hkk | ((try simp only [am_tq_fld (show (33 : Nat) ≠ 32 by decide), am_tq_fld (show (34 : Nat) ≠ 32 by decide), am_tq_fld (show (35 : Nat) ≠ 32 by decide)]); omega))) ?_
        rintro r rfl
        show am_E _ _ _ 64 [(0, .inr (.inr (.inl (some 107)))), (1, .inl m), (2, .inl a), (3, .inl x)] [.inl ((sp_wish ((am_up (am_up (am_up (am_up I 107 32 0) 107 33 (I 108 ((26 + m)).toNat)) 107 34 m) 107 35 (I 108 ((32 + m)).toNat)) 107 33) ((am_up (am_up (am_up (am_up I 107 32 0) 107 33 (I 108 ((26 + m)).toNat)) 107 34 m) 107 35 (I 108 ((32 + m)).toNat)) 107 34) x).1)] (am_mm D (am_tq (am_up (am_up (am_up (am_up I 107 32 0) 107 33 (I 108 ((26 + m)).toNat)) 107 34 m) 107 35 (I 108 ((32 + m)).toNat)) 0 (sp_wish ((am_up (am_up (am_up (am_up I 107 32 0) 107 33 (I 108 ((26 + m)).toNat)) 107 34 m) 107 35 (I 108 ((32 + m)).toNat)) 107 33) ((am_up (am_up (am_up (am_up I 107 32 0) 107 33 (I 108 ((26 + m)).toNat)) 107 34 m) 107 35 (I 108 ((32 + m)).toNat)) 107 34) x).2) J ρ) _
        refine am_e_ss 1 (q := (85, [(0, .inr (.inr (.inl (some 107)))), (1, .inl m), (2, .inl a), (3, .inl x)], [.inl ((sp_wish ((am_up (am_up (am_up (am_up I 107 32 0) 107 33 (I 108 ((26 + m)).toNat)) 107 34 m) 107 35 (I 108 ((32 + m)).toNat)) 107 33) ((am_up (am_up (am_up (am_up I 107 32 0) 107 33 (I 108 ((26 + m)).toNat)) 107 34 m) 107 35 (I 108 ((32 + m)).toNat)) 107 34) x).1)], (am_mm D (am_tq (am_up (am_up (am_up (am_up I 107 32 0) 107 33 (I 108 ((26 + m)).toNat)) 107 34 m) 107 35 (I 108 ((32 + m)).toNat)) 0 (sp_wish ((am_up (am_up (am_up (am_up I 107 32 0) 107 33 (I 108 ((26 + m)).toNat)) 107 34 m) 107 35 (I 108 ((32 + m)).toNat)) 107 33) ((am_up (am_up (am_up (am_up I 107 32 0) 107 33 (I 108 ((26 + m)).toNat)) 107 34 m) 107 35 (I 108 ((32 + m)).toNat)) 107 34) x).2) J ρ))) rfl ?_
        refine am_e_ireturn rfl rfl ?_
        show (_ : am_R) = _
        unfold sp_act
        (repeat' split) <;> first | (exfalso; omega) | rfl
    · show am_E _ _ _ 22 [(0, .inr (.inr (.inl (some 107)))), (1, .inl m), (2, .inl a), (3, .inl x)] [] (am_mm D (am_up I 107 32 0) J ρ) _
      refine am_e_ss 1 (q := (23, [(0, .inr (.inr (.inl (some 107)))), (1, .inl m), (2, .inl a), (3, .inl x)], [.inl 0], (am_mm D (am_up I 107 32 0) J ρ))) rfl ?_
      refine am_e_ireturn rfl rfl ?_
      show (_ : am_R) = _
      unfold sp_act
      (repeat' split) <;> first | (exfalso; omega) | rfl
