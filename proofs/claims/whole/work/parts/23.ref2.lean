/-! THE REFERENCE: calls that look at and change its row s alone -/
/-- the row s is as it may be; B: how far GLAD goes -/
def r_ok (S : Nat → Int) (B : Int) : Prop := (0 ≤ S 0 ∧ S 0 ≤ 200) ∧ (∀ m, m < 6 → -B ≤ S (1 + m) ∧ S (1 + m) ≤ B) ∧ (∀ m, m < 6 → S (7 + m) = 0 ∨ S (7 + m) = 1) ∧ (∀ b, b < 6 → S (13 + b) = 0 ∨ S (13 + b) = 1) ∧
  (0 ≤ S 19 ∧ S 19 ≤ 6) ∧ (0 ≤ S 20 ∧ S 20 ≤ 6) ∧ (0 ≤ S 21 ∧ S 21 ≤ 5) ∧ (0 ≤ S 22 ∧ S 22 ≤ 6) ∧ (0 ≤ S 23 ∧ S 23 ≤ 100) ∧ (-1 ≤ S 24 ∧ S 24 ≤ 4) ∧
  (∀ m, m < 6 → 0 ≤ S (26 + m) ∧ S (26 + m) ≤ 6) ∧ (∀ m, m < 6 → 0 ≤ S (32 + m) ∧ S (32 + m) ≤ 9) ∧ (∀ b, b < 6 → 0 ≤ S (38 + b) ∧ S (38 + b) ≤ 99) ∧ (∀ b, b < 6 → 0 ≤ S (44 + b) ∧ S (44 + b) ≤ 9) ∧ (∀ b, b < 6 → 0 ≤ S (50 + b) ∧ S (50 + b) ≤ 3) ∧ (∀ b, b < 6 → 0 ≤ S (56 + b) ∧ S (56 + b) ≤ 5) ∧
  (∀ h, h < 6 → 0 ≤ S (62 + h) ∧ S (62 + h) ≤ 12) ∧ (∀ i, i < 100 → 0 ≤ S (68 + i) ∧ S (68 + i) ≤ 127) ∧ (∀ c, c < 5 → 0 ≤ S (168 + c) ∧ S (168 + c) ≤ 99) ∧ (∀ c, c < 5 → 0 ≤ S (173 + c) ∧ S (173 + c) ≤ 140)
def sp_feed (S : Nat → Int) (v : Int) : Int × (Nat → Int) := if ¬ (0 ≤ v ∧ v ≤ 127) then (-2, S) else if S 23 = 100 then (-4, S) else (S 23 + 1, am_u1 (am_u1 S (68 + S 23).toNat v) 23 (S 23 + 1))
def sp_come (S : Nat → Int) : Int := if S 24 = -1 then 5 else S (168 + S 24).toNat
def sp_member (S : Nat → Int) (k v : Int) : Int × (Nat → Int) := if ¬ (0 ≤ k ∧ k ≤ 6) then (-1, S) else if ¬ (0 ≤ v ∧ v ≤ 9) then (-2, S) else if S 19 = 6 then (-4, S) else
  (S 19, am_u1 (am_u1 (am_u1 (am_u1 (am_u1 S (26 + S 19).toNat k) (32 + S 19).toNat v) (1 + S 19).toNat 0) (7 + S 19).toNat 0) 19 (S 19 + 1))
def sp_book (S : Nat → Int) (p o s y : Int) : Int × (Nat → Int) := if ¬ (0 ≤ y ∧ y ≤ S 19 - 1) then (-1, S) else if ¬ (0 ≤ p ∧ p ≤ 99) then (-2, S) else if ¬ (0 ≤ o ∧ o ≤ 9) then (-2, S) else if ¬ (0 ≤ s ∧ s ≤ 3) then (-2, S) else if S 20 = 6 then (-4, S) else
  (S 20, am_u1 (am_u1 (am_u1 (am_u1 (am_u1 (am_u1 S (38 + S 20).toNat p) (44 + S 20).toNat o) (50 + S 20).toNat s) (56 + S 20).toNat y) (13 + S 20).toNat 0) 20 (S 20 + 1))
def sp_of (S : Nat → Int) (m w : Int) : Int := if ¬ (0 ≤ m ∧ m ≤ S 19 - 1) then -10001 else if ¬ (0 ≤ w ∧ w ≤ 3) then -10001 else if w = 0 then S (26 + m).toNat else if w = 1 then S (32 + m).toNat else if w = 2 then S (1 + m).toNat else 1 - S (7 + m).toNat
def sp_at (S : Nat → Int) (b w : Int) : Int := if ¬ (0 ≤ b ∧ b ≤ S 20 - 1) then -1 else if ¬ (0 ≤ w ∧ w ≤ 4) then -1 else if w = 4 then S (13 + b).toNat else S (38 + 6 * w + b).toNat
def sp_had (S : Nat → Int) (b w : Int) : Int × (Nat → Int) := if ¬ (0 ≤ b ∧ b ≤ S 20 - 1) then (-1, S) else (S (13 + b).toNat, am_u1 S (13 + b).toNat w)
def sp_hand (S : Nat → Int) (n : Int) : Int × (Nat → Int) := if n = -1 then (0, am_u1 S 22 0) else if ¬ (0 ≤ n ∧ n ≤ 12) then (-2, S) else if S 22 = 6 then (-4, S) else (S 22 + 1, am_u1 (am_u1 S (62 + S 22).toNat n) 22 (S 22 + 1))
def sp_here (S : Nat → Int) : Int := am_bits (fun m => decide (S (7 + m) = 0)) (S 19).toNat
def sp_open (S : Nat → Int) : Int := am_bits (fun b => decide (S (13 + b) = 0)) (S 20).toNat
def sp_told (S : Nat → Int) (w : Int) : Int := if w = 0 then S 0 else if w = 1 then sp_come S else if w = 2 then sp_here S else if w = 3 then sp_open S else -1
def sp_count (S : Nat → Int) (ran w : Int) : Int := if w = 0 then S 19 else if w = 1 then S 20 else if w = 2 then S 21 else if w = 3 then S 22 else if w = 4 then S 23 else if w = 5 then ran else -1
theorem r_feed {X : Nat × (Nat → Int)} {D : List (Nat × Nat)} {I J : Nat → Nat → Int} {ρ : Nat → Nat → Option Nat} (d : Nat) {B v : Int} (hv : -2147483648 ≤ v ∧ v < 2147483648) (hok : r_ok (I 108) B) : am_E X (d + 1) 134 0 [(0, .inr (.inr (.inl (some 107)))), (1, .inl v)] [] (am_mm D I J ρ) (fun r => r = (some (.inl ((sp_feed (I 108) v).1)), (am_mm D (am_sr I 108 (sp_feed (I 108) v).2) J ρ))) := by
  obtain ⟨o0, oG, oH, oD, o19, o20, o21, o22, o23, o24, oK, oV, oP, oM, oS, oY, oHd, oT, oC, oN⟩ := hok
  refine am_e_ss 3 (q := (4, [(0, .inr (.inr (.inl (some 107)))), (1, .inl v)], [.inl 127, .inl 0, .inl v], (am_mm D I J ρ))) rfl ?_
  refine am_e_static (Q := fun r => r = (some (.inl ((am_bi (0 ≤ v ∧ v ≤ 127)))), (am_mm D I J ρ))) rfl (Nat.le_of_ble_eq_true rfl) rfl (Nat.le_of_ble_eq_true rfl) (Nat.le_of_ble_eq_true rfl) (r_in _ ⟨by omega, by omega⟩ ⟨by omega, by omega⟩ ⟨by omega, by omega⟩) ?_
  rintro r rfl
  show am_E _ _ _ 7 [(0, .inr (.inr (.inl (some 107)))), (1, .inl v)] [.inl ((am_bi (0 ≤ v ∧ v ≤ 127)))] (am_mm D I J ρ) _
  refine am_e_ifne rfl (fun h1 => ?_) (fun h1 => ?_)
  · show am_E _ _ _ 13 [(0, .inr (.inr (.inl (some 107)))), (1, .inl v)] [] (am_mm D I J ρ) _
    refine am_e_ss 5 (q := (22, [(0, .inr (.inr (.inl (some 107)))), (1, .inl v)], [.inl 100, .inl ((I 108 23))], (am_mm D I J ρ))) rfl ?_
    refine am_e_icmp2 rfl ⟨by omega, by omega⟩ ⟨by omega, by omega⟩ (fun (h2 : ¬ (I 108 23) = 100) => ?_) (fun (h2 : ¬ (¬ (I 108 23) = 100)) => ?_)
    · show am_E _ _ _ 28 [(0, .inr (.inr (.inl (some 107)))), (1, .inl v)] [] (am_mm D I J ρ) _
      refine am_e_ss 9 (q := (43, [(0, .inr (.inr (.inl (some 107)))), (1, .inl v)], [.inl v, .inl (68 + (I 108 23)), .inr (.inr (.inl (some 108)))], (am_mm D I J ρ))) rfl ?_
      refine am_e_iastore (m := 878) rfl rfl (by omega) (by omega) (by omega) ?_
      show am_E _ _ _ 44 [(0, .inr (.inr (.inl (some 107)))), (1, .inl v)] [] (am_mm D (am_up I 108 ((68 + (I 108 23))).toNat v) J ρ) _
      refine am_e_ss 12 (q := (62, [(0, .inr (.inr (.inl (some 107)))), (1, .inl v)], [.inl ((((am_up I 108 ((68 + (I 108 23))).toNat v) 108 23) + 1))], (am_mm D (am_up (am_up I 108 ((68 + (I 108 23))).toNat v) 108 23 (((am_up I 108 ((68 + (I 108 23))).toNat v) 108 23) + 1)) J ρ))) rfl ?_
      refine am_e_ireturn rfl rfl ?_
      show (_ : am_R) = _
      try simp only [am_up_sr, am_sr_at, am_sr_sr, am_u1_at, am_u1_ne (show 23 ≠ (68 + I 108 23).toNat by omega)]
      unfold sp_feed
      (repeat' split) <;> first | (exfalso; omega) | (simp only [am_sr_self]; done) | rfl
    · show am_E _ _ _ 25 [(0, .inr (.inr (.inl (some 107)))), (1, .inl v)] [] (am_mm D I J ρ) _
      refine am_e_ss 1 (q := (27, [(0, .inr (.inr (.inl (some 107)))), (1, .inl v)], [.inl (-4)], (am_mm D I J ρ))) rfl ?_
      refine am_e_ireturn rfl rfl ?_
      show (_ : am_R) = _
      try simp only [am_up_sr, am_sr_at, am_sr_sr, am_u1_at, am_u1_ne (show 23 ≠ (68 + I 108 23).toNat by omega)]
      unfold sp_feed
      (repeat' split) <;> first | (exfalso; omega) | (simp only [am_sr_self]; done) | rfl
  · show am_E _ _ _ 10 [(0, .inr (.inr (.inl (some 107)))), (1, .inl v)] [] (am_mm D I J ρ) _
    refine am_e_ss 1 (q := (12, [(0, .inr (.inr (.inl (some 107)))), (1, .inl v)], [.inl (-2)], (am_mm D I J ρ))) rfl ?_
    refine am_e_ireturn rfl rfl ?_
    show (_ : am_R) = _
    try simp only [am_up_sr, am_sr_at, am_sr_sr, am_u1_at, am_u1_ne (show 23 ≠ (68 + I 108 23).toNat by omega)]
    unfold sp_feed
    (repeat' split) <;> first | (exfalso; omega) | (simp only [am_sr_self]; done) | rfl
theorem r_comeNow {X : Nat × (Nat → Int)} {D : List (Nat × Nat)} {I J : Nat → Nat → Int} {ρ : Nat → Nat → Option Nat} (d : Nat) {B : Int} (hok : r_ok (I 108) B) : am_E X d 148 0 [(0, .inr (.inr (.inl (some 107))))] [] (am_mm D I J ρ) (fun r => r = (some (.inl ((sp_come (I 108)))), (am_mm D I J ρ))) := by
  obtain ⟨o0, oG, oH, oD, o19, o20, o21, o22, o23, o24, oK, oV, oP, oM, oS, oY, oHd, oT, oC, oN⟩ := hok
  refine am_e_ss 5 (q := (8, [(0, .inr (.inr (.inl (some 107))))], [.inl (-1), .inl ((I 108 24))], (am_mm D I J ρ))) rfl ?_
  refine am_e_icmp2 rfl ⟨by omega, by omega⟩ ⟨by omega, by omega⟩ (fun (h1 : ¬ (I 108 24) = (-1)) => ?_) (fun (h1 : ¬ (¬ (I 108 24) = (-1))) => ?_)
  · show am_E _ _ _ 15 [(0, .inr (.inr (.inl (some 107))))] [] (am_mm D I J ρ) _
    refine am_e_ss 8 (q := (30, [(0, .inr (.inr (.inl (some 107))))], [.inl (168 + (I 108 24)), .inr (.inr (.inl (some 108)))], (am_mm D I J ρ))) rfl ?_
    refine am_e_iaload (m := 878) rfl rfl (by omega) (by omega) (by omega) ?_
    show am_E _ _ _ 31 [(0, .inr (.inr (.inl (some 107))))] [.inl ((I 108 ((168 + (I 108 24))).toNat))] (am_mm D I J ρ) _
    refine am_e_ireturn rfl rfl ?_
    show (_ : am_R) = _
    unfold sp_come
    (repeat' split) <;> first | (exfalso; omega) | rfl
  · show am_E _ _ _ 11 [(0, .inr (.inr (.inl (some 107))))] [] (am_mm D I J ρ) _
    refine am_e_ss 2 (q := (31, [(0, .inr (.inr (.inl (some 107))))], [.inl 5], (am_mm D I J ρ))) rfl ?_
    refine am_e_ireturn rfl rfl ?_
    show (_ : am_R) = _
    unfold sp_come
    (repeat' split) <;> first | (exfalso; omega) | rfl
theorem r_member {X : Nat × (Nat → Int)} {D : List (Nat × Nat)} {I J : Nat → Nat → Int} {ρ : Nat → Nat → Option Nat} (d : Nat) {B k v : Int} (hk : -2147483648 ≤ k ∧ k < 2147483648) (hv : -2147483648 ≤ v ∧ v < 2147483648) (hok : r_ok (I 108) B) : am_E X (d + 1) 149 0 [(0, .inr (.inr (.inl (some 107)))), (1, .inl k), (2, .inl v)] [] (am_mm D I J ρ) (fun r => r = (some (.inl ((sp_member (I 108) k v).1)), (am_mm D (am_sr I 108 (sp_member (I 108) k v).2) J ρ))) := by
  obtain ⟨o0, oG, oH, oD, o19, o20, o21, o22, o23, o24, oK, oV, oP, oM, oS, oY, oHd, oT, oC, oN⟩ := hok
  refine am_e_ss 3 (q := (4, [(0, .inr (.inr (.inl (some 107)))), (1, .inl k), (2, .inl v)], [.inl 6, .inl 0, .inl k], (am_mm D I J ρ))) rfl ?_
  refine am_e_static (Q := fun r => r = (some (.inl ((am_bi (0 ≤ k ∧ k ≤ 6)))), (am_mm D I J ρ))) rfl (Nat.le_of_ble_eq_true rfl) rfl (Nat.le_of_ble_eq_true rfl) (Nat.le_of_ble_eq_true rfl) (r_in _ ⟨by omega, by omega⟩ ⟨by omega, by omega⟩ ⟨by omega, by omega⟩) ?_
  rintro r rfl
  show am_E _ _ _ 7 [(0, .inr (.inr (.inl (some 107)))), (1, .inl k), (2, .inl v)] [.inl ((am_bi (0 ≤ k ∧ k ≤ 6)))] (am_mm D I J ρ) _
  refine am_e_ifne rfl (fun h1 => ?_) (fun h1 => ?_)
  · show am_E _ _ _ 12 [(0, .inr (.inr (.inl (some 107)))), (1, .inl k), (2, .inl v)] [] (am_mm D I J ρ) _
    refine am_e_ss 3 (q := (16, [(0, .inr (.inr (.inl (some 107)))), (1, .inl k), (2, .inl v)], [.inl 9, .inl 0, .inl v], (am_mm D I J ρ))) rfl ?_
    refine am_e_static (Q := fun r => r = (some (.inl ((am_bi (0 ≤ v ∧ v ≤ 9)))), (am_mm D I J ρ))) rfl (Nat.le_of_ble_eq_true rfl) rfl (Nat.le_of_ble_eq_true rfl) (Nat.le_of_ble_eq_true rfl) (r_in _ ⟨by omega, by omega⟩ ⟨by omega, by omega⟩ ⟨by omega, by omega⟩) ?_
    rintro r rfl
    show am_E _ _ _ 19 [(0, .inr (.inr (.inl (some 107)))), (1, .inl k), (2, .inl v)] [.inl ((am_bi (0 ≤ v ∧ v ≤ 9)))] (am_mm D I J ρ) _
    refine am_e_ifne rfl (fun h2 => ?_) (fun h2 => ?_)
    · show am_E _ _ _ 25 [(0, .inr (.inr (.inl (some 107)))), (1, .inl k), (2, .inl v)] [] (am_mm D I J ρ) _
      refine am_e_ss 5 (q := (34, [(0, .inr (.inr (.inl (some 107)))), (1, .inl k), (2, .inl v)], [.inl 6, .inl ((I 108 19))], (am_mm D I J ρ))) rfl ?_
      refine am_e_icmp2 rfl ⟨by omega, by omega⟩ ⟨by omega, by omega⟩ (fun (h3 : ¬ (I 108 19) = 6) => ?_) (fun (h3 : ¬ (¬ (I 108 19) = 6)) => ?_)
      · show am_E _ _ _ 40 [(0, .inr (.inr (.inl (some 107)))), (1, .inl k), (2, .inl v)] [] (am_mm D I J ρ) _
        refine am_e_ss 11 (q := (57, [(3, .inl ((I 108 19))), (0, .inr (.inr (.inl (some 107)))), (1, .inl k), (2, .inl v)], [.inl k, .inl (26 + (I 108 19)), .inr (.inr (.inl (some 108)))], (am_mm D I J ρ))) rfl ?_
        refine am_e_iastore (m := 878) rfl rfl (by omega) (by omega) (by omega) ?_
        show am_E _ _ _ 58 [(3, .inl ((I 108 19))), (0, .inr (.inr (.inl (some 107)))), (1, .inl k), (2, .inl v)] [] (am_mm D (am_up I 108 ((26 + (I 108 19))).toNat k) J ρ) _
        refine am_e_ss 6 (q := (67, [(3, .inl ((I 108 19))), (0, .inr (.inr (.inl (some 107)))), (1, .inl k), (2, .inl v)], [.inl v, .inl (32 + (I 108 19)), .inr (.inr (.inl (some 108)))], (am_mm D (am_up I 108 ((26 + (I 108 19))).toNat k) J ρ))) rfl ?_
        refine am_e_iastore (m := 878) rfl rfl (by omega) (by omega) (by omega) ?_
        show am_E _ _ _ 68 [(3, .inl ((I 108 19))), (0, .inr (.inr (.inl (some 107)))), (1, .inl k), (2, .inl v)] [] (am_mm D (am_up (am_up I 108 ((26 + (I 108 19))).toNat k) 108 ((32 + (I 108 19))).toNat v) J ρ) _
        refine am_e_ss 6 (q := (76, [(3, .inl ((I 108 19))), (0, .inr (.inr (.inl (some 107)))), (1, .inl k), (2, .inl v)], [.inl 0, .inl (1 + (I 108 19)), .inr (.inr (.inl (some 108)))], (am_mm D (am_up (am_up I 108 ((26 + (I 108 19))).toNat k) 108 ((32 + (I 108 19))).toNat v) J ρ))) rfl ?_
        refine am_e_iastore (m := 878) rfl rfl (by omega) (by omega) (by omega) ?_
        show am_E _ _ _ 77 [(3, .inl ((I 108 19))), (0, .inr (.inr (.inl (some 107)))), (1, .inl k), (2, .inl v)] [] (am_mm D (am_up (am_up (am_up I 108 ((26 + (I 108 19))).toNat k) 108 ((32 + (I 108 19))).toNat v) 108 ((1 + (I 108 19))).toNat 0) J ρ) _
        refine am_e_ss 6 (q := (86, [(3, .inl ((I 108 19))), (0, .inr (.inr (.inl (some 107)))), (1, .inl k), (2, .inl v)], [.inl 0, .inl (7 + (I 108 19)), .inr (.inr (.inl (some 108)))], (am_mm D (am_up (am_up (am_up I 108 ((26 + (I 108 19))).toNat k) 108 ((32 + (I 108 19))).toNat v) 108 ((1 + (I 108 19))).toNat 0) J ρ))) rfl ?_
        refine am_e_iastore (m := 878) rfl rfl (by omega) (by omega) (by omega) ?_
        show am_E _ _ _ 87 [(3, .inl ((I 108 19))), (0, .inr (.inr (.inl (some 107)))), (1, .inl k), (2, .inl v)] [] (am_mm D (am_up (am_up (am_up (am_up I 108 ((26 + (I 108 19))).toNat k) 108 ((32 + (I 108 19))).toNat v) 108 ((1 + (I 108 19))).toNat 0) 108 ((7 + (I 108 19))).toNat 0) J ρ) _
        refine am_e_ss 9 (q := (99, [(3, .inl ((I 108 19))), (0, .inr (.inr (.inl (some 107)))), (1, .inl k), (2, .inl v)], [.inl ((I 108 19))], (am_mm D (am_up (am_up (am_up (am_up (am_up I 108 ((26 + (I 108 19))).toNat k) 108 ((32 + (I 108 19))).toNat v) 108 ((1 + (I 108 19))).toNat 0) 108 ((7 + (I 108 19))).toNat 0) 108 19 (((am_up (am_up (am_up (am_up I 108 ((26 + (I 108 19))).toNat k) 108 ((32 + (I 108 19))).toNat v) 108 ((1 + (I 108 19))).toNat 0) 108 ((7 + (I 108 19))).toNat 0) 108 19) + 1)) J ρ))) rfl ?_
        refine am_e_ireturn rfl rfl ?_
        show (_ : am_R) = _
        try simp only [am_up_sr, am_sr_at, am_sr_sr, am_u1_at, am_u1_ne (show 19 ≠ (26 + I 108 19).toNat by omega), am_u1_ne (show 19 ≠ (32 + I 108 19).toNat by omega), am_u1_ne (show 19 ≠ (1 + I 108 19).toNat by omega), am_u1_ne (show 19 ≠ (7 + I 108 19).toNat by omega)]
        unfold sp_member
        (repeat' split) <;> first | (exfalso; omega) | (simp only [am_sr_self]; done) | rfl
      · show am_E _ _ _ 37 [(0, .inr (.inr (.inl (some 107)))), (1, .inl k), (2, .inl v)] [] (am_mm D I J ρ) _
        refine am_e_ss 1 (q := (39, [(0, .inr (.inr (.inl (some 107)))), (1, .inl k), (2, .inl v)], [.inl (-4)], (am_mm D I J ρ))) rfl ?_
        refine am_e_ireturn rfl rfl ?_
        show (_ : am_R) = _
        try simp only [am_up_sr, am_sr_at, am_sr_sr, am_u1_at, am_u1_ne (show 19 ≠ (26 + I 108 19).toNat by omega), am_u1_ne (show 19 ≠ (32 + I 108 19).toNat by omega), am_u1_ne (show 19 ≠ (1 + I 108 19).toNat by omega), am_u1_ne (show 19 ≠ (7 + I 108 19).toNat by omega)]
        unfold sp_member
        (repeat' split) <;> first | (exfalso; omega) | (simp only [am_sr_self]; done) | rfl
    · show am_E _ _ _ 22 [(0, .inr (.inr (.inl (some 107)))), (1, .inl k), (2, .inl v)] [] (am_mm D I J ρ) _
      refine am_e_ss 1 (q := (24, [(0, .inr (.inr (.inl (some 107)))), (1, .inl k), (2, .inl v)], [.inl (-2)], (am_mm D I J ρ))) rfl ?_
      refine am_e_ireturn rfl rfl ?_
      show (_ : am_R) = _
      try simp only [am_up_sr, am_sr_at, am_sr_sr, am_u1_at, am_u1_ne (show 19 ≠ (26 + I 108 19).toNat by omega), am_u1_ne (show 19 ≠ (32 + I 108 19).toNat by omega), am_u1_ne (show 19 ≠ (1 + I 108 19).toNat by omega), am_u1_ne (show 19 ≠ (7 + I 108 19).toNat by omega)]
      unfold sp_member
      (repeat' split) <;> first | (exfalso; omega) | (simp only [am_sr_self]; done) | rfl
  · show am_E _ _ _ 10 [(0, .inr (.inr (.inl (some 107)))), (1, .inl k), (2, .inl v)] [] (am_mm D I J ρ) _
    refine am_e_ss 1 (q := (11, [(0, .inr (.inr (.inl (some 107)))), (1, .inl k), (2, .inl v)], [.inl (-1)], (am_mm D I J ρ))) rfl ?_
    refine am_e_ireturn rfl rfl ?_
    show (_ : am_R) = _
    try simp only [am_up_sr, am_sr_at, am_sr_sr, am_u1_at, am_u1_ne (show 19 ≠ (26 + I 108 19).toNat by omega), am_u1_ne (show 19 ≠ (32 + I 108 19).toNat by omega), am_u1_ne (show 19 ≠ (1 + I 108 19).toNat by omega), am_u1_ne (show 19 ≠ (7 + I 108 19).toNat by omega)]
    unfold sp_member
    (repeat' split) <;> first | (exfalso; omega) | (simp only [am_sr_self]; done) | rfl
theorem r_book {X : Nat × (Nat → Int)} {D : List (Nat × Nat)} {I J : Nat → Nat → Int} {ρ : Nat → Nat → Option Nat} (d : Nat) {B p q s y : Int} (hp : -2147483648 ≤ p ∧ p < 2147483648) (hq : -2147483648 ≤ q ∧ q < 2147483648) (hs : -2147483648 ≤ s ∧ s < 2147483648) (hy : -2147483648 ≤ y ∧ y < 2147483648) (hok : r_ok (I 108) B) : am_E X (d + 2) 150 0 [(0, .inr (.inr (.inl (some 107)))), (1, .inl p), (2, .inl q), (3, .inl s), (4, .inl y)] [] (am_mm D I J ρ) (fun r => r = (some (.inl ((sp_book (I 108) p q s y).1)), (am_mm D (am_sr I 108 (sp_book (I 108) p q s y).2) J ρ))) := by
  obtain ⟨o0, oG, oH, oD, o19, o20, o21, o22, o23, o24, oK, oV, oP, oM, oS, oY, oHd, oT, oC, oN⟩ := hok
  refine am_e_ss 2 (q := (3, [(0, .inr (.inr (.inl (some 107)))), (1, .inl p), (2, .inl q), (3, .inl s), (4, .inl y)], [.inl y, .inr (.inr (.inl (some 107)))], (am_mm D I J ρ))) rfl ?_
  refine am_e_virtual (Q := fun r => r = (some (.inl ((am_bi (0 ≤ y ∧ y ≤ ((I 108 19) - 1))))), (am_mm D I J ρ))) rfl rfl (Nat.le_of_ble_eq_true rfl) rfl rfl (Nat.le_of_ble_eq_true rfl) (Nat.le_of_ble_eq_true rfl) (r_isMember _ ⟨by omega, by omega⟩ (show 0 ≤ (I 108 19) ∧ (I 108 19) ≤ 6 by omega)) ?_
  rintro r rfl
  show am_E _ _ _ 6 [(0, .inr (.inr (.inl (some 107)))), (1, .inl p), (2, .inl q), (3, .inl s), (4, .inl y)] [.inl ((am_bi (0 ≤ y ∧ y ≤ ((I 108 19) - 1))))] (am_mm D I J ρ) _
  refine am_e_ifne rfl (fun h1 => ?_) (fun h1 => ?_)
  · show am_E _ _ _ 11 [(0, .inr (.inr (.inl (some 107)))), (1, .inl p), (2, .inl q), (3, .inl s), (4, .inl y)] [] (am_mm D I J ρ) _
    refine am_e_ss 3 (q := (15, [(0, .inr (.inr (.inl (some 107)))), (1, .inl p), (2, .inl q), (3, .inl s), (4, .inl y)], [.inl 99, .inl 0, .inl p], (am_mm D I J ρ))) rfl ?_
    refine am_e_static (Q := fun r => r = (some (.inl ((am_bi (0 ≤ p ∧ p ≤ 99)))), (am_mm D I J ρ))) rfl (Nat.le_of_ble_eq_true rfl) rfl (Nat.le_of_ble_eq_true rfl) (Nat.le_of_ble_eq_true rfl) (r_in _ ⟨by omega, by omega⟩ ⟨by omega, by omega⟩ ⟨by omega, by omega⟩) ?_
    rintro r rfl
    show am_E _ _ _ 18 [(0, .inr (.inr (.inl (some 107)))), (1, .inl p), (2, .inl q), (3, .inl s), (4, .inl y)] [.inl ((am_bi (0 ≤ p ∧ p ≤ 99)))] (am_mm D I J ρ) _
    refine am_e_ifeq rfl (fun h2 => ?_) (fun h2 => ?_)
    · show am_E _ _ _ 40 [(0, .inr (.inr (.inl (some 107)))), (1, .inl p), (2, .inl q), (3, .inl s), (4, .inl y)] [] (am_mm D I J ρ) _
      refine am_e_ss 1 (q := (42, [(0, .inr (.inr (.inl (some 107)))), (1, .inl p), (2, .inl q), (3, .inl s), (4, .inl y)], [.inl (-2)], (am_mm D I J ρ))) rfl ?_
      refine am_e_ireturn rfl rfl ?_
      show (_ : am_R) = _
      try simp only [am_up_sr, am_sr_at, am_sr_sr, am_u1_at, am_u1_ne (show 20 ≠ (38 + I 108 20).toNat by omega), am_u1_ne (show 20 ≠ (44 + I 108 20).toNat by omega), am_u1_ne (show 20 ≠ (50 + I 108 20).toNat by omega), am_u1_ne (show 20 ≠ (56 + I 108 20).toNat by omega), am_u1_ne (show 20 ≠ (13 + I 108 20).toNat by omega)]
      unfold sp_book
      (repeat' split) <;> first | (exfalso; omega) | (simp only [am_sr_self]; done) | rfl
    · show am_E _ _ _ 21 [(0, .inr (.inr (.inl (some 107)))), (1, .inl p), (2, .inl q), (3, .inl s), (4, .inl y)] [] (am_mm D I J ρ) _
      refine am_e_ss 3 (q := (25, [(0, .inr (.inr (.inl (some 107)))), (1, .inl p), (2, .inl q), (3, .inl s), (4, .inl y)], [.inl 9, .inl 0, .inl q], (am_mm D I J ρ))) rfl ?_
      refine am_e_static (Q := fun r => r = (some (.inl ((am_bi (0 ≤ q ∧ q ≤ 9)))), (am_mm D I J ρ))) rfl (Nat.le_of_ble_eq_true rfl) rfl (Nat.le_of_ble_eq_true rfl) (Nat.le_of_ble_eq_true rfl) (r_in _ ⟨by omega, by omega⟩ ⟨by omega, by omega⟩ ⟨by omega, by omega⟩) ?_
      rintro r rfl
      show am_E _ _ _ 28 [(0, .inr (.inr (.inl (some 107)))), (1, .inl p), (2, .inl q), (3, .inl s), (4, .inl y)] [.inl ((am_bi (0 ≤ q ∧ q ≤ 9)))] (am_mm D I J ρ) _
      refine am_e_ifeq rfl (fun h3 => ?_) (fun h3 => ?_)
      · show am_E _ _ _ 40 [(0, .inr (.inr (.inl (some 107)))), (1, .inl p), (2, .inl q), (3, .inl s), (4, .inl y)] [] (am_mm D I J ρ) _
        refine am_e_ss 1 (q := (42, [(0, .inr (.inr (.inl (some 107)))), (1, .inl p), (2, .inl q), (3, .inl s), (4, .inl y)], [.inl (-2)], (am_mm D I J ρ))) rfl ?_
        refine am_e_ireturn rfl rfl ?_
        show (_ : am_R) = _
        try simp only [am_up_sr, am_sr_at, am_sr_sr, am_u1_at, am_u1_ne (show 20 ≠ (38 + I 108 20).toNat by omega), am_u1_ne (show 20 ≠ (44 + I 108 20).toNat by omega), am_u1_ne (show 20 ≠ (50 + I 108 20).toNat by omega), am_u1_ne (show 20 ≠ (56 + I 108 20).toNat by omega), am_u1_ne (show 20 ≠ (13 + I 108 20).toNat by omega)]
        unfold sp_book
        (repeat' split) <;> first | (exfalso; omega) | (simp only [am_sr_self]; done) | rfl
      · show am_E _ _ _ 31 [(0, .inr (.inr (.inl (some 107)))), (1, .inl p), (2, .inl q), (3, .inl s), (4, .inl y)] [] (am_mm D I J ρ) _
        refine am_e_ss 3 (q := (34, [(0, .inr (.inr (.inl (some 107)))), (1, .inl p), (2, .inl q), (3, .inl s), (4, .inl y)], [.inl 3, .inl 0, .inl s], (am_mm D I J ρ))) rfl ?_
        refine am_e_static (Q := fun r => r = (some (.inl ((am_bi (0 ≤ s ∧ s ≤ 3)))), (am_mm D I J ρ))) rfl (Nat.le_of_ble_eq_true rfl) rfl (Nat.le_of_ble_eq_true rfl) (Nat.le_of_ble_eq_true rfl) (r_in _ ⟨by omega, by omega⟩ ⟨by omega, by omega⟩ ⟨by omega, by omega⟩) ?_
        rintro r rfl
        show am_E _ _ _ 37 [(0, .inr (.inr (.inl (some 107)))), (1, .inl p), (2, .inl q), (3, .inl s), (4, .inl y)] [.inl ((am_bi (0 ≤ s ∧ s ≤ 3)))] (am_mm D I J ρ) _
        refine am_e_ifne rfl (fun h4 => ?_) (fun h4 => ?_)
        · show am_E _ _ _ 43 [(0, .inr (.inr (.inl (some 107)))), (1, .inl p), (2, .inl q), (3, .inl s), (4, .inl y)] [] (am_mm D I J ρ) _
          refine am_e_ss 5 (q := (52, [(0, .inr (.inr (.inl (some 107)))), (1, .inl p), (2, .inl q), (3, .inl s), (4, .inl y)], [.inl 6, .inl ((I 108 20))], (am_mm D I J ρ))) rfl ?_
          refine am_e_icmp2 rfl ⟨by omega, by omega⟩ ⟨by omega, by omega⟩ (fun (h5 : ¬ (I 108 20) = 6) => ?_) (fun (h5 : ¬ (¬ (I 108 20) = 6)) => ?_)
          · show am_E _ _ _ 58 [(0, .inr (.inr (.inl (some 107)))), (1, .inl p), (2, .inl q), (3, .inl s), (4, .inl y)] [] (am_mm D I J ρ) _
            refine am_e_ss 11 (q := (77, [(5, .inl ((I 108 20))), (0, .inr (.inr (.inl (some 107)))), (1, .inl p), (2, .inl q), (3, .inl s), (4, .inl y)], [.inl p, .inl (38 + (I 108 20)), .inr (.inr (.inl (some 108)))], (am_mm D I J ρ))) rfl ?_
            refine am_e_iastore (m := 878) rfl rfl (by omega) (by omega) (by omega) ?_
            show am_E _ _ _ 78 [(5, .inl ((I 108 20))), (0, .inr (.inr (.inl (some 107)))), (1, .inl p), (2, .inl q), (3, .inl s), (4, .inl y)] [] (am_mm D (am_up I 108 ((38 + (I 108 20))).toNat p) J ρ) _
            refine am_e_ss 6 (q := (88, [(5, .inl ((I 108 20))), (0, .inr (.inr (.inl (some 107)))), (1, .inl p), (2, .inl q), (3, .inl s), (4, .inl y)], [.inl q, .inl (44 + (I 108 20)), .inr (.inr (.inl (some 108)))], (am_mm D (am_up I 108 ((38 + (I 108 20))).toNat p) J ρ))) rfl ?_
            refine am_e_iastore (m := 878) rfl rfl (by omega) (by omega) (by omega) ?_
            show am_E _ _ _ 89 [(5, .inl ((I 108 20))), (0, .inr (.inr (.inl (some 107)))), (1, .inl p), (2, .inl q), (3, .inl s), (4, .inl y)] [] (am_mm D (am_up (am_up I 108 ((38 + (I 108 20))).toNat p) 108 ((44 + (I 108 20))).toNat q) J ρ) _
            refine am_e_ss 6 (q := (99, [(5, .inl ((I 108 20))), (0, .inr (.inr (.inl (some 107)))), (1, .inl p), (2, .inl q), (3, .inl s), (4, .inl y)], [.inl s, .inl (50 + (I 108 20)), .inr (.inr (.inl (some 108)))], (am_mm D (am_up (am_up I 108 ((38 + (I 108 20))).toNat p) 108 ((44 + (I 108 20))).toNat q) J ρ))) rfl ?_
            refine am_e_iastore (m := 878) rfl rfl (by omega) (by omega) (by omega) ?_
            show am_E _ _ _ 100 [(5, .inl ((I 108 20))), (0, .inr (.inr (.inl (some 107)))), (1, .inl p), (2, .inl q), (3, .inl s), (4, .inl y)] [] (am_mm D (am_up (am_up (am_up I 108 ((38 + (I 108 20))).toNat p) 108 ((44 + (I 108 20))).toNat q) 108 ((50 + (I 108 20))).toNat s) J ρ) _
            refine am_e_ss 6 (q := (111, [(5, .inl ((I 108 20))), (0, .inr (.inr (.inl (some 107)))), (1, .inl p), (2, .inl q), (3, .inl s), (4, .inl y)], [.inl y, .inl (56 + (I 108 20)), .inr (.inr (.inl (some 108)))], (am_mm D (am_up (am_up (am_up I 108 ((38 + (I 108 20))).toNat p) 108 ((44 + (I 108 20))).toNat q) 108 ((50 + (I 108 20))).toNat s) J ρ))) rfl ?_
            refine am_e_iastore (m := 878) rfl rfl (by omega) (by omega) (by omega) ?_
            show am_E _ _ _ 112 [(5, .inl ((I 108 20))), (0, .inr (.inr (.inl (some 107)))), (1, .inl p), (2, .inl q), (3, .inl s), (4, .inl y)] [] (am_mm D (am_up (am_up (am_up (am_up I 108 ((38 + (I 108 20))).toNat p) 108 ((44 + (I 108 20))).toNat q) 108 ((50 + (I 108 20))).toNat s) 108 ((56 + (I 108 20))).toNat y) J ρ) _
            refine am_e_ss 6 (q := (122, [(5, .inl ((I 108 20))), (0, .inr (.inr (.inl (some 107)))), (1, .inl p), (2, .inl q), (3, .inl s), (4, .inl y)], [.inl 0, .inl (13 + (I 108 20)), .inr (.inr (.inl (some 108)))], (am_mm D (am_up (am_up (am_up (am_up I 108 ((38 + (I 108 20))).toNat p) 108 ((44 + (I 108 20))).toNat q) 108 ((50 + (I 108 20))).toNat s) 108 ((56 + (I 108 20))).toNat y) J ρ))) rfl ?_
            refine am_e_iastore (m := 878) rfl rfl (by omega) (by omega) (by omega) ?_
            show am_E _ _ _ 123 [(5, .inl ((I 108 20))), (0, .inr (.inr (.inl (some 107)))), (1, .inl p), (2, .inl q), (3, .inl s), (4, .inl y)] [] (am_mm D (am_up (am_up (am_up (am_up (am_up I 108 ((38 + (I 108 20))).toNat p) 108 ((44 + (I 108 20))).toNat q) 108 ((50 + (I 108 20))).toNat s) 108 ((56 + (I 108 20))).toNat y) 108 ((13 + (I 108 20))).toNat 0) J ρ) _
            refine am_e_ss 9 (q := (136, [(5, .inl ((I 108 20))), (0, .inr (.inr (.inl (some 107)))), (1, .inl p), (2, .inl q), (3, .inl s), (4, .inl y)], [.inl ((I 108 20))], (am_mm D (am_up (am_up (am_up (am_up (am_up (am_up I 108 ((38 + (I 108 20))).toNat p) 108 ((44 + (I 108 20))).toNat q) 108 ((50 + (I 108 20))).toNat s) 108 ((56 + (I 108 20))).toNat y) 108 ((13 + (I 108 20))).toNat 0) 108 20 (((am_up (am_up (am_up (am_up (am_up I 108 ((38 + (I 108 20))).toNat p) 108 ((44 + (I 108 20))).toNat q) 108 ((50 + (I 108 20))).toNat s) 108 ((56 + (I 108 20))).toNat y) 108 ((13 + (I 108 20))).toNat 0) 108 20) + 1)) J ρ))) rfl ?_
            refine am_e_ireturn rfl rfl ?_
            show (_ : am_R) = _
            try simp only [am_up_sr, am_sr_at, am_sr_sr, am_u1_at, am_u1_ne (show 20 ≠ (38 + I 108 20).toNat by omega), am_u1_ne (show 20 ≠ (44 + I 108 20).toNat by omega), am_u1_ne (show 20 ≠ (50 + I 108 20).toNat by omega), am_u1_ne (show 20 ≠ (56 + I 108 20).toNat by omega), am_u1_ne (show 20 ≠ (13 + I 108 20).toNat by omega)]
            unfold sp_book
            (repeat' split) <;> first | (exfalso; omega) | (simp only [am_sr_self]; done) | rfl
          · show am_E _ _ _ 55 [(0, .inr (.inr (.inl (some 107)))), (1, .inl p), (2, .inl q), (3, .inl s), (4, .inl y)] [] (am_mm D I J ρ) _
            refine am_e_ss 1 (q := (57, [(0, .inr (.inr (.inl (some 107)))), (1, .inl p), (2, .inl q), (3, .inl s), (4, .inl y)], [.inl (-4)], (am_mm D I J ρ))) rfl ?_
            refine am_e_ireturn rfl rfl ?_
            show (_ : am_R) = _
            try simp only [am_up_sr, am_sr_at, am_sr_sr, am_u1_at, am_u1_ne (show 20 ≠ (38 + I 108 20).toNat by omega), am_u1_ne (show 20 ≠ (44 + I 108 20).toNat by omega), am_u1_ne (show 20 ≠ (50 + I 108 20).toNat by omega), am_u1_ne (show 20 ≠ (56 + I 108 20).toNat by omega), am_u1_ne (show 20 ≠ (13 + I 108 20).toNat by omega)]
            unfold sp_book
            (repeat' split) <;> first | (exfalso; omega) | (simp only [am_sr_self]; done) | rfl
        · show am_E _ _ _ 40 [(0, .inr (.inr (.inl (some 107)))), (1, .inl p), (2, .inl q), (3, .inl s), (4, .inl y)] [] (am_mm D I J ρ) _
          refine am_e_ss 1 (q := (42, [(0, .inr (.inr (.inl (some 107)))), (1, .inl p), (2, .inl q), (3, .inl s), (4, .inl y)], [.inl (-2)], (am_mm D I J ρ))) rfl ?_
          refine am_e_ireturn rfl rfl ?_
          show (_ : am_R) = _
          try simp only [am_up_sr, am_sr_at, am_sr_sr, am_u1_at, am_u1_ne (show 20 ≠ (38 + I 108 20).toNat by omega), am_u1_ne (show 20 ≠ (44 + I 108 20).toNat by omega), am_u1_ne (show 20 ≠ (50 + I 108 20).toNat by omega), am_u1_ne (show 20 ≠ (56 + I 108 20).toNat by omega), am_u1_ne (show 20 ≠ (13 + I 108 20).toNat by omega)]
          unfold sp_book
          (repeat' split) <;> first | (exfalso; omega) | (simp only [am_sr_self]; done) | rfl
  · show am_E _ _ _ 9 [(0, .inr (.inr (.inl (some 107)))), (1, .inl p), (2, .inl q), (3, .inl s), (4, .inl y)] [] (am_mm D I J ρ) _
    refine am_e_ss 1 (q := (10, [(0, .inr (.inr (.inl (some 107)))), (1, .inl p), (2, .inl q), (3, .inl s), (4, .inl y)], [.inl (-1)], (am_mm D I J ρ))) rfl ?_
    refine am_e_ireturn rfl rfl ?_
    show (_ : am_R) = _
    try simp only [am_up_sr, am_sr_at, am_sr_sr, am_u1_at, am_u1_ne (show 20 ≠ (38 + I 108 20).toNat by omega), am_u1_ne (show 20 ≠ (44 + I 108 20).toNat by omega), am_u1_ne (show 20 ≠ (50 + I 108 20).toNat by omega), am_u1_ne (show 20 ≠ (56 + I 108 20).toNat by omega), am_u1_ne (show 20 ≠ (13 + I 108 20).toNat by omega)]
    unfold sp_book
    (repeat' split) <;> first | (exfalso; omega) | (simp only [am_sr_self]; done) | rfl
theorem r_of {X : Nat × (Nat → Int)} {D : List (Nat × Nat)} {I J : Nat → Nat → Int} {ρ : Nat → Nat → Option Nat} (d : Nat) {B m v : Int} (hm : -2147483648 ≤ m ∧ m < 2147483648) (hv : -2147483648 ≤ v ∧ v < 2147483648) (hok : r_ok (I 108) B) : am_E X (d + 2) 151 0 [(0, .inr (.inr (.inl (some 107)))), (1, .inl m), (2, .inl v)] [] (am_mm D I J ρ) (fun r => r = (some (.inl ((sp_of (I 108) m v))), (am_mm D I J ρ))) := by
  obtain ⟨o0, oG, oH, oD, o19, o20, o21, o22, o23, o24, oK, oV, oP, oM, oS, oY, oHd, oT, oC, oN⟩ := hok
  refine am_e_ss 2 (q := (2, [(0, .inr (.inr (.inl (some 107)))), (1, .inl m), (2, .inl v)], [.inl m, .inr (.inr (.inl (some 107)))], (am_mm D I J ρ))) rfl ?_
  refine am_e_virtual (Q := fun r => r = (some (.inl ((am_bi (0 ≤ m ∧ m ≤ ((I 108 19) - 1))))), (am_mm D I J ρ))) rfl rfl (Nat.le_of_ble_eq_true rfl) rfl rfl (Nat.le_of_ble_eq_true rfl) (Nat.le_of_ble_eq_true rfl) (r_isMember _ ⟨by omega, by omega⟩ (show 0 ≤ (I 108 19) ∧ (I 108 19) ≤ 6 by omega)) ?_
  rintro r rfl
  show am_E _ _ _ 5 [(0, .inr (.inr (.inl (some 107)))), (1, .inl m), (2, .inl v)] [.inl ((am_bi (0 ≤ m ∧ m ≤ ((I 108 19) - 1))))] (am_mm D I J ρ) _
  refine am_e_ifeq rfl (fun h1 => ?_) (fun h1 => ?_)
  · show am_E _ _ _ 17 [(0, .inr (.inr (.inl (some 107)))), (1, .inl m), (2, .inl v)] [] (am_mm D I J ρ) _
    refine am_e_ss 1 (q := (20, [(0, .inr (.inr (.inl (some 107)))), (1, .inl m), (2, .inl v)], [.inl (-10001)], (am_mm D I J ρ))) rfl ?_
    refine am_e_ireturn rfl rfl ?_
    show (_ : am_R) = _
    try simp only [am_up_sr, am_sr_at, am_sr_sr, am_u1_at]
    unfold sp_of
    (repeat' split) <;> first | (exfalso; omega) | (simp only [am_sr_self]; done) | rfl
  · show am_E _ _ _ 8 [(0, .inr (.inr (.inl (some 107)))), (1, .inl m), (2, .inl v)] [] (am_mm D I J ρ) _
    refine am_e_ss 3 (q := (11, [(0, .inr (.inr (.inl (some 107)))), (1, .inl m), (2, .inl v)], [.inl 3, .inl 0, .inl v], (am_mm D I J ρ))) rfl ?_
    refine am_e_static (Q := fun r => r = (some (.inl ((am_bi (0 ≤ v ∧ v ≤ 3)))), (am_mm D I J ρ))) rfl (Nat.le_of_ble_eq_true rfl) rfl (Nat.le_of_ble_eq_true rfl) (Nat.le_of_ble_eq_true rfl) (r_in _ ⟨by omega, by omega⟩ ⟨by omega, by omega⟩ ⟨by omega, by omega⟩) ?_
    rintro r rfl
    show am_E _ _ _ 14 [(0, .inr (.inr (.inl (some 107)))), (1, .inl m), (2, .inl v)] [.inl ((am_bi (0 ≤ v ∧ v ≤ 3)))] (am_mm D I J ρ) _
    refine am_e_ifne rfl (fun h2 => ?_) (fun h2 => ?_)
    · show am_E _ _ _ 21 [(0, .inr (.inr (.inl (some 107)))), (1, .inl m), (2, .inl v)] [] (am_mm D I J ρ) _
      refine am_e_ss 1 (q := (22, [(0, .inr (.inr (.inl (some 107)))), (1, .inl m), (2, .inl v)], [.inl v], (am_mm D I J ρ))) rfl ?_
      rcases (show v < 0 ∨ v = 0 ∨ v = 1 ∨ v = 2 ∨ 2 < v by omega) with h3 | h3 | h3 | h3 | h3
      · refine am_e_tabOut (t := 77) rfl ⟨by omega, by omega⟩ (by omega) rfl ?_
        refine am_e_ss 6 (q := (86, [(0, .inr (.inr (.inl (some 107)))), (1, .inl m), (2, .inl v)], [.inl (7 + m), .inr (.inr (.inl (some 108))), .inl 1], (am_mm D I J ρ))) rfl ?_
        refine am_e_iaload (m := 878) rfl rfl (by omega) (by omega) (by omega) ?_
        show am_E _ _ _ 87 [(0, .inr (.inr (.inl (some 107)))), (1, .inl m), (2, .inl v)] [.inl ((I 108 ((7 + m)).toNat)), .inl 1] (am_mm D I J ρ) _
        refine am_e_ss 1 (q := (88, [(0, .inr (.inr (.inl (some 107)))), (1, .inl m), (2, .inl v)], [.inl (1 - (I 108 ((7 + m)).toNat))], (am_mm D I J ρ))) rfl ?_
        refine am_e_ireturn rfl rfl ?_
        show (_ : am_R) = _
        try simp only [am_up_sr, am_sr_at, am_sr_sr, am_u1_at]
        unfold sp_of
        (repeat' split) <;> first | (exfalso; omega) | (simp only [am_sr_self]; done) | rfl
      · refine am_e_tabIn (t := 48) (off := 26) rfl ⟨by omega, by omega⟩ (by omega) (by rw [h3]; rfl) rfl ?_
        refine am_e_ss 5 (q := (56, [(0, .inr (.inr (.inl (some 107)))), (1, .inl m), (2, .inl v)], [.inl (26 + m), .inr (.inr (.inl (some 108)))], (am_mm D I J ρ))) rfl ?_
        refine am_e_iaload (m := 878) rfl rfl (by omega) (by omega) (by omega) ?_
        show am_E _ _ _ 57 [(0, .inr (.inr (.inl (some 107)))), (1, .inl m), (2, .inl v)] [.inl ((I 108 ((26 + m)).toNat))] (am_mm D I J ρ) _
        refine am_e_ireturn rfl rfl ?_
        show (_ : am_R) = _
        try simp only [am_up_sr, am_sr_at, am_sr_sr, am_u1_at]
        unfold sp_of
        (repeat' split) <;> first | (exfalso; omega) | (simp only [am_sr_self]; done) | rfl
      · refine am_e_tabIn (t := 58) (off := 36) rfl ⟨by omega, by omega⟩ (by omega) (by rw [h3]; rfl) rfl ?_
        refine am_e_ss 5 (q := (66, [(0, .inr (.inr (.inl (some 107)))), (1, .inl m), (2, .inl v)], [.inl (32 + m), .inr (.inr (.inl (some 108)))], (am_mm D I J ρ))) rfl ?_
        refine am_e_iaload (m := 878) rfl rfl (by omega) (by omega) (by omega) ?_
        show am_E _ _ _ 67 [(0, .inr (.inr (.inl (some 107)))), (1, .inl m), (2, .inl v)] [.inl ((I 108 ((32 + m)).toNat))] (am_mm D I J ρ) _
        refine am_e_ireturn rfl rfl ?_
        show (_ : am_R) = _
        try simp only [am_up_sr, am_sr_at, am_sr_sr, am_u1_at]
        unfold sp_of
        (repeat' split) <;> first | (exfalso; omega) | (simp only [am_sr_self]; done) | rfl
      · refine am_e_tabIn (t := 68) (off := 46) rfl ⟨by omega, by omega⟩ (by omega) (by rw [h3]; rfl) rfl ?_
        refine am_e_ss 5 (q := (75, [(0, .inr (.inr (.inl (some 107)))), (1, .inl m), (2, .inl v)], [.inl (1 + m), .inr (.inr (.inl (some 108)))], (am_mm D I J ρ))) rfl ?_
        refine am_e_iaload (m := 878) rfl rfl (by omega) (by omega) (by omega) ?_
        show am_E _ _ _ 76 [(0, .inr (.inr (.inl (some 107)))), (1, .inl m), (2, .inl v)] [.inl ((I 108 ((1 + m)).toNat))] (am_mm D I J ρ) _
        refine am_e_ireturn rfl rfl ?_
        show (_ : am_R) = _
        try simp only [am_up_sr, am_sr_at, am_sr_sr, am_u1_at]
        unfold sp_of
        (repeat' split) <;> first | (exfalso; omega) | (simp only [am_sr_self]; done) | rfl
      · refine am_e_tabOut (t := 77) rfl ⟨by omega, by omega⟩ (by omega) rfl ?_
        refine am_e_ss 6 (q := (86, [(0, .inr (.inr (.inl (some 107)))), (1, .inl m), (2, .inl v)], [.inl (7 + m), .inr (.inr (.inl (some 108))), .inl 1], (am_mm D I J ρ))) rfl ?_
        refine am_e_iaload (m := 878) rfl rfl (by omega) (by omega) (by omega) ?_
        show am_E _ _ _ 87 [(0, .inr (.inr (.inl (some 107)))), (1, .inl m), (2, .inl v)] [.inl ((I 108 ((7 + m)).toNat)), .inl 1] (am_mm D I J ρ) _
        refine am_e_ss 1 (q := (88, [(0, .inr (.inr (.inl (some 107)))), (1, .inl m), (2, .inl v)], [.inl (1 - (I 108 ((7 + m)).toNat))], (am_mm D I J ρ))) rfl ?_
        refine am_e_ireturn rfl rfl ?_
        show (_ : am_R) = _
        try simp only [am_up_sr, am_sr_at, am_sr_sr, am_u1_at]
        unfold sp_of
        (repeat' split) <;> first | (exfalso; omega) | (simp only [am_sr_self]; done) | rfl
    · show am_E _ _ _ 17 [(0, .inr (.inr (.inl (some 107)))), (1, .inl m), (2, .inl v)] [] (am_mm D I J ρ) _
      refine am_e_ss 1 (q := (20, [(0, .inr (.inr (.inl (some 107)))), (1, .inl m), (2, .inl v)], [.inl (-10001)], (am_mm D I J ρ))) rfl ?_
      refine am_e_ireturn rfl rfl ?_
      show (_ : am_R) = _
      try simp only [am_up_sr, am_sr_at, am_sr_sr, am_u1_at]
      unfold sp_of
      (repeat' split) <;> first | (exfalso; omega) | (simp only [am_sr_self]; done) | rfl
theorem r_at {X : Nat × (Nat → Int)} {D : List (Nat × Nat)} {I J : Nat → Nat → Int} {ρ : Nat → Nat → Option Nat} (d : Nat) {B b v : Int} (hb : -2147483648 ≤ b ∧ b < 2147483648) (hv : -2147483648 ≤ v ∧ v < 2147483648) (hok : r_ok (I 108) B) : am_E X (d + 2) 152 0 [(0, .inr (.inr (.inl (some 107)))), (1, .inl b), (2, .inl v)] [] (am_mm D I J ρ) (fun r => r = (some (.inl ((sp_at (I 108) b v))), (am_mm D I J ρ))) := by
  obtain ⟨o0, oG, oH, oD, o19, o20, o21, o22, o23, o24, oK, oV, oP, oM, oS, oY, oHd, oT, oC, oN⟩ := hok
  refine am_e_ss 2 (q := (2, [(0, .inr (.inr (.inl (some 107)))), (1, .inl b), (2, .inl v)], [.inl b, .inr (.inr (.inl (some 107)))], (am_mm D I J ρ))) rfl ?_
  refine am_e_virtual (Q := fun r => r = (some (.inl ((am_bi (0 ≤ b ∧ b ≤ ((I 108 20) - 1))))), (am_mm D I J ρ))) rfl rfl (Nat.le_of_ble_eq_true rfl) rfl rfl (Nat.le_of_ble_eq_true rfl) (Nat.le_of_ble_eq_true rfl) (r_isBook _ ⟨by omega, by omega⟩ (show 0 ≤ (I 108 20) ∧ (I 108 20) ≤ 6 by omega)) ?_
  rintro r rfl
  show am_E _ _ _ 5 [(0, .inr (.inr (.inl (some 107)))), (1, .inl b), (2, .inl v)] [.inl ((am_bi (0 ≤ b ∧ b ≤ ((I 108 20) - 1))))] (am_mm D I J ρ) _
  refine am_e_ifeq rfl (fun h1 => ?_) (fun h1 => ?_)
  · show am_E _ _ _ 17 [(0, .inr (.inr (.inl (some 107)))), (1, .inl b), (2, .inl v)] [] (am_mm D I J ρ) _
    refine am_e_ss 1 (q := (18, [(0, .inr (.inr (.inl (some 107)))), (1, .inl b), (2, .inl v)], [.inl (-1)], (am_mm D I J ρ))) rfl ?_
    refine am_e_ireturn rfl rfl ?_
    show (_ : am_R) = _
    try simp only [am_up_sr, am_sr_at, am_sr_sr, am_u1_at]
    unfold sp_at
    (repeat' split) <;> first | (exfalso; omega) | (simp only [am_sr_self]; done) | rfl
  · show am_E _ _ _ 8 [(0, .inr (.inr (.inl (some 107)))), (1, .inl b), (2, .inl v)] [] (am_mm D I J ρ) _
    refine am_e_ss 3 (q := (11, [(0, .inr (.inr (.inl (some 107)))), (1, .inl b), (2, .inl v)], [.inl 4, .inl 0, .inl v], (am_mm D I J ρ))) rfl ?_
    refine am_e_static (Q := fun r => r = (some (.inl ((am_bi (0 ≤ v ∧ v ≤ 4)))), (am_mm D I J ρ))) rfl (Nat.le_of_ble_eq_true rfl) rfl (Nat.le_of_ble_eq_true rfl) (Nat.le_of_ble_eq_true rfl) (r_in _ ⟨by omega, by omega⟩ ⟨by omega, by omega⟩ ⟨by omega, by omega⟩) ?_
    rintro r rfl
    show am_E _ _ _ 14 [(0, .inr (.inr (.inl (some 107)))), (1, .inl b), (2, .inl v)] [.inl ((am_bi (0 ≤ v ∧ v ≤ 4)))] (am_mm D I J ρ) _
    refine am_e_ifne rfl (fun h2 => ?_) (fun h2 => ?_)
    · show am_E _ _ _ 19 [(0, .inr (.inr (.inl (some 107)))), (1, .inl b), (2, .inl v)] [] (am_mm D I J ρ) _
      refine am_e_ss 2 (q := (21, [(0, .inr (.inr (.inl (some 107)))), (1, .inl b), (2, .inl v)], [.inl 4, .inl v], (am_mm D I J ρ))) rfl ?_
      refine am_e_icmp2 rfl ⟨by omega, by omega⟩ ⟨by omega, by omega⟩ (fun (h3 : ¬ v = 4) => ?_) (fun (h3 : ¬ (¬ v = 4)) => ?_)
      · show am_E _ _ _ 36 [(0, .inr (.inr (.inl (some 107)))), (1, .inl b), (2, .inl v)] [] (am_mm D I J ρ) _
        refine am_e_ss 9 (q := (49, [(0, .inr (.inr (.inl (some 107)))), (1, .inl b), (2, .inl v)], [.inl ((38 + (6 * v)) + b), .inr (.inr (.inl (some 108)))], (am_mm D I J ρ))) rfl ?_
        refine am_e_iaload (m := 878) rfl rfl (by omega) (by omega) (by omega) ?_
        show am_E _ _ _ 50 [(0, .inr (.inr (.inl (some 107)))), (1, .inl b), (2, .inl v)] [.inl ((I 108 (((38 + (6 * v)) + b)).toNat))] (am_mm D I J ρ) _
        refine am_e_ireturn rfl rfl ?_
        show (_ : am_R) = _
        try simp only [am_up_sr, am_sr_at, am_sr_sr, am_u1_at]
        unfold sp_at
        (repeat' split) <;> first | (exfalso; omega) | (simp only [am_sr_self]; done) | rfl
      · show am_E _ _ _ 24 [(0, .inr (.inr (.inl (some 107)))), (1, .inl b), (2, .inl v)] [] (am_mm D I J ρ) _
        refine am_e_ss 5 (q := (32, [(0, .inr (.inr (.inl (some 107)))), (1, .inl b), (2, .inl v)], [.inl (13 + b), .inr (.inr (.inl (some 108)))], (am_mm D I J ρ))) rfl ?_
        refine am_e_iaload (m := 878) rfl rfl (by omega) (by omega) (by omega) ?_
        show am_E _ _ _ 33 [(0, .inr (.inr (.inl (some 107)))), (1, .inl b), (2, .inl v)] [.inl ((I 108 ((13 + b)).toNat))] (am_mm D I J ρ) _
        refine am_e_ss 1 (q := (50, [(0, .inr (.inr (.inl (some 107)))), (1, .inl b), (2, .inl v)], [.inl ((I 108 ((13 + b)).toNat))], (am_mm D I J ρ))) rfl ?_
        refine am_e_ireturn rfl rfl ?_
        show (_ : am_R) = _
        try simp only [am_up_sr, am_sr_at, am_sr_sr, am_u1_at]
        unfold sp_at
        (repeat' split) <;> first | (exfalso; omega) | (simp only [am_sr_self]; done) | rfl
    · show am_E _ _ _ 17 [(0, .inr (.inr (.inl (some 107)))), (1, .inl b), (2, .inl v)] [] (am_mm D I J ρ) _
      refine am_e_ss 1 (q := (18, [(0, .inr (.inr (.inl (some 107)))), (1, .inl b), (2, .inl v)], [.inl (-1)], (am_mm D I J ρ))) rfl ?_
      refine am_e_ireturn rfl rfl ?_
      show (_ : am_R) = _
      try simp only [am_up_sr, am_sr_at, am_sr_sr, am_u1_at]
      unfold sp_at
      (repeat' split) <;> first | (exfalso; omega) | (simp only [am_sr_self]; done) | rfl
theorem r_had {X : Nat × (Nat → Int)} {D : List (Nat × Nat)} {I J : Nat → Nat → Int} {ρ : Nat → Nat → Option Nat} (d : Nat) {B b v : Int} (hb : -2147483648 ≤ b ∧ b < 2147483648) (hv : v = 0 ∨ v = 1) (hok : r_ok (I 108) B) : am_E X (d + 2) 157 0 [(0, .inr (.inr (.inl (some 107)))), (1, .inl b), (2, .inl v)] [] (am_mm D I J ρ) (fun r => r = (some (.inl ((sp_had (I 108) b v).1)), (am_mm D (am_sr I 108 (sp_had (I 108) b v).2) J ρ))) := by
  obtain ⟨o0, oG, oH, oD, o19, o20, o21, o22, o23, o24, oK, oV, oP, oM, oS, oY, oHd, oT, oC, oN⟩ := hok
  refine am_e_ss 2 (q := (2, [(0, .inr (.inr (.inl (some 107)))), (1, .inl b), (2, .inl v)], [.inl b, .inr (.inr (.inl (some 107)))], (am_mm D I J ρ))) rfl ?_
  refine am_e_virtual (Q := fun r => r = (some (.inl ((am_bi (0 ≤ b ∧ b ≤ ((I 108 20) - 1))))), (am_mm D I J ρ))) rfl rfl (Nat.le_of_ble_eq_true rfl) rfl rfl (Nat.le_of_ble_eq_true rfl) (Nat.le_of_ble_eq_true rfl) (r_isBook _ ⟨by omega, by omega⟩ (show 0 ≤ (I 108 20) ∧ (I 108 20) ≤ 6 by omega)) ?_
  rintro r rfl
  show am_E _ _ _ 5 [(0, .inr (.inr (.inl (some 107)))), (1, .inl b), (2, .inl v)] [.inl ((am_bi (0 ≤ b ∧ b ≤ ((I 108 20) - 1))))] (am_mm D I J ρ) _
  refine am_e_ifne rfl (fun h1 => ?_) (fun h1 => ?_)
  · show am_E _ _ _ 10 [(0, .inr (.inr (.inl (some 107)))), (1, .inl b), (2, .inl v)] [] (am_mm D I J ρ) _
    refine am_e_ss 5 (q := (18, [(0, .inr (.inr (.inl (some 107)))), (1, .inl b), (2, .inl v)], [.inl (13 + b), .inr (.inr (.inl (some 108)))], (am_mm D I J ρ))) rfl ?_
    refine am_e_iaload (m := 878) rfl rfl (by omega) (by omega) (by omega) ?_
    show am_E _ _ _ 19 [(0, .inr (.inr (.inl (some 107)))), (1, .inl b), (2, .inl v)] [.inl ((I 108 ((13 + b)).toNat))] (am_mm D I J ρ) _
    refine am_e_ss 7 (q := (29, [(3, .inl ((I 108 ((13 + b)).toNat))), (0, .inr (.inr (.inl (some 107)))), (1, .inl b), (2, .inl v)], [.inl v, .inl (13 + b), .inr (.inr (.inl (some 108)))], (am_mm D I J ρ))) rfl ?_
    refine am_e_if2 rfl ⟨by omega, by omega⟩ (fun (h2 : v = 0) => ?_) (fun (h2 : ¬ (v = 0)) => ?_)
    · show am_E _ _ _ 36 [(3, .inl ((I 108 ((13 + b)).toNat))), (0, .inr (.inr (.inl (some 107)))), (1, .inl b), (2, .inl v)] [.inl (13 + b), .inr (.inr (.inl (some 108)))] (am_mm D I J ρ) _
      refine am_e_ss 1 (q := (37, [(3, .inl ((I 108 ((13 + b)).toNat))), (0, .inr (.inr (.inl (some 107)))), (1, .inl b), (2, .inl v)], [.inl 0, .inl (13 + b), .inr (.inr (.inl (some 108)))], (am_mm D I J ρ))) rfl ?_
      refine am_e_iastore (m := 878) rfl rfl (by omega) (by omega) (by omega) ?_
      show am_E _ _ _ 38 [(3, .inl ((I 108 ((13 + b)).toNat))), (0, .inr (.inr (.inl (some 107)))), (1, .inl b), (2, .inl v)] [] (am_mm D (am_up I 108 ((13 + b)).toNat 0) J ρ) _
      refine am_e_ss 1 (q := (39, [(3, .inl ((I 108 ((13 + b)).toNat))), (0, .inr (.inr (.inl (some 107)))), (1, .inl b), (2, .inl v)], [.inl ((I 108 ((13 + b)).toNat))], (am_mm D (am_up I 108 ((13 + b)).toNat 0) J ρ))) rfl ?_
      refine am_e_ireturn rfl rfl ?_
      show (_ : am_R) = _
      have e9 : v = 0 := by omega
      subst e9
      try simp only [am_up_sr, am_sr_at, am_sr_sr, am_u1_at]
      unfold sp_had
      (repeat' split) <;> first | (exfalso; omega) | (simp only [am_sr_self]; done) | rfl
    · show am_E _ _ _ 32 [(3, .inl ((I 108 ((13 + b)).toNat))), (0, .inr (.inr (.inl (some 107)))), (1, .inl b), (2, .inl v)] [.inl (13 + b), .inr (.inr (.inl (some 108)))] (am_mm D I J ρ) _
      refine am_e_ss 2 (q := (37, [(3, .inl ((I 108 ((13 + b)).toNat))), (0, .inr (.inr (.inl (some 107)))), (1, .inl b), (2, .inl v)], [.inl 1, .inl (13 + b), .inr (.inr (.inl (some 108)))], (am_mm D I J ρ))) rfl ?_
      refine am_e_iastore (m := 878) rfl rfl (by omega) (by omega) (by omega) ?_
      show am_E _ _ _ 38 [(3, .inl ((I 108 ((13 + b)).toNat))), (0, .inr (.inr (.inl (some 107)))), (1, .inl b), (2, .inl v)] [] (am_mm D (am_up I 108 ((13 + b)).toNat 1) J ρ) _
      refine am_e_ss 1 (q := (39, [(3, .inl ((I 108 ((13 + b)).toNat))), (0, .inr (.inr (.inl (some 107)))), (1, .inl b), (2, .inl v)], [.inl ((I 108 ((13 + b)).toNat))], (am_mm D (am_up I 108 ((13 + b)).toNat 1) J ρ))) rfl ?_
      refine am_e_ireturn rfl rfl ?_
      show (_ : am_R) = _
      have e9 : v = 1 := by omega
      subst e9
      try simp only [am_up_sr, am_sr_at, am_sr_sr, am_u1_at]
      unfold sp_had
      (repeat' split) <;> first | (exfalso; omega) | (simp only [am_sr_self]; done) | rfl
  · show am_E _ _ _ 8 [(0, .inr (.inr (.inl (some 107)))), (1, .inl b), (2, .inl v)] [] (am_mm D I J ρ) _
    refine am_e_ss 1 (q := (9, [(0, .inr (.inr (.inl (some 107)))), (1, .inl b), (2, .inl v)], [.inl (-1)], (am_mm D I J ρ))) rfl ?_
    refine am_e_ireturn rfl rfl ?_
    show (_ : am_R) = _
    try simp only [am_up_sr, am_sr_at, am_sr_sr, am_u1_at]
    unfold sp_had
    (repeat' split) <;> first | (exfalso; omega) | (simp only [am_sr_self]; done) | rfl
theorem r_hand {X : Nat × (Nat → Int)} {D : List (Nat × Nat)} {I J : Nat → Nat → Int} {ρ : Nat → Nat → Option Nat} (d : Nat) {B n : Int} (hn : -2147483648 ≤ n ∧ n < 2147483648) (hok : r_ok (I 108) B) : am_E X (d + 1) 201 0 [(0, .inr (.inr (.inl (some 107)))), (1, .inl n)] [] (am_mm D I J ρ) (fun r => r = (some (.inl ((sp_hand (I 108) n).1)), (am_mm D (am_sr I 108 (sp_hand (I 108) n).2) J ρ))) := by
  obtain ⟨o0, oG, oH, oD, o19, o20, o21, o22, o23, o24, oK, oV, oP, oM, oS, oY, oHd, oT, oC, oN⟩ := hok
  refine am_e_ss 2 (q := (2, [(0, .inr (.inr (.inl (some 107)))), (1, .inl n)], [.inl (-1), .inl n], (am_mm D I J ρ))) rfl ?_
  refine am_e_icmp2 rfl ⟨by omega, by omega⟩ ⟨by omega, by omega⟩ (fun (h1 : ¬ n = (-1)) => ?_) (fun (h1 : ¬ (¬ n = (-1))) => ?_)
  · show am_E _ _ _ 15 [(0, .inr (.inr (.inl (some 107)))), (1, .inl n)] [] (am_mm D I J ρ) _
    refine am_e_ss 3 (q := (19, [(0, .inr (.inr (.inl (some 107)))), (1, .inl n)], [.inl 12, .inl 0, .inl n], (am_mm D I J ρ))) rfl ?_
    refine am_e_static (Q := fun r => r = (some (.inl ((am_bi (0 ≤ n ∧ n ≤ 12)))), (am_mm D I J ρ))) rfl (Nat.le_of_ble_eq_true rfl) rfl (Nat.le_of_ble_eq_true rfl) (Nat.le_of_ble_eq_true rfl) (r_in _ ⟨by omega, by omega⟩ ⟨by omega, by omega⟩ ⟨by omega, by omega⟩) ?_
    rintro r rfl
    show am_E _ _ _ 22 [(0, .inr (.inr (.inl (some 107)))), (1, .inl n)] [.inl ((am_bi (0 ≤ n ∧ n ≤ 12)))] (am_mm D I J ρ) _
    refine am_e_ifne rfl (fun h2 => ?_) (fun h2 => ?_)
    · show am_E _ _ _ 28 [(0, .inr (.inr (.inl (some 107)))), (1, .inl n)] [] (am_mm D I J ρ) _
      refine am_e_ss 5 (q := (37, [(0, .inr (.inr (.inl (some 107)))), (1, .inl n)], [.inl 6, .inl ((I 108 22))], (am_mm D I J ρ))) rfl ?_
      refine am_e_icmp2 rfl ⟨by omega, by omega⟩ ⟨by omega, by omega⟩ (fun (h3 : ¬ (I 108 22) = 6) => ?_) (fun (h3 : ¬ (¬ (I 108 22) = 6)) => ?_)
      · show am_E _ _ _ 43 [(0, .inr (.inr (.inl (some 107)))), (1, .inl n)] [] (am_mm D I J ρ) _
        refine am_e_ss 9 (q := (58, [(0, .inr (.inr (.inl (some 107)))), (1, .inl n)], [.inl n, .inl (62 + (I 108 22)), .inr (.inr (.inl (some 108)))], (am_mm D I J ρ))) rfl ?_
        refine am_e_iastore (m := 878) rfl rfl (by omega) (by omega) (by omega) ?_
        show am_E _ _ _ 59 [(0, .inr (.inr (.inl (some 107)))), (1, .inl n)] [] (am_mm D (am_up I 108 ((62 + (I 108 22))).toNat n) J ρ) _
        refine am_e_ss 12 (q := (77, [(0, .inr (.inr (.inl (some 107)))), (1, .inl n)], [.inl ((((am_up I 108 ((62 + (I 108 22))).toNat n) 108 22) + 1))], (am_mm D (am_up (am_up I 108 ((62 + (I 108 22))).toNat n) 108 22 (((am_up I 108 ((62 + (I 108 22))).toNat n) 108 22) + 1)) J ρ))) rfl ?_
        refine am_e_ireturn rfl rfl ?_
        show (_ : am_R) = _
        try simp only [am_up_sr, am_sr_at, am_sr_sr, am_u1_at, am_u1_ne (show 22 ≠ (62 + I 108 22).toNat by omega)]
        unfold sp_hand
        (repeat' split) <;> first | (exfalso; omega) | (simp only [am_sr_self]; done) | rfl
      · show am_E _ _ _ 40 [(0, .inr (.inr (.inl (some 107)))), (1, .inl n)] [] (am_mm D I J ρ) _
        refine am_e_ss 1 (q := (42, [(0, .inr (.inr (.inl (some 107)))), (1, .inl n)], [.inl (-4)], (am_mm D I J ρ))) rfl ?_
        refine am_e_ireturn rfl rfl ?_
        show (_ : am_R) = _
        try simp only [am_up_sr, am_sr_at, am_sr_sr, am_u1_at, am_u1_ne (show 22 ≠ (62 + I 108 22).toNat by omega)]
        unfold sp_hand
        (repeat' split) <;> first | (exfalso; omega) | (simp only [am_sr_self]; done) | rfl
    · show am_E _ _ _ 25 [(0, .inr (.inr (.inl (some 107)))), (1, .inl n)] [] (am_mm D I J ρ) _
      refine am_e_ss 1 (q := (27, [(0, .inr (.inr (.inl (some 107)))), (1, .inl n)], [.inl (-2)], (am_mm D I J ρ))) rfl ?_
      refine am_e_ireturn rfl rfl ?_
      show (_ : am_R) = _
      try simp only [am_up_sr, am_sr_at, am_sr_sr, am_u1_at, am_u1_ne (show 22 ≠ (62 + I 108 22).toNat by omega)]
      unfold sp_hand
      (repeat' split) <;> first | (exfalso; omega) | (simp only [am_sr_self]; done) | rfl
  · show am_E _ _ _ 5 [(0, .inr (.inr (.inl (some 107)))), (1, .inl n)] [] (am_mm D I J ρ) _
    refine am_e_ss 6 (q := (14, [(0, .inr (.inr (.inl (some 107)))), (1, .inl n)], [.inl 0], (am_mm D (am_up I 108 22 0) J ρ))) rfl ?_
    refine am_e_ireturn rfl rfl ?_
    show (_ : am_R) = _
    try simp only [am_up_sr, am_sr_at, am_sr_sr, am_u1_at, am_u1_ne (show 22 ≠ (62 + I 108 22).toNat by omega)]
    unfold sp_hand
    (repeat' split) <;> first | (exfalso; omega) | (simp only [am_sr_self]; done) | rfl
theorem r_count {X : Nat × (Nat → Int)} {D : List (Nat × Nat)} {I J : Nat → Nat → Int} {ρ : Nat → Nat → Option Nat} (d : Nat) {B v : Int} (hv : -2147483648 ≤ v ∧ v < 2147483648) (hok : r_ok (I 108) B) : am_E X d 216 0 [(0, .inr (.inr (.inl (some 107)))), (1, .inl v)] [] (am_mm D I J ρ) (fun r => r = (some (.inl ((sp_count (I 108) (I 107 32) v))), (am_mm D I J ρ))) := by
  obtain ⟨o0, oG, oH, oD, o19, o20, o21, o22, o23, o24, oK, oV, oP, oM, oS, oY, oHd, oT, oC, oN⟩ := hok
  refine am_e_ss 1 (q := (1, [(0, .inr (.inr (.inl (some 107)))), (1, .inl v)], [.inl v], (am_mm D I J ρ))) rfl ?_
  rcases (show v < 0 ∨ v = 0 ∨ v = 1 ∨ v = 2 ∨ v = 3 ∨ v = 4 ∨ v = 5 ∨ 5 < v by omega) with h1 | h1 | h1 | h1 | h1 | h1 | h1 | h1
  · refine am_e_tabOut (t := 85) rfl ⟨by omega, by omega⟩ (by omega) rfl ?_
    refine am_e_ss 1 (q := (86, [(0, .inr (.inr (.inl (some 107)))), (1, .inl v)], [.inl (-1)], (am_mm D I J ρ))) rfl ?_
    refine am_e_ireturn rfl rfl ?_
    show (_ : am_R) = _
    try simp only [am_up_sr, am_sr_at, am_sr_sr, am_u1_at]
    unfold sp_count
    (repeat' split) <;> first | (exfalso; omega) | (simp only [am_sr_self]; done) | rfl
  · refine am_e_tabIn (t := 40) (off := 39) rfl ⟨by omega, by omega⟩ (by omega) (by rw [h1]; rfl) rfl ?_
    refine am_e_ss 4 (q := (47, [(0, .inr (.inr (.inl (some 107)))), (1, .inl v)], [.inl ((I 108 19))], (am_mm D I J ρ))) rfl ?_
    refine am_e_ireturn rfl rfl ?_
    show (_ : am_R) = _
    try simp only [am_up_sr, am_sr_at, am_sr_sr, am_u1_at]
    unfold sp_count
    (repeat' split) <;> first | (exfalso; omega) | (simp only [am_sr_self]; done) | rfl
  · refine am_e_tabIn (t := 48) (off := 47) rfl ⟨by omega, by omega⟩ (by omega) (by rw [h1]; rfl) rfl ?_
    refine am_e_ss 4 (q := (55, [(0, .inr (.inr (.inl (some 107)))), (1, .inl v)], [.inl ((I 108 20))], (am_mm D I J ρ))) rfl ?_
    refine am_e_ireturn rfl rfl ?_
    show (_ : am_R) = _
    try simp only [am_up_sr, am_sr_at, am_sr_sr, am_u1_at]
    unfold sp_count
    (repeat' split) <;> first | (exfalso; omega) | (simp only [am_sr_self]; done) | rfl
  · refine am_e_tabIn (t := 56) (off := 55) rfl ⟨by omega, by omega⟩ (by omega) (by rw [h1]; rfl) rfl ?_
    refine am_e_ss 4 (q := (63, [(0, .inr (.inr (.inl (some 107)))), (1, .inl v)], [.inl ((I 108 21))], (am_mm D I J ρ))) rfl ?_
    refine am_e_ireturn rfl rfl ?_
    show (_ : am_R) = _
    try simp only [am_up_sr, am_sr_at, am_sr_sr, am_u1_at]
    unfold sp_count
    (repeat' split) <;> first | (exfalso; omega) | (simp only [am_sr_self]; done) | rfl
  · refine am_e_tabIn (t := 64) (off := 63) rfl ⟨by omega, by omega⟩ (by omega) (by rw [h1]; rfl) rfl ?_
    refine am_e_ss 4 (q := (71, [(0, .inr (.inr (.inl (some 107)))), (1, .inl v)], [.inl ((I 108 22))], (am_mm D I J ρ))) rfl ?_
    refine am_e_ireturn rfl rfl ?_
    show (_ : am_R) = _
    try simp only [am_up_sr, am_sr_at, am_sr_sr, am_u1_at]
    unfold sp_count
    (repeat' split) <;> first | (exfalso; omega) | (simp only [am_sr_self]; done) | rfl
  · refine am_e_tabIn (t := 72) (off := 71) rfl ⟨by omega, by omega⟩ (by omega) (by rw [h1]; rfl) rfl ?_
    refine am_e_ss 4 (q := (79, [(0, .inr (.inr (.inl (some 107)))), (1, .inl v)], [.inl ((I 108 23))], (am_mm D I J ρ))) rfl ?_
    refine am_e_ireturn rfl rfl ?_
    show (_ : am_R) = _
    try simp only [am_up_sr, am_sr_at, am_sr_sr, am_u1_at]
    unfold sp_count
    (repeat' split) <;> first | (exfalso; omega) | (simp only [am_sr_self]; done) | rfl
  · refine am_e_tabIn (t := 80) (off := 79) rfl ⟨by omega, by omega⟩ (by omega) (by rw [h1]; rfl) rfl ?_
    refine am_e_ss 2 (q := (84, [(0, .inr (.inr (.inl (some 107)))), (1, .inl v)], [.inl ((I 107 32))], (am_mm D I J ρ))) rfl ?_
    refine am_e_ireturn rfl rfl ?_
    show (_ : am_R) = _
    try simp only [am_up_sr, am_sr_at, am_sr_sr, am_u1_at]
    unfold sp_count
    (repeat' split) <;> first | (exfalso; omega) | (simp only [am_sr_self]; done) | rfl
  · refine am_e_tabOut (t := 85) rfl ⟨by omega, by omega⟩ (by omega) rfl ?_
    refine am_e_ss 1 (q := (86, [(0, .inr (.inr (.inl (some 107)))), (1, .inl v)], [.inl (-1)], (am_mm D I J ρ))) rfl ?_
    refine am_e_ireturn rfl rfl ?_
    show (_ : am_R) = _
    try simp only [am_up_sr, am_sr_at, am_sr_sr, am_u1_at]
    unfold sp_count
    (repeat' split) <;> first | (exfalso; omega) | (simp only [am_sr_self]; done) | rfl
