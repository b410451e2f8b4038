/-! THE REFERENCE: the ways -/
/-- how many of the first n -/
def am_cnt (p : Nat → Bool) : Nat → Int
  | 0 => 0
  | n + 1 => am_cnt p n + (if p n then 1 else 0)
theorem am_pop_bits (p : Nat → Bool) : ∀ n, n ≤ 6 → am_pop (am_bits p n) = am_cnt p n := by
  intro n hn
  have h : n = 0 ∨ n = 1 ∨ n = 2 ∨ n = 3 ∨ n = 4 ∨ n = 5 ∨ n = 6 := by omega
  rcases h with rfl | rfl | rfl | rfl | rfl | rfl | rfl <;> simp only [am_bits, am_cnt]
  · decide +kernel
  · generalize p 0 = a
    revert a
    decide +kernel
  · generalize p 0 = a; generalize p 1 = b
    revert a b
    decide +kernel
  · generalize p 0 = a; generalize p 1 = b; generalize p 2 = c
    revert a b c
    decide +kernel
  · generalize p 0 = a; generalize p 1 = b; generalize p 2 = c; generalize p 3 = d
    revert a b c d
    decide +kernel
  · generalize p 0 = a; generalize p 1 = b; generalize p 2 = c; generalize p 3 = d; generalize p 4 = e
    revert a b c d e
    decide +kernel
  · generalize p 0 = a; generalize p 1 = b; generalize p 2 = c; generalize p 3 = d; generalize p 4 = e; generalize p 5 = f
    revert a b c d e f
    decide +kernel
theorem am_cnt_b (p : Nat → Bool) : ∀ n, 0 ≤ am_cnt p n ∧ am_cnt p n ≤ (n : Int) := by
  intro n
  induction n with
  | zero => exact ⟨Int.le_refl _, Int.le_refl _⟩
  | succ n ih =>
    show 0 ≤ am_cnt p n + (if p n then 1 else 0) ∧ am_cnt p n + (if p n then 1 else 0) ≤ ((n + 1 : Nat) : Int)
    split <;> omega
theorem am_cnt_pos {p : Nat → Bool} {m : Nat} (hp : p m = true) : ∀ n, m < n → 1 ≤ am_cnt p n := by
  intro n
  induction n with
  | zero => intro h; omega
  | succ n ih =>
    intro h
    have h0 := am_cnt_b p n
    show 1 ≤ am_cnt p n + (if p n then 1 else 0)
    by_cases e : m = n
    · rw [← e, if_pos hp]
      rw [← e] at h0
      omega
    · have := ih (by omega)
      split <;> omega
def sp_pinf (V : Nat → Int) (m : Nat) (b : Int) : Nat → Nat → Int
  | 0, _ => 6
  | n + 1, k => if V (6 * m + k) = b then k else sp_pinf V m b n (k + 1)
def sp_pin (V Z : Nat → Int) (m : Nat) (b : Int) : Int := sp_pinf V m b (Z m).toNat 0
def sp_sc (V Z : Nat → Int) (b way : Int) (m : Nat) : Int := if Z m = 0 then 0 else if sp_pin V Z m b < 6 then (if way = 0 then (if sp_pin V Z m b < 2 then 1 else 0) else if way = 1 then Z m - 1 - sp_pin V Z m b else if sp_pin V Z m b = 0 then 1 else 0) else 0
def sp_cof (V Z : Nat → Int) (b way : Int) : Nat → Int
  | 0 => 0
  | m + 1 => sp_cof V Z b way m + sp_sc V Z b way m
def sp_mbk (S c : Nat → Int) (but : Int) : Nat → Int × Int
  | 0 => (-1, -1)
  | b + 1 => if S (13 + b) = 0 ∧ ¬ (b : Int) = but ∧ (sp_mbk S c but b).2 < c b then (b, c b) else sp_mbk S c but b
def sp_most (S V Z : Nat → Int) (way but : Int) : Int := (sp_mbk S (fun b => sp_cof V Z b way (S 19).toNat) but (S 20).toNat).1
def sp_ahk (V Z : Nat → Int) (a b : Int) : Nat → Int
  | 0 => 0
  | m + 1 => sp_ahk V Z a b m + (if 0 < Z m then (if sp_pin V Z m a < sp_pin V Z m b then 1 else -1) else 0)
def sp_ahead (S V Z : Nat → Int) (a b : Int) : Int := sp_ahk V Z a b (S 19).toNat
def sp_rounds (S V Z : Nat → Int) : Int := if sp_most S V Z 2 (sp_most S V Z 2 (-1)) = -1 then sp_most S V Z 2 (-1) else
  if 0 < sp_ahead S V Z (sp_most S V Z 2 (-1)) (sp_most S V Z 2 (sp_most S V Z 2 (-1))) ∨ (sp_ahead S V Z (sp_most S V Z 2 (-1)) (sp_most S V Z 2 (sp_most S V Z 2 (-1))) = 0 ∧ sp_most S V Z 2 (-1) < sp_most S V Z 2 (sp_most S V Z 2 (-1))) then sp_most S V Z 2 (-1) else sp_most S V Z 2 (sp_most S V Z 2 (-1))
def sp_beats (S V Z : Nat → Int) (a : Nat) : Nat → Int
  | 0 => if S (13 + a) = 0 then 1 else 0
  | b + 1 => if sp_beats S V Z a b = 0 then 0 else if b = a ∨ ¬ S (13 + b) = 0 ∨ 0 < sp_ahead S V Z a b then 1 else 0
def sp_pairf (S V Z : Nat → Int) : Nat → Nat → Int
  | 0, _ => sp_most S V Z 1 (-1)
  | n + 1, a => if sp_beats S V Z a (S 20).toNat = 0 then sp_pairf S V Z n (a + 1) else a
def sp_pairs (S V Z : Nat → Int) : Int := sp_pairf S V Z (S 20).toNat 0
def sp_turnf (S V Z O : Nat → Int) : Nat → Nat → Int → Int
  | 0, _, _ => sp_most S V Z 2 (-1)
  | n + 1, m, pl => if S (7 + m) = 0 then (if pl = S 0 % am_pop (sp_here S) then (if 0 < Z m then V (6 * m) else O (6 * m)) else sp_turnf S V Z O n (m + 1) (pl + 1)) else sp_turnf S V Z O n (m + 1) pl
def sp_turns (S V Z O : Nat → Int) : Int := sp_turnf S V Z O (S 19).toNat 0 0
def sp_choose (S V Z O : Nat → Int) (opens way : Int) : Int := if opens = 0 then -5 else if way = 3 then sp_rounds S V Z else if way = 4 then sp_pairs S V Z else if way = 5 then sp_turns S V Z O else sp_most S V Z way (-1)
/-- voices as they may be -/
def r_vo (S V Z : Nat → Int) : Prop := ∀ m, (m : Nat) < (S 19).toNat → (0 ≤ Z m ∧ Z m ≤ 6) ∧ ∀ k : Nat, (k : Int) < Z m → 0 ≤ V (6 * m + k) ∧ V (6 * m + k) ≤ 5
theorem sp_pinf_b {V : Nat → Int} {m : Nat} {b : Int} : ∀ n k, n + k ≤ 6 → 0 ≤ sp_pinf V m b n k ∧ sp_pinf V m b n k ≤ 6 ∧ (sp_pinf V m b n k < 6 → sp_pinf V m b n k < n + k) := by
  intro n
  induction n with
  | zero => intro k hk; show (0 : Int) ≤ 6 ∧ (6 : Int) ≤ 6 ∧ _; exact ⟨by omega, by omega, fun h => by have h : (6 : Int) < 6 := h; omega⟩
  | succ n ih =>
    intro k hk
    have := ih (k + 1) (by omega)
    unfold sp_pinf
    split
    · refine ⟨by omega, by omega, fun _ => by omega⟩
    · refine ⟨this.1, this.2.1, fun h => ?_⟩
      have := this.2.2 h
      omega
theorem sp_pin_b {V Z : Nat → Int} {m : Nat} {b : Int} (hz : 0 ≤ Z m ∧ Z m ≤ 6) : 0 ≤ sp_pin V Z m b ∧ sp_pin V Z m b ≤ 6 ∧ (sp_pin V Z m b < 6 → sp_pin V Z m b < Z m) := by
  have := sp_pinf_b (V := V) (m := m) (b := b) (Z m).toNat 0 (by omega)
  refine ⟨this.1, this.2.1, fun h => ?_⟩
  have := this.2.2 h
  show sp_pinf V m b (Z m).toNat 0 < Z m
  omega
theorem sp_sc_b {V Z : Nat → Int} {b way : Int} {m : Nat} (hz : 0 ≤ Z m ∧ Z m ≤ 6) : 0 ≤ sp_sc V Z b way m ∧ sp_sc V Z b way m ≤ 6 := by
  have := sp_pin_b (V := V) (b := b) hz
  unfold sp_sc
  (repeat' split) <;> omega
theorem sp_cof_b {V Z : Nat → Int} {b way : Int} : ∀ m, (∀ j, j < m → 0 ≤ Z j ∧ Z j ≤ 6) → 0 ≤ sp_cof V Z b way m ∧ sp_cof V Z b way m ≤ 6 * (m : Int) := by
  intro m
  induction m with
  | zero => intro _; exact ⟨Int.le_refl _, Int.le_refl _⟩
  | succ m ih =>
    intro h
    have h1 := ih (fun j hj => h j (by omega))
    have h2 := sp_sc_b (V := V) (b := b) (way := way) (h m (by omega))
    show 0 ≤ sp_cof V Z b way m + sp_sc V Z b way m ∧ sp_cof V Z b way m + sp_sc V Z b way m ≤ _
    omega
theorem sp_ahk_b {V Z : Nat → Int} {a b : Int} : ∀ m : Nat, -(m : Int) ≤ sp_ahk V Z a b m ∧ sp_ahk V Z a b m ≤ (m : Int) := by
  intro m
  induction m with
  | zero => exact ⟨Int.le_refl _, Int.le_refl _⟩
  | succ m ih =>
    show _ ≤ sp_ahk V Z a b m + _ ∧ sp_ahk V Z a b m + _ ≤ _
    (repeat' split) <;> omega
theorem sp_mbk_b {S c : Nat → Int} {but : Int} : ∀ b, (∀ j, j < b → 0 ≤ c j ∧ c j ≤ 36) → (-1 ≤ (sp_mbk S c but b).1 ∧ (sp_mbk S c but b).1 < (b : Int)) ∧ (-1 ≤ (sp_mbk S c but b).2 ∧ (sp_mbk S c but b).2 ≤ 36) := by
  intro b
  induction b with
  | zero => intro _; exact ⟨⟨Int.le_refl _, by show (-1 : Int) < 0; omega⟩, ⟨Int.le_refl _, by show (-1 : Int) ≤ 36; omega⟩⟩
  | succ b ih =>
    intro h
    have h1 := ih (fun j hj => h j (by omega))
    have h2 := h b (by omega)
    unfold sp_mbk
    split
    · refine ⟨⟨?_, ?_⟩, ⟨?_, ?_⟩⟩ <;> simp only <;> omega
    · refine ⟨⟨?_, ?_⟩, ⟨?_, ?_⟩⟩ <;> omega
theorem sp_beats_01 {S V Z : Nat → Int} {a : Nat} : ∀ b, sp_beats S V Z a b = 0 ∨ sp_beats S V Z a b = 1 := by
  intro b
  cases b with
  | zero => unfold sp_beats; split <;> simp
  | succ b => unfold sp_beats; (repeat' split) <;> simp
theorem r_placeIn_l {X : Nat × (Nat → Int)} {D : List (Nat × Nat)} {I J : Nat → Nat → Int} {ρ : Nat → Nat → Option Nat} (d : Nat) {b : Int} {m n k : Nat} (hm : m < 6) (hz : 0 ≤ I 118 m ∧ I 118 m ≤ 6) (hb : -2147483648 ≤ b ∧ b < 2147483648) (hn : I 118 m = (n : Int) + (k : Int)) (hvo : ∀ j : Nat, (j : Int) < I 118 m → 0 ≤ I 117 (6 * m + j) ∧ I 117 (6 * m + j) ≤ 5) : am_E X d 170 2 [(3, .inl (k : Int)), (2, .inl b), (1, .inl (m : Int)), (0, .inr (.inr (.inl (some 107))))] [] (am_mm D I J ρ) (fun r => r = (some (.inl ((sp_pinf (I 117) m b n k))), (am_mm D I J ρ))) := by
  have v0 := hvo k
  refine am_e_ss 4 (q := (8, [(3, .inl (k : Int)), (2, .inl b), (1, .inl (m : Int)), (0, .inr (.inr (.inl (some 107))))], [.inl (m : Int), .inr (.inr (.inl (some 118))), .inl (k : Int)], (am_mm D I J ρ))) rfl ?_
  refine am_e_iaload (m := 6) rfl rfl (by omega) (by omega) (by omega) ?_
  show am_E _ _ _ 9 [(3, .inl (k : Int)), (2, .inl b), (1, .inl (m : Int)), (0, .inr (.inr (.inl (some 107))))] [.inl ((I 118 m)), .inl (k : Int)] (am_mm D I J ρ) _
  refine am_e_icmp2 rfl ⟨by omega, by omega⟩ ⟨by omega, by omega⟩ (fun (h1 : (I 118 m) ≤ (k : Int)) => ?_) (fun (h1 : ¬ ((I 118 m) ≤ (k : Int))) => ?_)
  · show am_E _ _ _ 35 [(3, .inl (k : Int)), (2, .inl b), (1, .inl (m : Int)), (0, .inr (.inr (.inl (some 107))))] [] (am_mm D I J ρ) _
    refine am_e_ss 1 (q := (37, [(3, .inl (k : Int)), (2, .inl b), (1, .inl (m : Int)), (0, .inr (.inr (.inl (some 107))))], [.inl 6], (am_mm D I J ρ))) rfl ?_
    refine am_e_ireturn rfl rfl ?_
    rw [show n = 0 by omega]
    rfl
  · show am_E _ _ _ 12 [(3, .inl (k : Int)), (2, .inl b), (1, .inl (m : Int)), (0, .inr (.inr (.inl (some 107))))] [] (am_mm D I J ρ) _
    refine am_e_ss 7 (q := (22, [(3, .inl (k : Int)), (2, .inl b), (1, .inl (m : Int)), (0, .inr (.inr (.inl (some 107))))], [.inl ((6 * (m : Int)) + (k : Int)), .inr (.inr (.inl (some 117)))], (am_mm D I J ρ))) rfl ?_
    refine am_e_iaload (m := 36) rfl rfl (by omega) (by omega) (by omega) ?_
    show am_E _ _ _ 23 [(3, .inl (k : Int)), (2, .inl b), (1, .inl (m : Int)), (0, .inr (.inr (.inl (some 107))))] [.inl ((I 117 ((6 * m) + k)))] (am_mm D I J ρ) _
    refine am_e_ss 1 (q := (24, [(3, .inl (k : Int)), (2, .inl b), (1, .inl (m : Int)), (0, .inr (.inr (.inl (some 107))))], [.inl b, .inl ((I 117 ((6 * m) + k)))], (am_mm D I J ρ))) rfl ?_
    refine am_e_icmp2 rfl ⟨by omega, by omega⟩ ⟨by omega, by omega⟩ (fun (h2 : ¬ (I 117 ((6 * m) + k)) = b) => ?_) (fun (h2 : ¬ (¬ (I 117 ((6 * m) + k)) = b)) => ?_)
    · show am_E _ _ _ 29 [(3, .inl (k : Int)), (2, .inl b), (1, .inl (m : Int)), (0, .inr (.inr (.inl (some 107))))] [] (am_mm D I J ρ) _
      refine am_e_ss 2 (q := (2, [(3, .inl ((k : Int) + 1)), (2, .inl b), (1, .inl (m : Int)), (0, .inr (.inr (.inl (some 107))))], [], (am_mm D I J ρ))) rfl ?_
      have e9 : sp_pinf (I 117) m b n k = sp_pinf (I 117) m b (n - 1) (k + 1) := by
        obtain ⟨n', rfl⟩ : ∃ n', n = n' + 1 := ⟨n - 1, by omega⟩
        show (if _ then _ else _) = _
        rw [if_neg (by omega), Nat.add_sub_cancel]
      rw [e9]
      exact am_less (lv := [(3, .inl ((k + 1) : Int)), (2, .inl b), (1, .inl (m : Int)), (0, .inr (.inr (.inl (some 107))))]) rfl (List.forall_mem_cons.mpr ⟨rfl, List.forall_mem_cons.mpr ⟨rfl, List.forall_mem_cons.mpr ⟨rfl, List.forall_mem_cons.mpr ⟨rfl, List.forall_mem_nil _⟩⟩⟩⟩) (r_placeIn_l d (n := n - 1) (k := k + 1) hm hz hb (by omega) hvo)
    · show am_E _ _ _ 27 [(3, .inl (k : Int)), (2, .inl b), (1, .inl (m : Int)), (0, .inr (.inr (.inl (some 107))))] [] (am_mm D I J ρ) _
      refine am_e_ss 1 (q := (28, [(3, .inl (k : Int)), (2, .inl b), (1, .inl (m : Int)), (0, .inr (.inr (.inl (some 107))))], [.inl (k : Int)], (am_mm D I J ρ))) rfl ?_
      refine am_e_ireturn rfl rfl ?_
      obtain ⟨n', rfl⟩ : ∃ n', n = n' + 1 := ⟨n - 1, by omega⟩
      rw [show sp_pinf (I 117) m b (n' + 1) k = if I 117 (6 * m + k) = b then (k : Int) else sp_pinf (I 117) m b n' (k + 1) from rfl, if_pos (by omega)]
termination_by n
decreasing_by all_goals omega
theorem r_placeIn {X : Nat × (Nat → Int)} {D : List (Nat × Nat)} {I J : Nat → Nat → Int} {ρ : Nat → Nat → Option Nat} (d : Nat) {b : Int} {m : Nat} (hm : m < 6) (hz : 0 ≤ I 118 m ∧ I 118 m ≤ 6) (hb : -2147483648 ≤ b ∧ b < 2147483648) (hvo : ∀ j : Nat, (j : Int) < I 118 m → 0 ≤ I 117 (6 * m + j) ∧ I 117 (6 * m + j) ≤ 5) : am_E X d 170 0 [(0, .inr (.inr (.inl (some 107)))), (1, .inl (m : Int)), (2, .inl b)] [] (am_mm D I J ρ) (fun r => r = (some (.inl ((sp_pin (I 117) (I 118) m b))), (am_mm D I J ρ))) := by
  refine am_e_ss 2 (q := (2, [(3, .inl 0), (0, .inr (.inr (.inl (some 107)))), (1, .inl (m : Int)), (2, .inl b)], [], (am_mm D I J ρ))) rfl ?_
  exact am_less (lv := [(3, .inl (0 : Int)), (2, .inl b), (1, .inl (m : Int)), (0, .inr (.inr (.inl (some 107))))]) rfl (List.forall_mem_cons.mpr ⟨rfl, List.forall_mem_cons.mpr ⟨rfl, List.forall_mem_cons.mpr ⟨rfl, List.forall_mem_cons.mpr ⟨rfl, List.forall_mem_nil _⟩⟩⟩⟩) (r_placeIn_l d (n := (I 118 m).toNat) (k := 0) hm hz hb (by omega) hvo)
theorem r_countOf_l {X : Nat × (Nat → Int)} {D : List (Nat × Nat)} {I J : Nat → Nat → Int} {ρ : Nat → Nat → Option Nat} (d : Nat) {B b way n3 : Int} {m : Nat} (hb : 0 ≤ b ∧ b < 6) (hw : 0 ≤ way ∧ way ≤ 2) (hm : (m : Int) ≤ I 108 19) (hn : n3 = sp_cof (I 117) (I 118) b way m) (hok : r_ok (I 108) B) (hvo : r_vo (I 108) (I 117) (I 118)) : am_E X (d + 1) 171 5 [(4, .inl (m : Int)), (3, .inl n3), (2, .inl way), (1, .inl b), (0, .inr (.inr (.inl (some 107))))] [] (am_mm D I J ρ) (fun r => r = (some (.inl ((sp_cof (I 117) (I 118) b way (I 108 19).toNat))), (am_mm D I J ρ))) := by
  have hok2 := hok
  obtain ⟨o0, oG, oH, oD, o19, o20, o21, o22, o23, o24, oK, oV, oP, oM, oS, oY, oHd, oT, oC, oN⟩ := hok
  have hok := hok2
  refine am_e_ss 5 (q := (14, [(4, .inl (m : Int)), (3, .inl n3), (2, .inl way), (1, .inl b), (0, .inr (.inr (.inl (some 107))))], [.inl ((I 108 19)), .inl (m : Int)], (am_mm D I J ρ))) rfl ?_
  refine am_e_icmp2 rfl ⟨by omega, by omega⟩ ⟨by omega, by omega⟩ (fun (h1 : (I 108 19) ≤ (m : Int)) => ?_) (fun (h1 : ¬ ((I 108 19) ≤ (m : Int))) => ?_)
  · show am_E _ _ _ 105 [(4, .inl (m : Int)), (3, .inl n3), (2, .inl way), (1, .inl b), (0, .inr (.inr (.inl (some 107))))] [] (am_mm D I J ρ) _
    refine am_e_ss 1 (q := (106, [(4, .inl (m : Int)), (3, .inl n3), (2, .inl way), (1, .inl b), (0, .inr (.inr (.inl (some 107))))], [.inl n3], (am_mm D I J ρ))) rfl ?_
    refine am_e_ireturn rfl rfl ?_
    rw [hn, show m = (I 108 19).toNat by omega]
  · show am_E _ _ _ 17 [(4, .inl (m : Int)), (3, .inl n3), (2, .inl way), (1, .inl b), (0, .inr (.inr (.inl (some 107))))] [] (am_mm D I J ρ) _
    have hz := (hvo m (by omega)).1
    have pb := sp_pin_b (V := I 117) (b := b) hz
    have cb := sp_cof_b (V := I 117) (Z := I 118) (b := b) (way := way) m (fun j hj => (hvo j (by omega)).1)
    refine am_e_ss 3 (q := (23, [(4, .inl (m : Int)), (3, .inl n3), (2, .inl way), (1, .inl b), (0, .inr (.inr (.inl (some 107))))], [.inl (m : Int), .inr (.inr (.inl (some 118)))], (am_mm D I J ρ))) rfl ?_
    refine am_e_iaload (m := 6) rfl rfl (by omega) (by omega) (by omega) ?_
    show am_E _ _ _ 24 [(4, .inl (m : Int)), (3, .inl n3), (2, .inl way), (1, .inl b), (0, .inr (.inr (.inl (some 107))))] [.inl ((I 118 m))] (am_mm D I J ρ) _
    refine am_e_if2 rfl ⟨by omega, by omega⟩ (fun (h2 : ¬ (I 118 m) = 0) => ?_) (fun (h2 : ¬ (¬ (I 118 m) = 0)) => ?_)
    · show am_E _ _ _ 32 [(4, .inl (m : Int)), (3, .inl n3), (2, .inl way), (1, .inl b), (0, .inr (.inr (.inl (some 107))))] [] (am_mm D I J ρ) _
      refine am_e_ss 3 (q := (36, [(4, .inl (m : Int)), (3, .inl n3), (2, .inl way), (1, .inl b), (0, .inr (.inr (.inl (some 107))))], [.inl b, .inl (m : Int), .inr (.inr (.inl (some 107)))], (am_mm D I J ρ))) rfl ?_
      refine am_e_virtual (Q := fun r => r = (some (.inl ((sp_pin (I 117) (I 118) m b))), (am_mm D I J ρ))) rfl rfl (Nat.le_of_ble_eq_true rfl) rfl rfl (Nat.le_of_ble_eq_true rfl) (Nat.le_of_ble_eq_true rfl) (r_placeIn _ (by omega) hz ⟨by omega, by omega⟩ (hvo m (by omega)).2) ?_
      rintro r rfl
      show am_E _ _ _ 39 [(4, .inl (m : Int)), (3, .inl n3), (2, .inl way), (1, .inl b), (0, .inr (.inr (.inl (some 107))))] [.inl ((sp_pin (I 117) (I 118) m b))] (am_mm D I J ρ) _
      refine am_e_ss 3 (q := (45, [(5, .inl ((sp_pin (I 117) (I 118) m b))), (4, .inl (m : Int)), (3, .inl n3), (2, .inl way), (1, .inl b), (0, .inr (.inr (.inl (some 107))))], [.inl 6, .inl ((sp_pin (I 117) (I 118) m b))], (am_mm D I J ρ))) rfl ?_
      refine am_e_icmp2 rfl ⟨by omega, by omega⟩ ⟨by omega, by omega⟩ (fun (h3 : 6 ≤ (sp_pin (I 117) (I 118) m b)) => ?_) (fun (h3 : ¬ (6 ≤ (sp_pin (I 117) (I 118) m b))) => ?_)
      · show am_E _ _ _ 99 [(5, .inl ((sp_pin (I 117) (I 118) m b))), (4, .inl (m : Int)), (3, .inl n3), (2, .inl way), (1, .inl b), (0, .inr (.inr (.inl (some 107))))] [] (am_mm D I J ρ) _
        refine am_e_ss 2 (q := (5, [(4, .inl ((m : Int) + 1)), (5, .inl ((sp_pin (I 117) (I 118) m b))), (3, .inl n3), (2, .inl way), (1, .inl b), (0, .inr (.inr (.inl (some 107))))], [], (am_mm D I J ρ))) rfl ?_
        have e9 : n3 = sp_cof (I 117) (I 118) b way (m + 1) := by
          show _ = sp_cof (I 117) (I 118) b way m + sp_sc (I 117) (I 118) b way m
          unfold sp_sc
          (repeat' split) <;> omega
        exact am_less (lv := [(4, .inl ((m + 1) : Int)), (3, .inl n3), (2, .inl way), (1, .inl b), (0, .inr (.inr (.inl (some 107))))]) rfl (List.forall_mem_cons.mpr ⟨rfl, List.forall_mem_cons.mpr ⟨rfl, List.forall_mem_cons.mpr ⟨rfl, List.forall_mem_cons.mpr ⟨rfl, List.forall_mem_cons.mpr ⟨rfl, List.forall_mem_nil _⟩⟩⟩⟩⟩) (r_countOf_l d (m := m + 1) hb hw (by omega) e9 hok hvo)
      · show am_E _ _ _ 48 [(5, .inl ((sp_pin (I 117) (I 118) m b))), (4, .inl (m : Int)), (3, .inl n3), (2, .inl way), (1, .inl b), (0, .inr (.inr (.inl (some 107))))] [] (am_mm D I J ρ) _
        refine am_e_ss 2 (q := (50, [(5, .inl ((sp_pin (I 117) (I 118) m b))), (4, .inl (m : Int)), (3, .inl n3), (2, .inl way), (1, .inl b), (0, .inr (.inr (.inl (some 107))))], [.inl way, .inl n3], (am_mm D I J ρ))) rfl ?_
        refine am_e_if2 rfl ⟨by omega, by omega⟩ (fun (h4 : ¬ way = 0) => ?_) (fun (h4 : ¬ (¬ way = 0)) => ?_)
        · show am_E _ _ _ 67 [(5, .inl ((sp_pin (I 117) (I 118) m b))), (4, .inl (m : Int)), (3, .inl n3), (2, .inl way), (1, .inl b), (0, .inr (.inr (.inl (some 107))))] [.inl n3] (am_mm D I J ρ) _
          refine am_e_ss 2 (q := (69, [(5, .inl ((sp_pin (I 117) (I 118) m b))), (4, .inl (m : Int)), (3, .inl n3), (2, .inl way), (1, .inl b), (0, .inr (.inr (.inl (some 107))))], [.inl 1, .inl way, .inl n3], (am_mm D I J ρ))) rfl ?_
          refine am_e_icmp2 rfl ⟨by omega, by omega⟩ ⟨by omega, by omega⟩ (fun (h5 : ¬ way = 1) => ?_) (fun (h5 : ¬ (¬ way = 1)) => ?_)
          · show am_E _ _ _ 87 [(5, .inl ((sp_pin (I 117) (I 118) m b))), (4, .inl (m : Int)), (3, .inl n3), (2, .inl way), (1, .inl b), (0, .inr (.inr (.inl (some 107))))] [.inl n3] (am_mm D I J ρ) _
            refine am_e_ss 1 (q := (89, [(5, .inl ((sp_pin (I 117) (I 118) m b))), (4, .inl (m : Int)), (3, .inl n3), (2, .inl way), (1, .inl b), (0, .inr (.inr (.inl (some 107))))], [.inl ((sp_pin (I 117) (I 118) m b)), .inl n3], (am_mm D I J ρ))) rfl ?_
            refine am_e_if2 rfl ⟨by omega, by omega⟩ (fun (h6 : ¬ (sp_pin (I 117) (I 118) m b) = 0) => ?_) (fun (h6 : ¬ (¬ (sp_pin (I 117) (I 118) m b) = 0)) => ?_)
            · show am_E _ _ _ 96 [(5, .inl ((sp_pin (I 117) (I 118) m b))), (4, .inl (m : Int)), (3, .inl n3), (2, .inl way), (1, .inl b), (0, .inr (.inr (.inl (some 107))))] [.inl n3] (am_mm D I J ρ) _
              refine am_e_ss 5 (q := (5, [(4, .inl ((m : Int) + 1)), (3, .inl (n3 + 0)), (5, .inl ((sp_pin (I 117) (I 118) m b))), (2, .inl way), (1, .inl b), (0, .inr (.inr (.inl (some 107))))], [], (am_mm D I J ρ))) rfl ?_
              have e9 : (n3 + 0) = sp_cof (I 117) (I 118) b way (m + 1) := by
                show _ = sp_cof (I 117) (I 118) b way m + sp_sc (I 117) (I 118) b way m
                unfold sp_sc
                (repeat' split) <;> omega
              exact am_less (lv := [(4, .inl ((m + 1) : Int)), (3, .inl ((n3 + 0))), (2, .inl way), (1, .inl b), (0, .inr (.inr (.inl (some 107))))]) rfl (List.forall_mem_cons.mpr ⟨rfl, List.forall_mem_cons.mpr ⟨rfl, List.forall_mem_cons.mpr ⟨rfl, List.forall_mem_cons.mpr ⟨rfl, List.forall_mem_cons.mpr ⟨rfl, List.forall_mem_nil _⟩⟩⟩⟩⟩) (r_countOf_l d (m := m + 1) hb hw (by omega) e9 hok hvo)
            · show am_E _ _ _ 92 [(5, .inl ((sp_pin (I 117) (I 118) m b))), (4, .inl (m : Int)), (3, .inl n3), (2, .inl way), (1, .inl b), (0, .inr (.inr (.inl (some 107))))] [.inl n3] (am_mm D I J ρ) _
              refine am_e_ss 6 (q := (5, [(4, .inl ((m : Int) + 1)), (3, .inl (n3 + 1)), (5, .inl ((sp_pin (I 117) (I 118) m b))), (2, .inl way), (1, .inl b), (0, .inr (.inr (.inl (some 107))))], [], (am_mm D I J ρ))) rfl ?_
              have e9 : (n3 + 1) = sp_cof (I 117) (I 118) b way (m + 1) := by
                show _ = sp_cof (I 117) (I 118) b way m + sp_sc (I 117) (I 118) b way m
                unfold sp_sc
                (repeat' split) <;> omega
              exact am_less (lv := [(4, .inl ((m + 1) : Int)), (3, .inl ((n3 + 1))), (2, .inl way), (1, .inl b), (0, .inr (.inr (.inl (some 107))))]) rfl (List.forall_mem_cons.mpr ⟨rfl, List.forall_mem_cons.mpr ⟨rfl, List.forall_mem_cons.mpr ⟨rfl, List.forall_mem_cons.mpr ⟨rfl, List.forall_mem_cons.mpr ⟨rfl, List.forall_mem_nil _⟩⟩⟩⟩⟩) (r_countOf_l d (m := m + 1) hb hw (by omega) e9 hok hvo)
          · show am_E _ _ _ 72 [(5, .inl ((sp_pin (I 117) (I 118) m b))), (4, .inl (m : Int)), (3, .inl n3), (2, .inl way), (1, .inl b), (0, .inr (.inr (.inl (some 107))))] [.inl n3] (am_mm D I J ρ) _
            refine am_e_ss 3 (q := (78, [(5, .inl ((sp_pin (I 117) (I 118) m b))), (4, .inl (m : Int)), (3, .inl n3), (2, .inl way), (1, .inl b), (0, .inr (.inr (.inl (some 107))))], [.inl (m : Int), .inr (.inr (.inl (some 118))), .inl n3], (am_mm D I J ρ))) rfl ?_
            refine am_e_iaload (m := 6) rfl rfl (by omega) (by omega) (by omega) ?_
            show am_E _ _ _ 79 [(5, .inl ((sp_pin (I 117) (I 118) m b))), (4, .inl (m : Int)), (3, .inl n3), (2, .inl way), (1, .inl b), (0, .inr (.inr (.inl (some 107))))] [.inl ((I 118 m)), .inl n3] (am_mm D I J ρ) _
            refine am_e_ss 9 (q := (5, [(4, .inl ((m : Int) + 1)), (3, .inl (n3 + (((I 118 m) - 1) - (sp_pin (I 117) (I 118) m b)))), (5, .inl ((sp_pin (I 117) (I 118) m b))), (2, .inl way), (1, .inl b), (0, .inr (.inr (.inl (some 107))))], [], (am_mm D I J ρ))) rfl ?_
            have e9 : (n3 + (((I 118 m) - 1) - (sp_pin (I 117) (I 118) m b))) = sp_cof (I 117) (I 118) b way (m + 1) := by
              show _ = sp_cof (I 117) (I 118) b way m + sp_sc (I 117) (I 118) b way m
              unfold sp_sc
              (repeat' split) <;> omega
            exact am_less (lv := [(4, .inl ((m + 1) : Int)), (3, .inl ((n3 + (((I 118 m) - 1) - (sp_pin (I 117) (I 118) m b))))), (2, .inl way), (1, .inl b), (0, .inr (.inr (.inl (some 107))))]) rfl (List.forall_mem_cons.mpr ⟨rfl, List.forall_mem_cons.mpr ⟨rfl, List.forall_mem_cons.mpr ⟨rfl, List.forall_mem_cons.mpr ⟨rfl, List.forall_mem_cons.mpr ⟨rfl, List.forall_mem_nil _⟩⟩⟩⟩⟩) (r_countOf_l d (m := m + 1) hb hw (by omega) e9 hok hvo)
        · show am_E _ _ _ 53 [(5, .inl ((sp_pin (I 117) (I 118) m b))), (4, .inl (m : Int)), (3, .inl n3), (2, .inl way), (1, .inl b), (0, .inr (.inr (.inl (some 107))))] [.inl n3] (am_mm D I J ρ) _
          refine am_e_ss 2 (q := (56, [(5, .inl ((sp_pin (I 117) (I 118) m b))), (4, .inl (m : Int)), (3, .inl n3), (2, .inl way), (1, .inl b), (0, .inr (.inr (.inl (some 107))))], [.inl 2, .inl ((sp_pin (I 117) (I 118) m b)), .inl n3], (am_mm D I J ρ))) rfl ?_
          refine am_e_icmp2 rfl ⟨by omega, by omega⟩ ⟨by omega, by omega⟩ (fun (h7 : 2 ≤ (sp_pin (I 117) (I 118) m b)) => ?_) (fun (h7 : ¬ (2 ≤ (sp_pin (I 117) (I 118) m b))) => ?_)
          · show am_E _ _ _ 63 [(5, .inl ((sp_pin (I 117) (I 118) m b))), (4, .inl (m : Int)), (3, .inl n3), (2, .inl way), (1, .inl b), (0, .inr (.inr (.inl (some 107))))] [.inl n3] (am_mm D I J ρ) _
            refine am_e_ss 6 (q := (5, [(4, .inl ((m : Int) + 1)), (3, .inl (n3 + 0)), (5, .inl ((sp_pin (I 117) (I 118) m b))), (2, .inl way), (1, .inl b), (0, .inr (.inr (.inl (some 107))))], [], (am_mm D I J ρ))) rfl ?_
            have e9 : (n3 + 0) = sp_cof (I 117) (I 118) b way (m + 1) := by
              show _ = sp_cof (I 117) (I 118) b way m + sp_sc (I 117) (I 118) b way m
              unfold sp_sc
              (repeat' split) <;> omega
            exact am_less (lv := [(4, .inl ((m + 1) : Int)), (3, .inl ((n3 + 0))), (2, .inl way), (1, .inl b), (0, .inr (.inr (.inl (some 107))))]) rfl (List.forall_mem_cons.mpr ⟨rfl, List.forall_mem_cons.mpr ⟨rfl, List.forall_mem_cons.mpr ⟨rfl, List.forall_mem_cons.mpr ⟨rfl, List.forall_mem_cons.mpr ⟨rfl, List.forall_mem_nil _⟩⟩⟩⟩⟩) (r_countOf_l d (m := m + 1) hb hw (by omega) e9 hok hvo)
          · show am_E _ _ _ 59 [(5, .inl ((sp_pin (I 117) (I 118) m b))), (4, .inl (m : Int)), (3, .inl n3), (2, .inl way), (1, .inl b), (0, .inr (.inr (.inl (some 107))))] [.inl n3] (am_mm D I J ρ) _
            refine am_e_ss 6 (q := (5, [(4, .inl ((m : Int) + 1)), (3, .inl (n3 + 1)), (5, .inl ((sp_pin (I 117) (I 118) m b))), (2, .inl way), (1, .inl b), (0, .inr (.inr (.inl (some 107))))], [], (am_mm D I J ρ))) rfl ?_
            have e9 : (n3 + 1) = sp_cof (I 117) (I 118) b way (m + 1) := by
              show _ = sp_cof (I 117) (I 118) b way m + sp_sc (I 117) (I 118) b way m
              unfold sp_sc
              (repeat' split) <;> omega
            exact am_less (lv := [(4, .inl ((m + 1) : Int)), (3, .inl ((n3 + 1))), (2, .inl way), (1, .inl b), (0, .inr (.inr (.inl (some 107))))]) rfl (List.forall_mem_cons.mpr ⟨rfl, List.forall_mem_cons.mpr ⟨rfl, List.forall_mem_cons.mpr ⟨rfl, List.forall_mem_cons.mpr ⟨rfl, List.forall_mem_cons.mpr ⟨rfl, List.forall_mem_nil _⟩⟩⟩⟩⟩) (r_countOf_l d (m := m + 1) hb hw (by omega) e9 hok hvo)
    · show am_E _ _ _ 27 [(4, .inl (m : Int)), (3, .inl n3), (2, .inl way), (1, .inl b), (0, .inr (.inr (.inl (some 107))))] [] (am_mm D I J ρ) _
      refine am_e_ss 5 (q := (45, [(5, .inl 6), (4, .inl (m : Int)), (3, .inl n3), (2, .inl way), (1, .inl b), (0, .inr (.inr (.inl (some 107))))], [.inl 6, .inl 6], (am_mm D I J ρ))) rfl ?_
      refine am_e_s (q := (99, [(5, .inl 6), (4, .inl (m : Int)), (3, .inl n3), (2, .inl way), (1, .inl b), (0, .inr (.inr (.inl (some 107))))], [], (am_mm D I J ρ))) rfl rfl ?_
      refine am_e_ss 2 (q := (5, [(4, .inl ((m : Int) + 1)), (5, .inl 6), (3, .inl n3), (2, .inl way), (1, .inl b), (0, .inr (.inr (.inl (some 107))))], [], (am_mm D I J ρ))) rfl ?_
      have e9 : n3 = sp_cof (I 117) (I 118) b way (m + 1) := by
        show _ = sp_cof (I 117) (I 118) b way m + sp_sc (I 117) (I 118) b way m
        unfold sp_sc
        (repeat' split) <;> omega
      exact am_less (lv := [(4, .inl ((m + 1) : Int)), (3, .inl n3), (2, .inl way), (1, .inl b), (0, .inr (.inr (.inl (some 107))))]) rfl (List.forall_mem_cons.mpr ⟨rfl, List.forall_mem_cons.mpr ⟨rfl, List.forall_mem_cons.mpr ⟨rfl, List.forall_mem_cons.mpr ⟨rfl, List.forall_mem_cons.mpr ⟨rfl, List.forall_mem_nil _⟩⟩⟩⟩⟩) (r_countOf_l d (m := m + 1) hb hw (by omega) e9 hok hvo)
termination_by 6 - m
decreasing_by all_goals omega
theorem r_countOf {X : Nat × (Nat → Int)} {D : List (Nat × Nat)} {I J : Nat → Nat → Int} {ρ : Nat → Nat → Option Nat} (d : Nat) {B b way : Int} (hb : 0 ≤ b ∧ b < 6) (hw : 0 ≤ way ∧ way ≤ 2) (hok : r_ok (I 108) B) (hvo : r_vo (I 108) (I 117) (I 118)) : am_E X (d + 1) 171 0 [(0, .inr (.inr (.inl (some 107)))), (1, .inl b), (2, .inl way)] [] (am_mm D I J ρ) (fun r => r = (some (.inl ((sp_cof (I 117) (I 118) b way (I 108 19).toNat))), (am_mm D I J ρ))) := by
  have hok2 := hok
  obtain ⟨o0, oG, oH, oD, o19, o20, o21, o22, o23, o24, oK, oV, oP, oM, oS, oY, oHd, oT, oC, oN⟩ := hok
  have hok := hok2
  refine am_e_ss 4 (q := (5, [(4, .inl 0), (3, .inl 0), (0, .inr (.inr (.inl (some 107)))), (1, .inl b), (2, .inl way)], [], (am_mm D I J ρ))) rfl ?_
  exact am_less (lv := [(4, .inl (0 : Int)), (3, .inl 0), (2, .inl way), (1, .inl b), (0, .inr (.inr (.inl (some 107))))]) rfl (List.forall_mem_cons.mpr ⟨rfl, List.forall_mem_cons.mpr ⟨rfl, List.forall_mem_cons.mpr ⟨rfl, List.forall_mem_cons.mpr ⟨rfl, List.forall_mem_cons.mpr ⟨rfl, List.forall_mem_nil _⟩⟩⟩⟩⟩) (r_countOf_l d (m := 0) hb hw (by omega) rfl hok hvo)
theorem r_mostBy_l {X : Nat × (Nat → Int)} {D : List (Nat × Nat)} {I J : Nat → Nat → Int} {ρ : Nat → Nat → Option Nat} (d : Nat) {B way but p q : Int} {b : Nat} (hw : 0 ≤ way ∧ way ≤ 2) (hbut : -10 ≤ but ∧ but ≤ 10) (hb : (b : Int) ≤ I 108 20) (hpq : (p, q) = sp_mbk (I 108) (fun b => sp_cof (I 117) (I 118) b way (I 108 19).toNat) but b) (hok : r_ok (I 108) B) (hvo : r_vo (I 108) (I 117) (I 118)) : am_E X (d + 2) 172 8 [(5, .inl (b : Int)), (4, .inl q), (3, .inl p), (2, .inl but), (1, .inl way), (0, .inr (.inr (.inl (some 107))))] [] (am_mm D I J ρ) (fun r => r = (some (.inl ((sp_most (I 108) (I 117) (I 118) way but))), (am_mm D I J ρ))) := by
  have hok2 := hok
  obtain ⟨o0, oG, oH, oD, o19, o20, o21, o22, o23, o24, oK, oV, oP, oM, oS, oY, oHd, oT, oC, oN⟩ := hok
  have hok := hok2
  have cb := sp_cof_b (V := I 117) (Z := I 118) (b := (b : Int)) (way := way) (I 108 19).toNat (fun j hj => (hvo j hj).1)
  have mb := sp_mbk_b (S := I 108) (c := (fun b => sp_cof (I 117) (I 118) b way (I 108 19).toNat)) (but := but) b (fun j hj => by have := sp_cof_b (V := I 117) (Z := I 118) (b := (j : Int)) (way := way) (I 108 19).toNat (fun j hj => (hvo j hj).1); exact ⟨this.1, by omega⟩)
  rw [← hpq] at mb
  have mb1 : -1 ≤ p ∧ p < (b : Int) := mb.1
  have mb2 : -1 ≤ q ∧ q ≤ 36 := mb.2
  clear mb
  refine am_e_ss 5 (q := (17, [(5, .inl (b : Int)), (4, .inl q), (3, .inl p), (2, .inl but), (1, .inl way), (0, .inr (.inr (.inl (some 107))))], [.inl ((I 108 20)), .inl (b : Int)], (am_mm D I J ρ))) rfl ?_
  refine am_e_icmp2 rfl ⟨by omega, by omega⟩ ⟨by omega, by omega⟩ (fun (h1 : (I 108 20) ≤ (b : Int)) => ?_) (fun (h1 : ¬ ((I 108 20) ≤ (b : Int))) => ?_)
  · show am_E _ _ _ 64 [(5, .inl (b : Int)), (4, .inl q), (3, .inl p), (2, .inl but), (1, .inl way), (0, .inr (.inr (.inl (some 107))))] [] (am_mm D I J ρ) _
    refine am_e_ss 1 (q := (65, [(5, .inl (b : Int)), (4, .inl q), (3, .inl p), (2, .inl but), (1, .inl way), (0, .inr (.inr (.inl (some 107))))], [.inl p], (am_mm D I J ρ))) rfl ?_
    refine am_e_ireturn rfl rfl ?_
    rw [show p = (sp_mbk (I 108) (fun b => sp_cof (I 117) (I 118) b way (I 108 19).toNat) but b).1 from congrArg Prod.fst hpq, show b = (I 108 20).toNat by omega]
    rfl
  · show am_E _ _ _ 20 [(5, .inl (b : Int)), (4, .inl q), (3, .inl p), (2, .inl but), (1, .inl way), (0, .inr (.inr (.inl (some 107))))] [] (am_mm D I J ρ) _
    refine am_e_ss 3 (q := (24, [(5, .inl (b : Int)), (4, .inl q), (3, .inl p), (2, .inl but), (1, .inl way), (0, .inr (.inr (.inl (some 107))))], [.inl way, .inl (b : Int), .inr (.inr (.inl (some 107)))], (am_mm D I J ρ))) rfl ?_
    refine am_e_virtual (Q := fun r => r = (some (.inl ((sp_cof (I 117) (I 118) (b : Int) way (I 108 19).toNat))), (am_mm D I J ρ))) rfl rfl (Nat.le_of_ble_eq_true rfl) rfl rfl (Nat.le_of_ble_eq_true rfl) (Nat.le_of_ble_eq_true rfl) (r_countOf _ (B := B) ⟨by omega, by omega⟩ ⟨by omega, by omega⟩ hok hvo) ?_
    rintro r rfl
    show am_E _ _ _ 27 [(5, .inl (b : Int)), (4, .inl q), (3, .inl p), (2, .inl but), (1, .inl way), (0, .inr (.inr (.inl (some 107))))] [.inl ((sp_cof (I 117) (I 118) (b : Int) way (I 108 19).toNat))] (am_mm D I J ρ) _
    refine am_e_ss 3 (q := (32, [(6, .inl ((sp_cof (I 117) (I 118) (b : Int) way (I 108 19).toNat))), (5, .inl (b : Int)), (4, .inl q), (3, .inl p), (2, .inl but), (1, .inl way), (0, .inr (.inr (.inl (some 107))))], [.inl (b : Int), .inr (.inr (.inl (some 107)))], (am_mm D I J ρ))) rfl ?_
    refine am_e_virtual (Q := fun r => r = (some (.inl ((am_bi ((I 108 (13 + b)) = 0)))), (am_mm D I J ρ))) rfl rfl (Nat.le_of_ble_eq_true rfl) rfl rfl (Nat.le_of_ble_eq_true rfl) (Nat.le_of_ble_eq_true rfl) (r_isOpen _ (v := (b : Int)) ⟨by omega, by omega⟩ (by exact oD b (by omega))) ?_
    rintro r rfl
    show am_E _ _ _ 35 [(6, .inl ((sp_cof (I 117) (I 118) (b : Int) way (I 108 19).toNat))), (5, .inl (b : Int)), (4, .inl q), (3, .inl p), (2, .inl but), (1, .inl way), (0, .inr (.inr (.inl (some 107))))] [.inl ((am_bi ((I 108 (13 + b)) = 0)))] (am_mm D I J ρ) _
    refine am_e_ifeq rfl (fun h2 => ?_) (fun h2 => ?_)
    · show am_E _ _ _ 58 [(6, .inl ((sp_cof (I 117) (I 118) (b : Int) way (I 108 19).toNat))), (5, .inl (b : Int)), (4, .inl q), (3, .inl p), (2, .inl but), (1, .inl way), (0, .inr (.inr (.inl (some 107))))] [] (am_mm D I J ρ) _
      refine am_e_ss 2 (q := (8, [(5, .inl ((b : Int) + 1)), (6, .inl ((sp_cof (I 117) (I 118) (b : Int) way (I 108 19).toNat))), (4, .inl q), (3, .inl p), (2, .inl but), (1, .inl way), (0, .inr (.inr (.inl (some 107))))], [], (am_mm D I J ρ))) rfl ?_
      have e9 : (p, q) = sp_mbk (I 108) (fun b => sp_cof (I 117) (I 118) b way (I 108 19).toNat) but (b + 1) := by
        show _ = (if I 108 (13 + b) = 0 ∧ ¬ (b : Int) = but ∧ (sp_mbk (I 108) (fun b => sp_cof (I 117) (I 118) b way (I 108 19).toNat) but b).2 < sp_cof (I 117) (I 118) b way (I 108 19).toNat then _ else _)
        rw [← hpq]
        split
        · first | rfl | (exfalso; omega)
        · first | rfl | (exfalso; omega)
      exact am_less (lv := [(5, .inl ((b + 1) : Int)), (4, .inl q), (3, .inl p), (2, .inl but), (1, .inl way), (0, .inr (.inr (.inl (some 107))))]) rfl (List.forall_mem_cons.mpr ⟨rfl, List.forall_mem_cons.mpr ⟨rfl, List.forall_mem_cons.mpr ⟨rfl, List.forall_mem_cons.mpr ⟨rfl, List.forall_mem_cons.mpr ⟨rfl, List.forall_mem_cons.mpr ⟨rfl, List.forall_mem_nil _⟩⟩⟩⟩⟩⟩) (r_mostBy_l d (b := b + 1) hw hbut (by omega) e9 hok hvo)
    · show am_E _ _ _ 38 [(6, .inl ((sp_cof (I 117) (I 118) (b : Int) way (I 108 19).toNat))), (5, .inl (b : Int)), (4, .inl q), (3, .inl p), (2, .inl but), (1, .inl way), (0, .inr (.inr (.inl (some 107))))] [] (am_mm D I J ρ) _
      refine am_e_ss 2 (q := (41, [(6, .inl ((sp_cof (I 117) (I 118) (b : Int) way (I 108 19).toNat))), (5, .inl (b : Int)), (4, .inl q), (3, .inl p), (2, .inl but), (1, .inl way), (0, .inr (.inr (.inl (some 107))))], [.inl but, .inl (b : Int)], (am_mm D I J ρ))) rfl ?_
      refine am_e_icmp2 rfl ⟨by omega, by omega⟩ ⟨by omega, by omega⟩ (fun (h3 : (b : Int) = but) => ?_) (fun (h3 : ¬ ((b : Int) = but)) => ?_)
      · show am_E _ _ _ 58 [(6, .inl ((sp_cof (I 117) (I 118) (b : Int) way (I 108 19).toNat))), (5, .inl (b : Int)), (4, .inl q), (3, .inl p), (2, .inl but), (1, .inl way), (0, .inr (.inr (.inl (some 107))))] [] (am_mm D I J ρ) _
        refine am_e_ss 2 (q := (8, [(5, .inl ((b : Int) + 1)), (6, .inl ((sp_cof (I 117) (I 118) (b : Int) way (I 108 19).toNat))), (4, .inl q), (3, .inl p), (2, .inl but), (1, .inl way), (0, .inr (.inr (.inl (some 107))))], [], (am_mm D I J ρ))) rfl ?_
        have e9 : (p, q) = sp_mbk (I 108) (fun b => sp_cof (I 117) (I 118) b way (I 108 19).toNat) but (b + 1) := by
          show _ = (if I 108 (13 + b) = 0 ∧ ¬ (b : Int) = but ∧ (sp_mbk (I 108) (fun b => sp_cof (I 117) (I 118) b way (I 108 19).toNat) but b).2 < sp_cof (I 117) (I 118) b way (I 108 19).toNat then _ else _)
          rw [← hpq]
          split
          · first | rfl | (exfalso; omega)
          · first | rfl | (exfalso; omega)
        exact am_less (lv := [(5, .inl ((b + 1) : Int)), (4, .inl q), (3, .inl p), (2, .inl but), (1, .inl way), (0, .inr (.inr (.inl (some 107))))]) rfl (List.forall_mem_cons.mpr ⟨rfl, List.forall_mem_cons.mpr ⟨rfl, List.forall_mem_cons.mpr ⟨rfl, List.forall_mem_cons.mpr ⟨rfl, List.forall_mem_cons.mpr ⟨rfl, List.forall_mem_cons.mpr ⟨rfl, List.forall_mem_nil _⟩⟩⟩⟩⟩⟩) (r_mostBy_l d (b := b + 1) hw hbut (by omega) e9 hok hvo)
      · show am_E _ _ _ 44 [(6, .inl ((sp_cof (I 117) (I 118) (b : Int) way (I 108 19).toNat))), (5, .inl (b : Int)), (4, .inl q), (3, .inl p), (2, .inl but), (1, .inl way), (0, .inr (.inr (.inl (some 107))))] [] (am_mm D I J ρ) _
        refine am_e_ss 2 (q := (48, [(6, .inl ((sp_cof (I 117) (I 118) (b : Int) way (I 108 19).toNat))), (5, .inl (b : Int)), (4, .inl q), (3, .inl p), (2, .inl but), (1, .inl way), (0, .inr (.inr (.inl (some 107))))], [.inl q, .inl ((sp_cof (I 117) (I 118) (b : Int) way (I 108 19).toNat))], (am_mm D I J ρ))) rfl ?_
        refine am_e_icmp2 rfl ⟨by omega, by omega⟩ ⟨by omega, by omega⟩ (fun (h4 : (sp_cof (I 117) (I 118) (b : Int) way (I 108 19).toNat) ≤ q) => ?_) (fun (h4 : ¬ ((sp_cof (I 117) (I 118) (b : Int) way (I 108 19).toNat) ≤ q)) => ?_)
        · show am_E _ _ _ 58 [(6, .inl ((sp_cof (I 117) (I 118) (b : Int) way (I 108 19).toNat))), (5, .inl (b : Int)), (4, .inl q), (3, .inl p), (2, .inl but), (1, .inl way), (0, .inr (.inr (.inl (some 107))))] [] (am_mm D I J ρ) _
          refine am_e_ss 2 (q := (8, [(5, .inl ((b : Int) + 1)), (6, .inl ((sp_cof (I 117) (I 118) (b : Int) way (I 108 19).toNat))), (4, .inl q), (3, .inl p), (2, .inl but), (1, .inl way), (0, .inr (.inr (.inl (some 107))))], [], (am_mm D I J ρ))) rfl ?_
          have e9 : (p, q) = sp_mbk (I 108) (fun b => sp_cof (I 117) (I 118) b way (I 108 19).toNat) but (b + 1) := by
            show _ = (if I 108 (13 + b) = 0 ∧ ¬ (b : Int) = but ∧ (sp_mbk (I 108) (fun b => sp_cof (I 117) (I 118) b way (I 108 19).toNat) but b).2 < sp_cof (I 117) (I 118) b way (I 108 19).toNat then _ else _)
            rw [← hpq]
            split
            · first | rfl | (exfalso; omega)
            · first | rfl | (exfalso; omega)
          exact am_less (lv := [(5, .inl ((b + 1) : Int)), (4, .inl q), (3, .inl p), (2, .inl but), (1, .inl way), (0, .inr (.inr (.inl (some 107))))]) rfl (List.forall_mem_cons.mpr ⟨rfl, List.forall_mem_cons.mpr ⟨rfl, List.forall_mem_cons.mpr ⟨rfl, List.forall_mem_cons.mpr ⟨rfl, List.forall_mem_cons.mpr ⟨rfl, List.forall_mem_cons.mpr ⟨rfl, List.forall_mem_nil _⟩⟩⟩⟩⟩⟩) (r_mostBy_l d (b := b + 1) hw hbut (by omega) e9 hok hvo)
        · show am_E _ _ _ 51 [(6, .inl ((sp_cof (I 117) (I 118) (b : Int) way (I 108 19).toNat))), (5, .inl (b : Int)), (4, .inl q), (3, .inl p), (2, .inl but), (1, .inl way), (0, .inr (.inr (.inl (some 107))))] [] (am_mm D I J ρ) _
          refine am_e_ss 6 (q := (8, [(5, .inl ((b : Int) + 1)), (4, .inl ((sp_cof (I 117) (I 118) (b : Int) way (I 108 19).toNat))), (3, .inl (b : Int)), (6, .inl ((sp_cof (I 117) (I 118) (b : Int) way (I 108 19).toNat))), (2, .inl but), (1, .inl way), (0, .inr (.inr (.inl (some 107))))], [], (am_mm D I J ρ))) rfl ?_
          have e9 : ((b : Int), (sp_cof (I 117) (I 118) (b : Int) way (I 108 19).toNat)) = sp_mbk (I 108) (fun b => sp_cof (I 117) (I 118) b way (I 108 19).toNat) but (b + 1) := by
            show _ = (if I 108 (13 + b) = 0 ∧ ¬ (b : Int) = but ∧ (sp_mbk (I 108) (fun b => sp_cof (I 117) (I 118) b way (I 108 19).toNat) but b).2 < sp_cof (I 117) (I 118) b way (I 108 19).toNat then _ else _)
            rw [← hpq]
            split
            · first | rfl | (exfalso; omega)
            · first | rfl | (exfalso; omega)
          exact am_less (lv := [(5, .inl ((b + 1) : Int)), (4, .inl ((sp_cof (I 117) (I 118) (b : Int) way (I 108 19).toNat))), (3, .inl ((b : Int))), (2, .inl but), (1, .inl way), (0, .inr (.inr (.inl (some 107))))]) rfl (List.forall_mem_cons.mpr ⟨rfl, List.forall_mem_cons.mpr ⟨rfl, List.forall_mem_cons.mpr ⟨rfl, List.forall_mem_cons.mpr ⟨rfl, List.forall_mem_cons.mpr ⟨rfl, List.forall_mem_cons.mpr ⟨rfl, List.forall_mem_nil _⟩⟩⟩⟩⟩⟩) (r_mostBy_l d (b := b + 1) hw hbut (by omega) e9 hok hvo)
termination_by 6 - b
decreasing_by all_goals omega
theorem r_mostBy {X : Nat × (Nat → Int)} {D : List (Nat × Nat)} {I J : Nat → Nat → Int} {ρ : Nat → Nat → Option Nat} (d : Nat) {B way but : Int} (hw : 0 ≤ way ∧ way ≤ 2) (hbut : -10 ≤ but ∧ but ≤ 10) (hok : r_ok (I 108) B) (hvo : r_vo (I 108) (I 117) (I 118)) : am_E X (d + 2) 172 0 [(0, .inr (.inr (.inl (some 107)))), (1, .inl way), (2, .inl but)] [] (am_mm D I J ρ) (fun r => r = (some (.inl ((sp_most (I 108) (I 117) (I 118) way but))), (am_mm D I J ρ))) := by
  have hok2 := hok
  obtain ⟨o0, oG, oH, oD, o19, o20, o21, o22, o23, o24, oK, oV, oP, oM, oS, oY, oHd, oT, oC, oN⟩ := hok
  have hok := hok2
  refine am_e_ss 6 (q := (8, [(5, .inl 0), (4, .inl (-1)), (3, .inl (-1)), (0, .inr (.inr (.inl (some 107)))), (1, .inl way), (2, .inl but)], [], (am_mm D I J ρ))) rfl ?_
  exact am_less (lv := [(5, .inl (0 : Int)), (4, .inl ((-1))), (3, .inl ((-1))), (2, .inl but), (1, .inl way), (0, .inr (.inr (.inl (some 107))))]) rfl (List.forall_mem_cons.mpr ⟨rfl, List.forall_mem_cons.mpr ⟨rfl, List.forall_mem_cons.mpr ⟨rfl, List.forall_mem_cons.mpr ⟨rfl, List.forall_mem_cons.mpr ⟨rfl, List.forall_mem_cons.mpr ⟨rfl, List.forall_mem_nil _⟩⟩⟩⟩⟩⟩) (r_mostBy_l d (b := 0) hw hbut (by omega) rfl hok hvo)
theorem sp_most_b {S V Z : Nat → Int} {way but B : Int} (hok : r_ok S B) (hvo : r_vo S V Z) : -1 ≤ sp_most S V Z way but ∧ sp_most S V Z way but < S 20 := by
  obtain ⟨o0, oG, oH, oD, o19, o20, o21, o22, o23, o24, oK, oV, oP, oM, oS, oY, oHd, oT, oC, oN⟩ := hok
  have h := sp_mbk_b (S := S) (c := fun b => sp_cof V Z b way (S 19).toNat) (but := but) (S 20).toNat (fun j hj => by
    have := sp_cof_b (V := V) (Z := Z) (b := (j : Int)) (way := way) (S 19).toNat (fun j hj => (hvo j hj).1)
    exact ⟨this.1, by omega⟩)
  have h1 := h.1
  unfold sp_most
  omega
theorem r_aheadBy_l {X : Nat × (Nat → Int)} {D : List (Nat × Nat)} {I J : Nat → Nat → Int} {ρ : Nat → Nat → Option Nat} (d : Nat) {B a b n3 : Int} {m : Nat} (ha : 0 ≤ a ∧ a < 6) (hb : 0 ≤ b ∧ b < 6) (hm : (m : Int) ≤ I 108 19) (hn : n3 = sp_ahk (I 117) (I 118) a b m) (hok : r_ok (I 108) B) (hvo : r_vo (I 108) (I 117) (I 118)) : am_E X (d + 1) 173 5 [(4, .inl (m : Int)), (3, .inl n3), (2, .inl b), (1, .inl a), (0, .inr (.inr (.inl (some 107))))] [] (am_mm D I J ρ) (fun r => r = (some (.inl ((sp_ahead (I 108) (I 117) (I 118) a b))), (am_mm D I J ρ))) := by
  have hok2 := hok
  obtain ⟨o0, oG, oH, oD, o19, o20, o21, o22, o23, o24, oK, oV, oP, oM, oS, oY, oHd, oT, oC, oN⟩ := hok
  have hok := hok2
  have ab := sp_ahk_b (V := I 117) (Z := I 118) (a := a) (b := b) m
  refine am_e_ss 5 (q := (14, [(4, .inl (m : Int)), (3, .inl n3), (2, .inl b), (1, .inl a), (0, .inr (.inr (.inl (some 107))))], [.inl ((I 108 19)), .inl (m : Int)], (am_mm D I J ρ))) rfl ?_
  refine am_e_icmp2 rfl ⟨by omega, by omega⟩ ⟨by omega, by omega⟩ (fun (h1 : (I 108 19) ≤ (m : Int)) => ?_) (fun (h1 : ¬ ((I 108 19) ≤ (m : Int))) => ?_)
  · show am_E _ _ _ 58 [(4, .inl (m : Int)), (3, .inl n3), (2, .inl b), (1, .inl a), (0, .inr (.inr (.inl (some 107))))] [] (am_mm D I J ρ) _
    refine am_e_ss 1 (q := (59, [(4, .inl (m : Int)), (3, .inl n3), (2, .inl b), (1, .inl a), (0, .inr (.inr (.inl (some 107))))], [.inl n3], (am_mm D I J ρ))) rfl ?_
    refine am_e_ireturn rfl rfl ?_
    rw [hn, show m = (I 108 19).toNat by omega]
    rfl
  · show am_E _ _ _ 17 [(4, .inl (m : Int)), (3, .inl n3), (2, .inl b), (1, .inl a), (0, .inr (.inr (.inl (some 107))))] [] (am_mm D I J ρ) _
    have hz := (hvo m (by omega)).1
    have pb := sp_pin_b (V := I 117) (b := b) hz
    have pa := sp_pin_b (V := I 117) (b := a) hz
    refine am_e_ss 3 (q := (23, [(4, .inl (m : Int)), (3, .inl n3), (2, .inl b), (1, .inl a), (0, .inr (.inr (.inl (some 107))))], [.inl (m : Int), .inr (.inr (.inl (some 118)))], (am_mm D I J ρ))) rfl ?_
    refine am_e_iaload (m := 6) rfl rfl (by omega) (by omega) (by omega) ?_
    show am_E _ _ _ 24 [(4, .inl (m : Int)), (3, .inl n3), (2, .inl b), (1, .inl a), (0, .inr (.inr (.inl (some 107))))] [.inl ((I 118 m))] (am_mm D I J ρ) _
    refine am_e_if2 rfl ⟨by omega, by omega⟩ (fun (h2 : (I 118 m) ≤ 0) => ?_) (fun (h2 : ¬ ((I 118 m) ≤ 0)) => ?_)
    · show am_E _ _ _ 52 [(4, .inl (m : Int)), (3, .inl n3), (2, .inl b), (1, .inl a), (0, .inr (.inr (.inl (some 107))))] [] (am_mm D I J ρ) _
      refine am_e_ss 2 (q := (5, [(4, .inl ((m : Int) + 1)), (3, .inl n3), (2, .inl b), (1, .inl a), (0, .inr (.inr (.inl (some 107))))], [], (am_mm D I J ρ))) rfl ?_
      have e9 : n3 = sp_ahk (I 117) (I 118) a b (m + 1) := by
        show _ = sp_ahk (I 117) (I 118) a b m + _
        (repeat' split) <;> omega
      exact am_less (lv := [(4, .inl ((m + 1) : Int)), (3, .inl n3), (2, .inl b), (1, .inl a), (0, .inr (.inr (.inl (some 107))))]) rfl (List.forall_mem_cons.mpr ⟨rfl, List.forall_mem_cons.mpr ⟨rfl, List.forall_mem_cons.mpr ⟨rfl, List.forall_mem_cons.mpr ⟨rfl, List.forall_mem_cons.mpr ⟨rfl, List.forall_mem_nil _⟩⟩⟩⟩⟩) (r_aheadBy_l d (m := m + 1) ha hb (by omega) e9 hok hvo)
    · show am_E _ _ _ 27 [(4, .inl (m : Int)), (3, .inl n3), (2, .inl b), (1, .inl a), (0, .inr (.inr (.inl (some 107))))] [] (am_mm D I J ρ) _
      refine am_e_ss 4 (q := (32, [(4, .inl (m : Int)), (3, .inl n3), (2, .inl b), (1, .inl a), (0, .inr (.inr (.inl (some 107))))], [.inl a, .inl (m : Int), .inr (.inr (.inl (some 107))), .inl n3], (am_mm D I J ρ))) rfl ?_
      refine am_e_virtual (Q := fun r => r = (some (.inl ((sp_pin (I 117) (I 118) m a))), (am_mm D I J ρ))) rfl rfl (Nat.le_of_ble_eq_true rfl) rfl rfl (Nat.le_of_ble_eq_true rfl) (Nat.le_of_ble_eq_true rfl) (r_placeIn _ (by omega) hz ⟨by omega, by omega⟩ (hvo m (by omega)).2) ?_
      rintro r rfl
      show am_E _ _ _ 35 [(4, .inl (m : Int)), (3, .inl n3), (2, .inl b), (1, .inl a), (0, .inr (.inr (.inl (some 107))))] [.inl ((sp_pin (I 117) (I 118) m a)), .inl n3] (am_mm D I J ρ) _
      refine am_e_ss 3 (q := (39, [(4, .inl (m : Int)), (3, .inl n3), (2, .inl b), (1, .inl a), (0, .inr (.inr (.inl (some 107))))], [.inl b, .inl (m : Int), .inr (.inr (.inl (some 107))), .inl ((sp_pin (I 117) (I 118) m a)), .inl n3], (am_mm D I J ρ))) rfl ?_
      refine am_e_virtual (Q := fun r => r = (some (.inl ((sp_pin (I 117) (I 118) m b))), (am_mm D I J ρ))) rfl rfl (Nat.le_of_ble_eq_true rfl) rfl rfl (Nat.le_of_ble_eq_true rfl) (Nat.le_of_ble_eq_true rfl) (r_placeIn _ (by omega) hz ⟨by omega, by omega⟩ (hvo m (by omega)).2) ?_
      rintro r rfl
      show am_E _ _ _ 42 [(4, .inl (m : Int)), (3, .inl n3), (2, .inl b), (1, .inl a), (0, .inr (.inr (.inl (some 107))))] [.inl ((sp_pin (I 117) (I 118) m b)), .inl ((sp_pin (I 117) (I 118) m a)), .inl n3] (am_mm D I J ρ) _
      refine am_e_icmp2 rfl ⟨by omega, by omega⟩ ⟨by omega, by omega⟩ (fun (h3 : (sp_pin (I 117) (I 118) m b) ≤ (sp_pin (I 117) (I 118) m a)) => ?_) (fun (h3 : ¬ ((sp_pin (I 117) (I 118) m b) ≤ (sp_pin (I 117) (I 118) m a))) => ?_)
      · show am_E _ _ _ 49 [(4, .inl (m : Int)), (3, .inl n3), (2, .inl b), (1, .inl a), (0, .inr (.inr (.inl (some 107))))] [.inl n3] (am_mm D I J ρ) _
        refine am_e_ss 5 (q := (5, [(4, .inl ((m : Int) + 1)), (3, .inl (n3 + (-1))), (2, .inl b), (1, .inl a), (0, .inr (.inr (.inl (some 107))))], [], (am_mm D I J ρ))) rfl ?_
        have e9 : (n3 + (-1)) = sp_ahk (I 117) (I 118) a b (m + 1) := by
          show _ = sp_ahk (I 117) (I 118) a b m + _
          (repeat' split) <;> omega
        exact am_less (lv := [(4, .inl ((m + 1) : Int)), (3, .inl ((n3 + (-1)))), (2, .inl b), (1, .inl a), (0, .inr (.inr (.inl (some 107))))]) rfl (List.forall_mem_cons.mpr ⟨rfl, List.forall_mem_cons.mpr ⟨rfl, List.forall_mem_cons.mpr ⟨rfl, List.forall_mem_cons.mpr ⟨rfl, List.forall_mem_cons.mpr ⟨rfl, List.forall_mem_nil _⟩⟩⟩⟩⟩) (r_aheadBy_l d (m := m + 1) ha hb (by omega) e9 hok hvo)
      · show am_E _ _ _ 45 [(4, .inl (m : Int)), (3, .inl n3), (2, .inl b), (1, .inl a), (0, .inr (.inr (.inl (some 107))))] [.inl n3] (am_mm D I J ρ) _
        refine am_e_ss 6 (q := (5, [(4, .inl ((m : Int) + 1)), (3, .inl (n3 + 1)), (2, .inl b), (1, .inl a), (0, .inr (.inr (.inl (some 107))))], [], (am_mm D I J ρ))) rfl ?_
        have e9 : (n3 + 1) = sp_ahk (I 117) (I 118) a b (m + 1) := by
          show _ = sp_ahk (I 117) (I 118) a b m + _
          (repeat' split) <;> omega
        exact am_less (lv := [(4, .inl ((m + 1) : Int)), (3, .inl ((n3 + 1))), (2, .inl b), (1, .inl a), (0, .inr (.inr (.inl (some 107))))]) rfl (List.forall_mem_cons.mpr ⟨rfl, List.forall_mem_cons.mpr ⟨rfl, List.forall_mem_cons.mpr ⟨rfl, List.forall_mem_cons.mpr ⟨rfl, List.forall_mem_cons.mpr ⟨rfl, List.forall_mem_nil _⟩⟩⟩⟩⟩) (r_aheadBy_l d (m := m + 1) ha hb (by omega) e9 hok hvo)
termination_by 6 - m
decreasing_by all_goals omega
theorem r_aheadBy {X : Nat × (Nat → Int)} {D : List (Nat × Nat)} {I J : Nat → Nat → Int} {ρ : Nat → Nat → Option Nat} (d : Nat) {B a b : Int} (ha : 0 ≤ a ∧ a < 6) (hb : 0 ≤ b ∧ b < 6) (hok : r_ok (I 108) B) (hvo : r_vo (I 108) (I 117) (I 118)) : am_E X (d + 1) 173 0 [(0, .inr (.inr (.inl (some 107)))), (1, .inl a), (2, .inl b)] [] (am_mm D I J ρ) (fun r => r = (some (.inl ((sp_ahead (I 108) (I 117) (I 118) a b))), (am_mm D I J ρ))) := by
  have hok2 := hok
  obtain ⟨o0, oG, oH, oD, o19, o20, o21, o22, o23, o24, oK, oV, oP, oM, oS, oY, oHd, oT, oC, oN⟩ := hok
  have hok := hok2
  refine am_e_ss 4 (q := (5, [(4, .inl 0), (3, .inl 0), (0, .inr (.inr (.inl (some 107)))), (1, .inl a), (2, .inl b)], [], (am_mm D I J ρ))) rfl ?_
  exact am_less (lv := [(4, .inl (0 : Int)), (3, .inl 0), (2, .inl b), (1, .inl a), (0, .inr (.inr (.inl (some 107))))]) rfl (List.forall_mem_cons.mpr ⟨rfl, List.forall_mem_cons.mpr ⟨rfl, List.forall_mem_cons.mpr ⟨rfl, List.forall_mem_cons.mpr ⟨rfl, List.forall_mem_cons.mpr ⟨rfl, List.forall_mem_nil _⟩⟩⟩⟩⟩) (r_aheadBy_l d (m := 0) ha hb (by omega) rfl hok hvo)
theorem r_byRounds {X : Nat × (Nat → Int)} {D : List (Nat × Nat)} {I J : Nat → Nat → Int} {ρ : Nat → Nat → Option Nat} (d : Nat) {B : Int} (hne : 0 ≤ (sp_most (I 108) (I 117) (I 118) 2 (-1))) (hok : r_ok (I 108) B) (hvo : r_vo (I 108) (I 117) (I 118)) : am_E X (d + 3) 174 0 [(0, .inr (.inr (.inl (some 107))))] [] (am_mm D I J ρ) (fun r => r = (some (.inl ((sp_rounds (I 108) (I 117) (I 118)))), (am_mm D I J ρ))) := by
  have hok2 := hok
  obtain ⟨o0, oG, oH, oD, o19, o20, o21, o22, o23, o24, oK, oV, oP, oM, oS, oY, oHd, oT, oC, oN⟩ := hok
  have hok := hok2
  have b1 := sp_most_b (way := 2) (but := -1) hok hvo
  have b2 := sp_most_b (way := 2) (but := (sp_most (I 108) (I 117) (I 118) 2 (-1))) hok hvo
  have b3 := sp_ahk_b (V := I 117) (Z := I 118) (a := (sp_most (I 108) (I 117) (I 118) 2 (-1))) (b := (sp_most (I 108) (I 117) (I 118) 2 (sp_most (I 108) (I 117) (I 118) 2 (-1)))) (I 108 19).toNat
  have b4 : -6 ≤ sp_ahead (I 108) (I 117) (I 118) (sp_most (I 108) (I 117) (I 118) 2 (-1)) (sp_most (I 108) (I 117) (I 118) 2 (sp_most (I 108) (I 117) (I 118) 2 (-1))) ∧ sp_ahead (I 108) (I 117) (I 118) (sp_most (I 108) (I 117) (I 118) 2 (-1)) (sp_most (I 108) (I 117) (I 118) 2 (sp_most (I 108) (I 117) (I 118) 2 (-1))) ≤ 6 := by unfold sp_ahead; omega
  refine am_e_ss 3 (q := (3, [(0, .inr (.inr (.inl (some 107))))], [.inl (-1), .inl 2, .inr (.inr (.inl (some 107)))], (am_mm D I J ρ))) rfl ?_
  refine am_e_virtual (Q := fun r => r = (some (.inl ((sp_most (I 108) (I 117) (I 118) 2 (-1)))), (am_mm D I J ρ))) rfl rfl (Nat.le_of_ble_eq_true rfl) rfl rfl (Nat.le_of_ble_eq_true rfl) (Nat.le_of_ble_eq_true rfl) (r_mostBy _ (B := B) ⟨by omega, by omega⟩ ⟨by omega, by omega⟩ hok hvo) ?_
  rintro r rfl
  show am_E _ _ _ 6 [(0, .inr (.inr (.inl (some 107))))] [.inl ((sp_most (I 108) (I 117) (I 118) 2 (-1)))] (am_mm D I J ρ) _
  refine am_e_ss 4 (q := (10, [(1, .inl ((sp_most (I 108) (I 117) (I 118) 2 (-1)))), (0, .inr (.inr (.inl (some 107))))], [.inl ((sp_most (I 108) (I 117) (I 118) 2 (-1))), .inl 2, .inr (.inr (.inl (some 107)))], (am_mm D I J ρ))) rfl ?_
  refine am_e_virtual (Q := fun r => r = (some (.inl ((sp_most (I 108) (I 117) (I 118) 2 (sp_most (I 108) (I 117) (I 118) 2 (-1))))), (am_mm D I J ρ))) rfl rfl (Nat.le_of_ble_eq_true rfl) rfl rfl (Nat.le_of_ble_eq_true rfl) (Nat.le_of_ble_eq_true rfl) (r_mostBy _ (B := B) ⟨by omega, by omega⟩ ⟨by omega, by omega⟩ hok hvo) ?_
  rintro r rfl
  show am_E _ _ _ 13 [(1, .inl ((sp_most (I 108) (I 117) (I 118) 2 (-1)))), (0, .inr (.inr (.inl (some 107))))] [.inl ((sp_most (I 108) (I 117) (I 118) 2 (sp_most (I 108) (I 117) (I 118) 2 (-1))))] (am_mm D I J ρ) _
  refine am_e_ss 3 (q := (16, [(2, .inl ((sp_most (I 108) (I 117) (I 118) 2 (sp_most (I 108) (I 117) (I 118) 2 (-1))))), (1, .inl ((sp_most (I 108) (I 117) (I 118) 2 (-1)))), (0, .inr (.inr (.inl (some 107))))], [.inl (-1), .inl ((sp_most (I 108) (I 117) (I 118) 2 (sp_most (I 108) (I 117) (I 118) 2 (-1))))], (am_mm D I J ρ))) rfl ?_
  refine am_e_icmp2 rfl ⟨by omega, by omega⟩ ⟨by omega, by omega⟩ (fun (h1 : ¬ (sp_most (I 108) (I 117) (I 118) 2 (sp_most (I 108) (I 117) (I 118) 2 (-1))) = (-1)) => ?_) (fun (h1 : ¬ (¬ (sp_most (I 108) (I 117) (I 118) 2 (sp_most (I 108) (I 117) (I 118) 2 (-1))) = (-1))) => ?_)
  · show am_E _ _ _ 21 [(2, .inl ((sp_most (I 108) (I 117) (I 118) 2 (sp_most (I 108) (I 117) (I 118) 2 (-1))))), (1, .inl ((sp_most (I 108) (I 117) (I 118) 2 (-1)))), (0, .inr (.inr (.inl (some 107))))] [] (am_mm D I J ρ) _
    refine am_e_ss 3 (q := (24, [(2, .inl ((sp_most (I 108) (I 117) (I 118) 2 (sp_most (I 108) (I 117) (I 118) 2 (-1))))), (1, .inl ((sp_most (I 108) (I 117) (I 118) 2 (-1)))), (0, .inr (.inr (.inl (some 107))))], [.inl ((sp_most (I 108) (I 117) (I 118) 2 (sp_most (I 108) (I 117) (I 118) 2 (-1)))), .inl ((sp_most (I 108) (I 117) (I 118) 2 (-1))), .inr (.inr (.inl (some 107)))], (am_mm D I J ρ))) rfl ?_
    refine am_e_virtual (Q := fun r => r = (some (.inl ((sp_ahead (I 108) (I 117) (I 118) (sp_most (I 108) (I 117) (I 118) 2 (-1)) (sp_most (I 108) (I 117) (I 118) 2 (sp_most (I 108) (I 117) (I 118) 2 (-1)))))), (am_mm D I J ρ))) rfl rfl (Nat.le_of_ble_eq_true rfl) rfl rfl (Nat.le_of_ble_eq_true rfl) (Nat.le_of_ble_eq_true rfl) (r_aheadBy _ (B := B) ⟨by omega, by omega⟩ ⟨by omega, by omega⟩ hok hvo) ?_
    rintro r rfl
    show am_E _ _ _ 27 [(2, .inl ((sp_most (I 108) (I 117) (I 118) 2 (sp_most (I 108) (I 117) (I 118) 2 (-1))))), (1, .inl ((sp_most (I 108) (I 117) (I 118) 2 (-1)))), (0, .inr (.inr (.inl (some 107))))] [.inl ((sp_ahead (I 108) (I 117) (I 118) (sp_most (I 108) (I 117) (I 118) 2 (-1)) (sp_most (I 108) (I 117) (I 118) 2 (sp_most (I 108) (I 117) (I 118) 2 (-1)))))] (am_mm D I J ρ) _
    refine am_e_ss 2 (q := (29, [(3, .inl ((sp_ahead (I 108) (I 117) (I 118) (sp_most (I 108) (I 117) (I 118) 2 (-1)) (sp_most (I 108) (I 117) (I 118) 2 (sp_most (I 108) (I 117) (I 118) 2 (-1)))))), (2, .inl ((sp_most (I 108) (I 117) (I 118) 2 (sp_most (I 108) (I 117) (I 118) 2 (-1))))), (1, .inl ((sp_most (I 108) (I 117) (I 118) 2 (-1)))), (0, .inr (.inr (.inl (some 107))))], [.inl ((sp_ahead (I 108) (I 117) (I 118) (sp_most (I 108) (I 117) (I 118) 2 (-1)) (sp_most (I 108) (I 117) (I 118) 2 (sp_most (I 108) (I 117) (I 118) 2 (-1)))))], (am_mm D I J ρ))) rfl ?_
    refine am_e_if2 rfl ⟨by omega, by omega⟩ (fun (h2 : 0 < (sp_ahead (I 108) (I 117) (I 118) (sp_most (I 108) (I 117) (I 118) 2 (-1)) (sp_most (I 108) (I 117) (I 118) 2 (sp_most (I 108) (I 117) (I 118) 2 (-1))))) => ?_) (fun (h2 : ¬ (0 < (sp_ahead (I 108) (I 117) (I 118) (sp_most (I 108) (I 117) (I 118) 2 (-1)) (sp_most (I 108) (I 117) (I 118) 2 (sp_most (I 108) (I 117) (I 118) 2 (-1)))))) => ?_)
    · show am_E _ _ _ 41 [(3, .inl ((sp_ahead (I 108) (I 117) (I 118) (sp_most (I 108) (I 117) (I 118) 2 (-1)) (sp_most (I 108) (I 117) (I 118) 2 (sp_most (I 108) (I 117) (I 118) 2 (-1)))))), (2, .inl ((sp_most (I 108) (I 117) (I 118) 2 (sp_most (I 108) (I 117) (I 118) 2 (-1))))), (1, .inl ((sp_most (I 108) (I 117) (I 118) 2 (-1)))), (0, .inr (.inr (.inl (some 107))))] [] (am_mm D I J ρ) _
      refine am_e_ss 2 (q := (46, [(3, .inl ((sp_ahead (I 108) (I 117) (I 118) (sp_most (I 108) (I 117) (I 118) 2 (-1)) (sp_most (I 108) (I 117) (I 118) 2 (sp_most (I 108) (I 117) (I 118) 2 (-1)))))), (2, .inl ((sp_most (I 108) (I 117) (I 118) 2 (sp_most (I 108) (I 117) (I 118) 2 (-1))))), (1, .inl ((sp_most (I 108) (I 117) (I 118) 2 (-1)))), (0, .inr (.inr (.inl (some 107))))], [.inl ((sp_most (I 108) (I 117) (I 118) 2 (-1)))], (am_mm D I J ρ))) rfl ?_
      refine am_e_ireturn rfl rfl ?_
      show (_ : am_R) = _
      unfold sp_rounds
      (repeat' split) <;> first | rfl | (exfalso; omega)
    · show am_E _ _ _ 32 [(3, .inl ((sp_ahead (I 108) (I 117) (I 118) (sp_most (I 108) (I 117) (I 118) 2 (-1)) (sp_most (I 108) (I 117) (I 118) 2 (sp_most (I 108) (I 117) (I 118) 2 (-1)))))), (2, .inl ((sp_most (I 108) (I 117) (I 118) 2 (sp_most (I 108) (I 117) (I 118) 2 (-1))))), (1, .inl ((sp_most (I 108) (I 117) (I 118) 2 (-1)))), (0, .inr (.inr (.inl (some 107))))] [] (am_mm D I J ρ) _
      refine am_e_ss 1 (q := (33, [(3, .inl ((sp_ahead (I 108) (I 117) (I 118) (sp_most (I 108) (I 117) (I 118) 2 (-1)) (sp_most (I 108) (I 117) (I 118) 2 (sp_most (I 108) (I 117) (I 118) 2 (-1)))))), (2, .inl ((sp_most (I 108) (I 117) (I 118) 2 (sp_most (I 108) (I 117) (I 118) 2 (-1))))), (1, .inl ((sp_most (I 108) (I 117) (I 118) 2 (-1)))), (0, .inr (.inr (.inl (some 107))))], [.inl ((sp_ahead (I 108) (I 117) (I 118) (sp_most (I 108) (I 117) (I 118) 2 (-1)) (sp_most (I 108) (I 117) (I 118) 2 (sp_most (I 108) (I 117) (I 118) 2 (-1)))))], (am_mm D I J ρ))) rfl ?_
      refine am_e_if2 rfl ⟨by omega, by omega⟩ (fun (h3 : ¬ (sp_ahead (I 108) (I 117) (I 118) (sp_most (I 108) (I 117) (I 118) 2 (-1)) (sp_most (I 108) (I 117) (I 118) 2 (sp_most (I 108) (I 117) (I 118) 2 (-1)))) = 0) => ?_) (fun (h3 : ¬ (¬ (sp_ahead (I 108) (I 117) (I 118) (sp_most (I 108) (I 117) (I 118) 2 (-1)) (sp_most (I 108) (I 117) (I 118) 2 (sp_most (I 108) (I 117) (I 118) 2 (-1)))) = 0)) => ?_)
      · show am_E _ _ _ 45 [(3, .inl ((sp_ahead (I 108) (I 117) (I 118) (sp_most (I 108) (I 117) (I 118) 2 (-1)) (sp_most (I 108) (I 117) (I 118) 2 (sp_most (I 108) (I 117) (I 118) 2 (-1)))))), (2, .inl ((sp_most (I 108) (I 117) (I 118) 2 (sp_most (I 108) (I 117) (I 118) 2 (-1))))), (1, .inl ((sp_most (I 108) (I 117) (I 118) 2 (-1)))), (0, .inr (.inr (.inl (some 107))))] [] (am_mm D I J ρ) _
        refine am_e_ss 1 (q := (46, [(3, .inl ((sp_ahead (I 108) (I 117) (I 118) (sp_most (I 108) (I 117) (I 118) 2 (-1)) (sp_most (I 108) (I 117) (I 118) 2 (sp_most (I 108) (I 117) (I 118) 2 (-1)))))), (2, .inl ((sp_most (I 108) (I 117) (I 118) 2 (sp_most (I 108) (I 117) (I 118) 2 (-1))))), (1, .inl ((sp_most (I 108) (I 117) (I 118) 2 (-1)))), (0, .inr (.inr (.inl (some 107))))], [.inl ((sp_most (I 108) (I 117) (I 118) 2 (sp_most (I 108) (I 117) (I 118) 2 (-1))))], (am_mm D I J ρ))) rfl ?_
        refine am_e_ireturn rfl rfl ?_
        show (_ : am_R) = _
        unfold sp_rounds
        (repeat' split) <;> first | rfl | (exfalso; omega)
      · show am_E _ _ _ 36 [(3, .inl ((sp_ahead (I 108) (I 117) (I 118) (sp_most (I 108) (I 117) (I 118) 2 (-1)) (sp_most (I 108) (I 117) (I 118) 2 (sp_most (I 108) (I 117) (I 118) 2 (-1)))))), (2, .inl ((sp_most (I 108) (I 117) (I 118) 2 (sp_most (I 108) (I 117) (I 118) 2 (-1))))), (1, .inl ((sp_most (I 108) (I 117) (I 118) 2 (-1)))), (0, .inr (.inr (.inl (some 107))))] [] (am_mm D I J ρ) _
        refine am_e_ss 2 (q := (38, [(3, .inl ((sp_ahead (I 108) (I 117) (I 118) (sp_most (I 108) (I 117) (I 118) 2 (-1)) (sp_most (I 108) (I 117) (I 118) 2 (sp_most (I 108) (I 117) (I 118) 2 (-1)))))), (2, .inl ((sp_most (I 108) (I 117) (I 118) 2 (sp_most (I 108) (I 117) (I 118) 2 (-1))))), (1, .inl ((sp_most (I 108) (I 117) (I 118) 2 (-1)))), (0, .inr (.inr (.inl (some 107))))], [.inl ((sp_most (I 108) (I 117) (I 118) 2 (sp_most (I 108) (I 117) (I 118) 2 (-1)))), .inl ((sp_most (I 108) (I 117) (I 118) 2 (-1)))], (am_mm D I J ρ))) rfl ?_
        refine am_e_icmp2 rfl ⟨by omega, by omega⟩ ⟨by omega, by omega⟩ (fun (h4 : (sp_most (I 108) (I 117) (I 118) 2 (sp_most (I 108) (I 117) (I 118) 2 (-1))) ≤ (sp_most (I 108) (I 117) (I 118) 2 (-1))) => ?_) (fun (h4 : ¬ ((sp_most (I 108) (I 117) (I 118) 2 (sp_most (I 108) (I 117) (I 118) 2 (-1))) ≤ (sp_most (I 108) (I 117) (I 118) 2 (-1)))) => ?_)
        · show am_E _ _ _ 45 [(3, .inl ((sp_ahead (I 108) (I 117) (I 118) (sp_most (I 108) (I 117) (I 118) 2 (-1)) (sp_most (I 108) (I 117) (I 118) 2 (sp_most (I 108) (I 117) (I 118) 2 (-1)))))), (2, .inl ((sp_most (I 108) (I 117) (I 118) 2 (sp_most (I 108) (I 117) (I 118) 2 (-1))))), (1, .inl ((sp_most (I 108) (I 117) (I 118) 2 (-1)))), (0, .inr (.inr (.inl (some 107))))] [] (am_mm D I J ρ) _
          refine am_e_ss 1 (q := (46, [(3, .inl ((sp_ahead (I 108) (I 117) (I 118) (sp_most (I 108) (I 117) (I 118) 2 (-1)) (sp_most (I 108) (I 117) (I 118) 2 (sp_most (I 108) (I 117) (I 118) 2 (-1)))))), (2, .inl ((sp_most (I 108) (I 117) (I 118) 2 (sp_most (I 108) (I 117) (I 118) 2 (-1))))), (1, .inl ((sp_most (I 108) (I 117) (I 118) 2 (-1)))), (0, .inr (.inr (.inl (some 107))))], [.inl ((sp_most (I 108) (I 117) (I 118) 2 (sp_most (I 108) (I 117) (I 118) 2 (-1))))], (am_mm D I J ρ))) rfl ?_
          refine am_e_ireturn rfl rfl ?_
          show (_ : am_R) = _
          unfold sp_rounds
          (repeat' split) <;> first | rfl | (exfalso; omega)
        · show am_E _ _ _ 41 [(3, .inl ((sp_ahead (I 108) (I 117) (I 118) (sp_most (I 108) (I 117) (I 118) 2 (-1)) (sp_most (I 108) (I 117) (I 118) 2 (sp_most (I 108) (I 117) (I 118) 2 (-1)))))), (2, .inl ((sp_most (I 108) (I 117) (I 118) 2 (sp_most (I 108) (I 117) (I 118) 2 (-1))))), (1, .inl ((sp_most (I 108) (I 117) (I 118) 2 (-1)))), (0, .inr (.inr (.inl (some 107))))] [] (am_mm D I J ρ) _
          refine am_e_ss 2 (q := (46, [(3, .inl ((sp_ahead (I 108) (I 117) (I 118) (sp_most (I 108) (I 117) (I 118) 2 (-1)) (sp_most (I 108) (I 117) (I 118) 2 (sp_most (I 108) (I 117) (I 118) 2 (-1)))))), (2, .inl ((sp_most (I 108) (I 117) (I 118) 2 (sp_most (I 108) (I 117) (I 118) 2 (-1))))), (1, .inl ((sp_most (I 108) (I 117) (I 118) 2 (-1)))), (0, .inr (.inr (.inl (some 107))))], [.inl ((sp_most (I 108) (I 117) (I 118) 2 (-1)))], (am_mm D I J ρ))) rfl ?_
          refine am_e_ireturn rfl rfl ?_
          show (_ : am_R) = _
          unfold sp_rounds
          (repeat' split) <;> first | rfl | (exfalso; omega)
  · show am_E _ _ _ 19 [(2, .inl ((sp_most (I 108) (I 117) (I 118) 2 (sp_most (I 108) (I 117) (I 118) 2 (-1))))), (1, .inl ((sp_most (I 108) (I 117) (I 118) 2 (-1)))), (0, .inr (.inr (.inl (some 107))))] [] (am_mm D I J ρ) _
    refine am_e_ss 1 (q := (20, [(2, .inl ((sp_most (I 108) (I 117) (I 118) 2 (sp_most (I 108) (I 117) (I 118) 2 (-1))))), (1, .inl ((sp_most (I 108) (I 117) (I 118) 2 (-1)))), (0, .inr (.inr (.inl (some 107))))], [.inl ((sp_most (I 108) (I 117) (I 118) 2 (-1)))], (am_mm D I J ρ))) rfl ?_
    refine am_e_ireturn rfl rfl ?_
    show (_ : am_R) = _
    unfold sp_rounds
    (repeat' split) <;> first | rfl | (exfalso; omega)
theorem r_byPairs_l {X : Nat × (Nat → Int)} {D : List (Nat × Nat)} {I J : Nat → Nat → Int} {ρ : Nat → Nat → Option Nat} (d : Nat) {B t : Int} {a b n : Nat} (ha : (a : Int) < I 108 20) (hb : (b : Int) ≤ I 108 20) (hn : n + a + 1 = (I 108 20).toNat) (ht : t = sp_beats (I 108) (I 117) (I 118) a b) (hok : r_ok (I 108) B) (hvo : r_vo (I 108) (I 117) (I 118)) : am_E X (d + 3) 175 21 [(3, .inl (b : Int)), (2, .inl t), (1, .inl (a : Int)), (0, .inr (.inr (.inl (some 107))))] [] (am_mm D I J ρ) (fun r => r = (some (.inl ((sp_pairf (I 108) (I 117) (I 118) (n + 1) a))), (am_mm D I J ρ))) := by
  have hok2 := hok
  obtain ⟨o0, oG, oH, oD, o19, o20, o21, o22, o23, o24, oK, oV, oP, oM, oS, oY, oHd, oT, oC, oN⟩ := hok
  have hok := hok2
  have t01 := sp_beats_01 (S := I 108) (V := I 117) (Z := I 118) (a := a) b
  rw [← ht] at t01
  have ab := sp_ahk_b (V := I 117) (Z := I 118) (a := a) (b := b) (I 108 19).toNat
  have ab2 : -6 ≤ sp_ahead (I 108) (I 117) (I 118) a b ∧ sp_ahead (I 108) (I 117) (I 118) a b ≤ 6 := by unfold sp_ahead; omega
  refine am_e_ss 5 (q := (29, [(3, .inl (b : Int)), (2, .inl t), (1, .inl (a : Int)), (0, .inr (.inr (.inl (some 107))))], [.inl ((I 108 20)), .inl (b : Int)], (am_mm D I J ρ))) rfl ?_
  refine am_e_icmp2 rfl ⟨by omega, by omega⟩ ⟨by omega, by omega⟩ (fun (h1 : (I 108 20) ≤ (b : Int)) => ?_) (fun (h1 : ¬ ((I 108 20) ≤ (b : Int))) => ?_)
  · show am_E _ _ _ 70 [(3, .inl (b : Int)), (2, .inl t), (1, .inl (a : Int)), (0, .inr (.inr (.inl (some 107))))] [] (am_mm D I J ρ) _
    refine am_e_ss 1 (q := (71, [(3, .inl (b : Int)), (2, .inl t), (1, .inl (a : Int)), (0, .inr (.inr (.inl (some 107))))], [.inl t], (am_mm D I J ρ))) rfl ?_
    refine am_e_if2 rfl ⟨by omega, by omega⟩ (fun (h2 : t = 0) => ?_) (fun (h2 : ¬ (t = 0)) => ?_)
    · show am_E _ _ _ 76 [(3, .inl (b : Int)), (2, .inl t), (1, .inl (a : Int)), (0, .inr (.inr (.inl (some 107))))] [] (am_mm D I J ρ) _
      refine am_e_ss 7 (q := (10, [(1, .inl ((a : Int) + 1)), (3, .inl (b : Int)), (2, .inl t), (0, .inr (.inr (.inl (some 107))))], [.inl ((I 108 20)), .inl ((a : Int) + 1)], (am_mm D I J ρ))) rfl ?_
      refine am_e_icmp2 rfl ⟨by omega, by omega⟩ ⟨by omega, by omega⟩ (fun (h3 : (I 108 20) ≤ ((a : Int) + 1)) => ?_) (fun (h3 : ¬ ((I 108 20) ≤ ((a : Int) + 1))) => ?_)
      · show am_E _ _ _ 82 [(1, .inl ((a : Int) + 1)), (3, .inl (b : Int)), (2, .inl t), (0, .inr (.inr (.inl (some 107))))] [] (am_mm D I J ρ) _
        refine am_e_ss 3 (q := (85, [(1, .inl ((a : Int) + 1)), (3, .inl (b : Int)), (2, .inl t), (0, .inr (.inr (.inl (some 107))))], [.inl (-1), .inl 1, .inr (.inr (.inl (some 107)))], (am_mm D I J ρ))) rfl ?_
        refine am_e_virtual (Q := fun r => r = (some (.inl ((sp_most (I 108) (I 117) (I 118) 1 (-1)))), (am_mm D I J ρ))) rfl rfl (Nat.le_of_ble_eq_true rfl) rfl rfl (Nat.le_of_ble_eq_true rfl) (Nat.le_of_ble_eq_true rfl) (r_mostBy _ (B := B) ⟨by omega, by omega⟩ ⟨by omega, by omega⟩ hok hvo) ?_
        rintro r rfl
        show am_E _ _ _ 88 [(1, .inl ((a : Int) + 1)), (3, .inl (b : Int)), (2, .inl t), (0, .inr (.inr (.inl (some 107))))] [.inl ((sp_most (I 108) (I 117) (I 118) 1 (-1)))] (am_mm D I J ρ) _
        refine am_e_ireturn rfl rfl ?_
        rw [show sp_pairf (I 108) (I 117) (I 118) (n + 1) a = sp_pairf (I 108) (I 117) (I 118) n (a + 1) from if_pos (by rw [show (I 108 20).toNat = b by omega]; omega), show n = 0 by omega]
        rfl
      · show am_E _ _ _ 13 [(1, .inl ((a : Int) + 1)), (3, .inl (b : Int)), (2, .inl t), (0, .inr (.inr (.inl (some 107))))] [] (am_mm D I J ρ) _
        refine am_e_ss 2 (q := (15, [(1, .inl ((a : Int) + 1)), (3, .inl (b : Int)), (2, .inl t), (0, .inr (.inr (.inl (some 107))))], [.inl ((a : Int) + 1), .inr (.inr (.inl (some 107)))], (am_mm D I J ρ))) rfl ?_
        refine am_e_virtual (Q := fun r => r = (some (.inl ((am_bi ((I 108 (13 + (a + 1))) = 0)))), (am_mm D I J ρ))) rfl rfl (Nat.le_of_ble_eq_true rfl) rfl rfl (Nat.le_of_ble_eq_true rfl) (Nat.le_of_ble_eq_true rfl) (r_isOpen _ (v := ((a : Int) + 1)) ⟨by omega, by omega⟩ (by exact oD (a + 1) (by omega))) ?_
        rintro r rfl
        show am_E _ _ _ 18 [(1, .inl ((a : Int) + 1)), (3, .inl (b : Int)), (2, .inl t), (0, .inr (.inr (.inl (some 107))))] [.inl ((am_bi ((I 108 (13 + (a + 1))) = 0)))] (am_mm D I J ρ) _
        refine am_e_ss 3 (q := (21, [(3, .inl 0), (2, .inl ((am_bi ((I 108 (13 + (a + 1))) = 0)))), (1, .inl ((a : Int) + 1)), (0, .inr (.inr (.inl (some 107))))], [], (am_mm D I J ρ))) rfl ?_
        obtain ⟨n', rfl⟩ : ∃ n', n = n' + 1 := ⟨n - 1, by omega⟩
        rw [show sp_pairf (I 108) (I 117) (I 118) (n' + 1 + 1) a = sp_pairf (I 108) (I 117) (I 118) (n' + 1) (a + 1) from if_pos (by rw [show (I 108 20).toNat = b by omega]; omega)]
        exact am_less (lv := [(3, .inl 0), (2, .inl ((am_bi ((I 108 (13 + (a + 1))) = 0)))), (1, .inl ((a + 1) : Int)), (0, .inr (.inr (.inl (some 107))))]) rfl (List.forall_mem_cons.mpr ⟨rfl, List.forall_mem_cons.mpr ⟨rfl, List.forall_mem_cons.mpr ⟨rfl, List.forall_mem_cons.mpr ⟨rfl, List.forall_mem_nil _⟩⟩⟩⟩) (r_byPairs_l d (t := (am_bi ((I 108 (13 + (a + 1))) = 0))) (a := a + 1) (b := 0) (n := n') (by omega) (by omega) (by omega) (by show _ = (if I 108 (13 + (a + 1)) = 0 then (1 : Int) else 0); first | rfl | omega) hok hvo)
    · show am_E _ _ _ 74 [(3, .inl (b : Int)), (2, .inl t), (1, .inl (a : Int)), (0, .inr (.inr (.inl (some 107))))] [] (am_mm D I J ρ) _
      refine am_e_ss 1 (q := (75, [(3, .inl (b : Int)), (2, .inl t), (1, .inl (a : Int)), (0, .inr (.inr (.inl (some 107))))], [.inl (a : Int)], (am_mm D I J ρ))) rfl ?_
      refine am_e_ireturn rfl rfl ?_
      rw [show sp_pairf (I 108) (I 117) (I 118) (n + 1) a = (a : Int) from if_neg (by rw [show (I 108 20).toNat = b by omega]; omega)]
  · show am_E _ _ _ 32 [(3, .inl (b : Int)), (2, .inl t), (1, .inl (a : Int)), (0, .inr (.inr (.inl (some 107))))] [] (am_mm D I J ρ) _
    refine am_e_ss 1 (q := (33, [(3, .inl (b : Int)), (2, .inl t), (1, .inl (a : Int)), (0, .inr (.inr (.inl (some 107))))], [.inl t], (am_mm D I J ρ))) rfl ?_
    refine am_e_if2 rfl ⟨by omega, by omega⟩ (fun (h4 : t = 0) => ?_) (fun (h4 : ¬ (t = 0)) => ?_)
    · show am_E _ _ _ 62 [(3, .inl (b : Int)), (2, .inl t), (1, .inl (a : Int)), (0, .inr (.inr (.inl (some 107))))] [] (am_mm D I J ρ) _
      refine am_e_ss 4 (q := (21, [(3, .inl ((b : Int) + 1)), (2, .inl 0), (1, .inl (a : Int)), (0, .inr (.inr (.inl (some 107))))], [], (am_mm D I J ρ))) rfl ?_
      have e9 : (0 : Int) = sp_beats (I 108) (I 117) (I 118) a (b + 1) := by
        show _ = (if _ then _ else _)
        (repeat' split) <;> omega
      exact am_less (lv := [(3, .inl ((b + 1) : Int)), (2, .inl 0), (1, .inl (a : Int)), (0, .inr (.inr (.inl (some 107))))]) rfl (List.forall_mem_cons.mpr ⟨rfl, List.forall_mem_cons.mpr ⟨rfl, List.forall_mem_cons.mpr ⟨rfl, List.forall_mem_cons.mpr ⟨rfl, List.forall_mem_nil _⟩⟩⟩⟩) (r_byPairs_l d (a := a) (b := b + 1) (n := n) ha (by omega) hn e9 hok hvo)
    · show am_E _ _ _ 36 [(3, .inl (b : Int)), (2, .inl t), (1, .inl (a : Int)), (0, .inr (.inr (.inl (some 107))))] [] (am_mm D I J ρ) _
      refine am_e_ss 2 (q := (38, [(3, .inl (b : Int)), (2, .inl t), (1, .inl (a : Int)), (0, .inr (.inr (.inl (some 107))))], [.inl (a : Int), .inl (b : Int)], (am_mm D I J ρ))) rfl ?_
      refine am_e_icmp2 rfl ⟨by omega, by omega⟩ ⟨by omega, by omega⟩ (fun (h5 : (b : Int) = (a : Int)) => ?_) (fun (h5 : ¬ ((b : Int) = (a : Int))) => ?_)
      · show am_E _ _ _ 58 [(3, .inl (b : Int)), (2, .inl t), (1, .inl (a : Int)), (0, .inr (.inr (.inl (some 107))))] [] (am_mm D I J ρ) _
        refine am_e_ss 5 (q := (21, [(3, .inl ((b : Int) + 1)), (2, .inl 1), (1, .inl (a : Int)), (0, .inr (.inr (.inl (some 107))))], [], (am_mm D I J ρ))) rfl ?_
        have e9 : (1 : Int) = sp_beats (I 108) (I 117) (I 118) a (b + 1) := by
          show _ = (if _ then _ else _)
          (repeat' split) <;> omega
        exact am_less (lv := [(3, .inl ((b + 1) : Int)), (2, .inl 1), (1, .inl (a : Int)), (0, .inr (.inr (.inl (some 107))))]) rfl (List.forall_mem_cons.mpr ⟨rfl, List.forall_mem_cons.mpr ⟨rfl, List.forall_mem_cons.mpr ⟨rfl, List.forall_mem_cons.mpr ⟨rfl, List.forall_mem_nil _⟩⟩⟩⟩) (r_byPairs_l d (a := a) (b := b + 1) (n := n) ha (by omega) hn e9 hok hvo)
      · show am_E _ _ _ 41 [(3, .inl (b : Int)), (2, .inl t), (1, .inl (a : Int)), (0, .inr (.inr (.inl (some 107))))] [] (am_mm D I J ρ) _
        refine am_e_ss 2 (q := (43, [(3, .inl (b : Int)), (2, .inl t), (1, .inl (a : Int)), (0, .inr (.inr (.inl (some 107))))], [.inl (b : Int), .inr (.inr (.inl (some 107)))], (am_mm D I J ρ))) rfl ?_
        refine am_e_virtual (Q := fun r => r = (some (.inl ((am_bi ((I 108 (13 + b)) = 0)))), (am_mm D I J ρ))) rfl rfl (Nat.le_of_ble_eq_true rfl) rfl rfl (Nat.le_of_ble_eq_true rfl) (Nat.le_of_ble_eq_true rfl) (r_isOpen _ (v := (b : Int)) ⟨by omega, by omega⟩ (by exact oD b (by omega))) ?_
        rintro r rfl
        show am_E _ _ _ 46 [(3, .inl (b : Int)), (2, .inl t), (1, .inl (a : Int)), (0, .inr (.inr (.inl (some 107))))] [.inl ((am_bi ((I 108 (13 + b)) = 0)))] (am_mm D I J ρ) _
        refine am_e_ifeq rfl (fun h6 => ?_) (fun h6 => ?_)
        · show am_E _ _ _ 58 [(3, .inl (b : Int)), (2, .inl t), (1, .inl (a : Int)), (0, .inr (.inr (.inl (some 107))))] [] (am_mm D I J ρ) _
          refine am_e_ss 5 (q := (21, [(3, .inl ((b : Int) + 1)), (2, .inl 1), (1, .inl (a : Int)), (0, .inr (.inr (.inl (some 107))))], [], (am_mm D I J ρ))) rfl ?_
          have e9 : (1 : Int) = sp_beats (I 108) (I 117) (I 118) a (b + 1) := by
            show _ = (if _ then _ else _)
            (repeat' split) <;> omega
          exact am_less (lv := [(3, .inl ((b + 1) : Int)), (2, .inl 1), (1, .inl (a : Int)), (0, .inr (.inr (.inl (some 107))))]) rfl (List.forall_mem_cons.mpr ⟨rfl, List.forall_mem_cons.mpr ⟨rfl, List.forall_mem_cons.mpr ⟨rfl, List.forall_mem_cons.mpr ⟨rfl, List.forall_mem_nil _⟩⟩⟩⟩) (r_byPairs_l d (a := a) (b := b + 1) (n := n) ha (by omega) hn e9 hok hvo)
        · show am_E _ _ _ 49 [(3, .inl (b : Int)), (2, .inl t), (1, .inl (a : Int)), (0, .inr (.inr (.inl (some 107))))] [] (am_mm D I J ρ) _
          refine am_e_ss 3 (q := (52, [(3, .inl (b : Int)), (2, .inl t), (1, .inl (a : Int)), (0, .inr (.inr (.inl (some 107))))], [.inl (b : Int), .inl (a : Int), .inr (.inr (.inl (some 107)))], (am_mm D I J ρ))) rfl ?_
          refine am_e_virtual (Q := fun r => r = (some (.inl ((sp_ahead (I 108) (I 117) (I 118) (a : Int) (b : Int)))), (am_mm D I J ρ))) rfl rfl (Nat.le_of_ble_eq_true rfl) rfl rfl (Nat.le_of_ble_eq_true rfl) (Nat.le_of_ble_eq_true rfl) (r_aheadBy _ (B := B) ⟨by omega, by omega⟩ ⟨by omega, by omega⟩ hok hvo) ?_
          rintro r rfl
          show am_E _ _ _ 55 [(3, .inl (b : Int)), (2, .inl t), (1, .inl (a : Int)), (0, .inr (.inr (.inl (some 107))))] [.inl ((sp_ahead (I 108) (I 117) (I 118) (a : Int) (b : Int)))] (am_mm D I J ρ) _
          refine am_e_if2 rfl ⟨by omega, by omega⟩ (fun (h7 : (sp_ahead (I 108) (I 117) (I 118) (a : Int) (b : Int)) ≤ 0) => ?_) (fun (h7 : ¬ ((sp_ahead (I 108) (I 117) (I 118) (a : Int) (b : Int)) ≤ 0)) => ?_)
          · show am_E _ _ _ 62 [(3, .inl (b : Int)), (2, .inl t), (1, .inl (a : Int)), (0, .inr (.inr (.inl (some 107))))] [] (am_mm D I J ρ) _
            refine am_e_ss 4 (q := (21, [(3, .inl ((b : Int) + 1)), (2, .inl 0), (1, .inl (a : Int)), (0, .inr (.inr (.inl (some 107))))], [], (am_mm D I J ρ))) rfl ?_
            have e9 : (0 : Int) = sp_beats (I 108) (I 117) (I 118) a (b + 1) := by
              show _ = (if _ then _ else _)
              (repeat' split) <;> omega
            exact am_less (lv := [(3, .inl ((b + 1) : Int)), (2, .inl 0), (1, .inl (a : Int)), (0, .inr (.inr (.inl (some 107))))]) rfl (List.forall_mem_cons.mpr ⟨rfl, List.forall_mem_cons.mpr ⟨rfl, List.forall_mem_cons.mpr ⟨rfl, List.forall_mem_cons.mpr ⟨rfl, List.forall_mem_nil _⟩⟩⟩⟩) (r_byPairs_l d (a := a) (b := b + 1) (n := n) ha (by omega) hn e9 hok hvo)
          · show am_E _ _ _ 58 [(3, .inl (b : Int)), (2, .inl t), (1, .inl (a : Int)), (0, .inr (.inr (.inl (some 107))))] [] (am_mm D I J ρ) _
            refine am_e_ss 5 (q := (21, [(3, .inl ((b : Int) + 1)), (2, .inl 1), (1, .inl (a : Int)), (0, .inr (.inr (.inl (some 107))))], [], (am_mm D I J ρ))) rfl ?_
            have e9 : (1 : Int) = sp_beats (I 108) (I 117) (I 118) a (b + 1) := by
              show _ = (if _ then _ else _)
              (repeat' split) <;> omega
            exact am_less (lv := [(3, .inl ((b + 1) : Int)), (2, .inl 1), (1, .inl (a : Int)), (0, .inr (.inr (.inl (some 107))))]) rfl (List.forall_mem_cons.mpr ⟨rfl, List.forall_mem_cons.mpr ⟨rfl, List.forall_mem_cons.mpr ⟨rfl, List.forall_mem_cons.mpr ⟨rfl, List.forall_mem_nil _⟩⟩⟩⟩) (r_byPairs_l d (a := a) (b := b + 1) (n := n) ha (by omega) hn e9 hok hvo)
termination_by (7 * n + (7 - b))
decreasing_by all_goals omega
theorem r_byPairs {X : Nat × (Nat → Int)} {D : List (Nat × Nat)} {I J : Nat → Nat → Int} {ρ : Nat → Nat → Option Nat} (d : Nat) {B : Int} (hok : r_ok (I 108) B) (hvo : r_vo (I 108) (I 117) (I 118)) : am_E X (d + 3) 175 0 [(0, .inr (.inr (.inl (some 107))))] [] (am_mm D I J ρ) (fun r => r = (some (.inl ((sp_pairs (I 108) (I 117) (I 118)))), (am_mm D I J ρ))) := by
  have hok2 := hok
  obtain ⟨o0, oG, oH, oD, o19, o20, o21, o22, o23, o24, oK, oV, oP, oM, oS, oY, oHd, oT, oC, oN⟩ := hok
  have hok := hok2
  refine am_e_ss 7 (q := (10, [(1, .inl 0), (0, .inr (.inr (.inl (some 107))))], [.inl ((I 108 20)), .inl 0], (am_mm D I J ρ))) rfl ?_
  refine am_e_icmp2 rfl ⟨by omega, by omega⟩ ⟨by omega, by omega⟩ (fun (h1 : (I 108 20) ≤ 0) => ?_) (fun (h1 : ¬ ((I 108 20) ≤ 0)) => ?_)
  · show am_E _ _ _ 82 [(1, .inl 0), (0, .inr (.inr (.inl (some 107))))] [] (am_mm D I J ρ) _
    refine am_e_ss 3 (q := (85, [(1, .inl 0), (0, .inr (.inr (.inl (some 107))))], [.inl (-1), .inl 1, .inr (.inr (.inl (some 107)))], (am_mm D I J ρ))) rfl ?_
    refine am_e_virtual (Q := fun r => r = (some (.inl ((sp_most (I 108) (I 117) (I 118) 1 (-1)))), (am_mm D I J ρ))) rfl rfl (Nat.le_of_ble_eq_true rfl) rfl rfl (Nat.le_of_ble_eq_true rfl) (Nat.le_of_ble_eq_true rfl) (r_mostBy _ (B := B) ⟨by omega, by omega⟩ ⟨by omega, by omega⟩ hok hvo) ?_
    rintro r rfl
    show am_E _ _ _ 88 [(1, .inl 0), (0, .inr (.inr (.inl (some 107))))] [.inl ((sp_most (I 108) (I 117) (I 118) 1 (-1)))] (am_mm D I J ρ) _
    refine am_e_ireturn rfl rfl ?_
    unfold sp_pairs
    rw [show (I 108 20).toNat = 0 by omega]
    rfl
  · show am_E _ _ _ 13 [(1, .inl 0), (0, .inr (.inr (.inl (some 107))))] [] (am_mm D I J ρ) _
    refine am_e_ss 2 (q := (15, [(1, .inl 0), (0, .inr (.inr (.inl (some 107))))], [.inl 0, .inr (.inr (.inl (some 107)))], (am_mm D I J ρ))) rfl ?_
    refine am_e_virtual (Q := fun r => r = (some (.inl ((am_bi ((I 108 (13 + 0)) = 0)))), (am_mm D I J ρ))) rfl rfl (Nat.le_of_ble_eq_true rfl) rfl rfl (Nat.le_of_ble_eq_true rfl) (Nat.le_of_ble_eq_true rfl) (r_isOpen _ (v := 0) ⟨by omega, by omega⟩ (by exact oD 0 (by omega))) ?_
    rintro r rfl
    show am_E _ _ _ 18 [(1, .inl 0), (0, .inr (.inr (.inl (some 107))))] [.inl ((am_bi ((I 108 (13 + 0)) = 0)))] (am_mm D I J ρ) _
    refine am_e_ss 3 (q := (21, [(3, .inl 0), (2, .inl ((am_bi ((I 108 (13 + 0)) = 0)))), (1, .inl 0), (0, .inr (.inr (.inl (some 107))))], [], (am_mm D I J ρ))) rfl ?_
    obtain ⟨n', en⟩ : ∃ n', (I 108 20).toNat = n' + 1 := ⟨(I 108 20).toNat - 1, by omega⟩
    unfold sp_pairs
    rw [en]
    exact am_less (lv := [(3, .inl 0), (2, .inl ((am_bi ((I 108 (13 + 0)) = 0)))), (1, .inl (0 : Int)), (0, .inr (.inr (.inl (some 107))))]) rfl (List.forall_mem_cons.mpr ⟨rfl, List.forall_mem_cons.mpr ⟨rfl, List.forall_mem_cons.mpr ⟨rfl, List.forall_mem_cons.mpr ⟨rfl, List.forall_mem_nil _⟩⟩⟩⟩) (r_byPairs_l d (t := (am_bi ((I 108 (13 + 0)) = 0))) (a := 0) (b := 0) (n := n') (by omega) (by omega) (by omega) rfl hok hvo)
theorem sp_here_pop {S : Nat → Int} {B : Int} (hok : r_ok S B) : am_pop (sp_here S) = am_cnt (fun m => decide (S (7 + m) = 0)) (S 19).toNat := by
  obtain ⟨o0, oG, oH, oD, o19, o20, o21, o22, o23, o24, oK, oV, oP, oM, oS, oY, oHd, oT, oC, oN⟩ := hok
  exact am_pop_bits _ _ (by omega)
theorem sp_open_pop {S : Nat → Int} {B : Int} (hok : r_ok S B) : am_pop (sp_open S) = am_cnt (fun b => decide (S (13 + b) = 0)) (S 20).toNat := by
  obtain ⟨o0, oG, oH, oD, o19, o20, o21, o22, o23, o24, oK, oV, oP, oM, oS, oY, oHd, oT, oC, oN⟩ := hok
  exact am_pop_bits _ _ (by omega)
theorem r_byTurns_l {X : Nat × (Nat → Int)} {D : List (Nat × Nat)} {I J : Nat → Nat → Int} {ρ : Nat → Nat → Option Nat} (d : Nat) {B pl : Int} {m n : Nat} (hpl : 0 ≤ pl ∧ pl ≤ (m : Int)) (hn : n + m = (I 108 19).toNat) (hok : r_ok (I 108) B) (hvo : r_vo (I 108) (I 117) (I 118)) : am_E X (d + 3) 176 12 [(3, .inl (m : Int)), (2, .inl pl), (1, .inl ((am_pop (sp_here (I 108))))), (0, .inr (.inr (.inl (some 107))))] [] (am_mm D I J ρ) (fun r => r = (some (.inl ((sp_turnf (I 108) (I 117) (I 118) (I 114) n m pl))), (am_mm D I J ρ))) := by
  have hok2 := hok
  obtain ⟨o0, oG, oH, oD, o19, o20, o21, o22, o23, o24, oK, oV, oP, oM, oS, oY, oHd, oT, oC, oN⟩ := hok
  have hok := hok2
  refine am_e_ss 5 (q := (20, [(3, .inl (m : Int)), (2, .inl pl), (1, .inl ((am_pop (sp_here (I 108))))), (0, .inr (.inr (.inl (some 107))))], [.inl ((I 108 19)), .inl (m : Int)], (am_mm D I J ρ))) rfl ?_
  refine am_e_icmp2 rfl ⟨by omega, by omega⟩ ⟨by omega, by omega⟩ (fun (h1 : (I 108 19) ≤ (m : Int)) => ?_) (fun (h1 : ¬ ((I 108 19) ≤ (m : Int))) => ?_)
  · show am_E _ _ _ 83 [(3, .inl (m : Int)), (2, .inl pl), (1, .inl ((am_pop (sp_here (I 108))))), (0, .inr (.inr (.inl (some 107))))] [] (am_mm D I J ρ) _
    refine am_e_ss 3 (q := (86, [(3, .inl (m : Int)), (2, .inl pl), (1, .inl ((am_pop (sp_here (I 108))))), (0, .inr (.inr (.inl (some 107))))], [.inl (-1), .inl 2, .inr (.inr (.inl (some 107)))], (am_mm D I J ρ))) rfl ?_
    refine am_e_virtual (Q := fun r => r = (some (.inl ((sp_most (I 108) (I 117) (I 118) 2 (-1)))), (am_mm D I J ρ))) rfl rfl (Nat.le_of_ble_eq_true rfl) rfl rfl (Nat.le_of_ble_eq_true rfl) (Nat.le_of_ble_eq_true rfl) (r_mostBy _ (B := B) ⟨by omega, by omega⟩ ⟨by omega, by omega⟩ hok hvo) ?_
    rintro r rfl
    show am_E _ _ _ 89 [(3, .inl (m : Int)), (2, .inl pl), (1, .inl ((am_pop (sp_here (I 108))))), (0, .inr (.inr (.inl (some 107))))] [.inl ((sp_most (I 108) (I 117) (I 118) 2 (-1)))] (am_mm D I J ρ) _
    refine am_e_ireturn rfl rfl ?_
    rw [show n = 0 by omega]
    rfl
  · show am_E _ _ _ 23 [(3, .inl (m : Int)), (2, .inl pl), (1, .inl ((am_pop (sp_here (I 108))))), (0, .inr (.inr (.inl (some 107))))] [] (am_mm D I J ρ) _
    have hz := (hvo m (by omega)).1
    refine am_e_ss 2 (q := (25, [(3, .inl (m : Int)), (2, .inl pl), (1, .inl ((am_pop (sp_here (I 108))))), (0, .inr (.inr (.inl (some 107))))], [.inl (m : Int), .inr (.inr (.inl (some 107)))], (am_mm D I J ρ))) rfl ?_
    refine am_e_virtual (Q := fun r => r = (some (.inl ((am_bi ((I 108 (7 + m)) = 0)))), (am_mm D I J ρ))) rfl rfl (Nat.le_of_ble_eq_true rfl) rfl rfl (Nat.le_of_ble_eq_true rfl) (Nat.le_of_ble_eq_true rfl) (r_isHere _ (v := (m : Int)) ⟨by omega, by omega⟩ (by exact oH m (by omega))) ?_
    rintro r rfl
    show am_E _ _ _ 28 [(3, .inl (m : Int)), (2, .inl pl), (1, .inl ((am_pop (sp_here (I 108))))), (0, .inr (.inr (.inl (some 107))))] [.inl ((am_bi ((I 108 (7 + m)) = 0)))] (am_mm D I J ρ) _
    refine am_e_ifeq rfl (fun h2 => ?_) (fun h2 => ?_)
    · show am_E _ _ _ 77 [(3, .inl (m : Int)), (2, .inl pl), (1, .inl ((am_pop (sp_here (I 108))))), (0, .inr (.inr (.inl (some 107))))] [] (am_mm D I J ρ) _
      refine am_e_ss 2 (q := (12, [(3, .inl ((m : Int) + 1)), (2, .inl pl), (1, .inl ((am_pop (sp_here (I 108))))), (0, .inr (.inr (.inl (some 107))))], [], (am_mm D I J ρ))) rfl ?_
      obtain ⟨n', rfl⟩ : ∃ n', n = n' + 1 := ⟨n - 1, by omega⟩
      rw [show sp_turnf (I 108) (I 117) (I 118) (I 114) (n' + 1) m pl = sp_turnf (I 108) (I 117) (I 118) (I 114) n' (m + 1) pl by (show (if _ then _ else _) = _; (repeat' split) <;> first | rfl | (exfalso; omega))]
      exact am_less (lv := [(3, .inl ((m + 1) : Int)), (2, .inl pl), (1, .inl ((am_pop (sp_here (I 108))))), (0, .inr (.inr (.inl (some 107))))]) rfl (List.forall_mem_cons.mpr ⟨rfl, List.forall_mem_cons.mpr ⟨rfl, List.forall_mem_cons.mpr ⟨rfl, List.forall_mem_cons.mpr ⟨rfl, List.forall_mem_nil _⟩⟩⟩⟩) (r_byTurns_l d (m := m + 1) (n := n') ⟨by omega, by omega⟩ (by omega) hok hvo)
    · show am_E _ _ _ 31 [(3, .inl (m : Int)), (2, .inl pl), (1, .inl ((am_pop (sp_here (I 108))))), (0, .inr (.inr (.inl (some 107))))] [] (am_mm D I J ρ) _
      have hp := sp_here_pop hok
      have hp2 := am_cnt_b (fun m => decide (I 108 (7 + m) = 0)) (I 108 19).toNat
      have hp3 := am_cnt_pos (p := fun m => decide (I 108 (7 + m) = 0)) (m := m) (decide_eq_true h2) (I 108 19).toNat (by omega)
      have em : 0 ≤ I 108 0 % (am_pop (sp_here (I 108))) ∧ I 108 0 % (am_pop (sp_here (I 108))) < 7 := ⟨Int.emod_nonneg _ (by omega), by have := Int.emod_lt_of_pos (I 108 0) (show 0 < (am_pop (sp_here (I 108))) by omega); omega⟩
      refine am_e_ss 6 (q := (39, [(3, .inl (m : Int)), (2, .inl pl), (1, .inl ((am_pop (sp_here (I 108))))), (0, .inr (.inr (.inl (some 107))))], [.inl ((am_pop (sp_here (I 108)))), .inl ((I 108 0)), .inl pl], (am_mm D I J ρ))) rfl ?_
      refine am_e_iremp rfl ⟨by omega, by omega⟩ ⟨by omega, by omega⟩ ?_
      show am_E _ _ _ 40 [(3, .inl (m : Int)), (2, .inl pl), (1, .inl ((am_pop (sp_here (I 108))))), (0, .inr (.inr (.inl (some 107))))] [.inl (((I 108 0) % (am_pop (sp_here (I 108))))), .inl pl] (am_mm D I J ρ) _
      refine am_e_icmp2 rfl ⟨by omega, by omega⟩ ⟨by omega, by omega⟩ (fun (h3 : ¬ pl = ((I 108 0) % (am_pop (sp_here (I 108))))) => ?_) (fun (h3 : ¬ (¬ pl = ((I 108 0) % (am_pop (sp_here (I 108)))))) => ?_)
      · show am_E _ _ _ 74 [(3, .inl (m : Int)), (2, .inl pl), (1, .inl ((am_pop (sp_here (I 108))))), (0, .inr (.inr (.inl (some 107))))] [] (am_mm D I J ρ) _
        refine am_e_ss 3 (q := (12, [(3, .inl ((m : Int) + 1)), (2, .inl (pl + 1)), (1, .inl ((am_pop (sp_here (I 108))))), (0, .inr (.inr (.inl (some 107))))], [], (am_mm D I J ρ))) rfl ?_
        obtain ⟨n', rfl⟩ : ∃ n', n = n' + 1 := ⟨n - 1, by omega⟩
        rw [show sp_turnf (I 108) (I 117) (I 118) (I 114) (n' + 1) m pl = sp_turnf (I 108) (I 117) (I 118) (I 114) n' (m + 1) (pl + 1) by (show (if _ then _ else _) = _; (repeat' split) <;> first | rfl | (exfalso; omega))]
        exact am_less (lv := [(3, .inl ((m + 1) : Int)), (2, .inl ((pl + 1))), (1, .inl ((am_pop (sp_here (I 108))))), (0, .inr (.inr (.inl (some 107))))]) rfl (List.forall_mem_cons.mpr ⟨rfl, List.forall_mem_cons.mpr ⟨rfl, List.forall_mem_cons.mpr ⟨rfl, List.forall_mem_cons.mpr ⟨rfl, List.forall_mem_nil _⟩⟩⟩⟩) (r_byTurns_l d (m := m + 1) (n := n') ⟨by omega, by omega⟩ (by omega) hok hvo)
      · show am_E _ _ _ 43 [(3, .inl (m : Int)), (2, .inl pl), (1, .inl ((am_pop (sp_here (I 108))))), (0, .inr (.inr (.inl (some 107))))] [] (am_mm D I J ρ) _
        refine am_e_ss 3 (q := (48, [(3, .inl (m : Int)), (2, .inl pl), (1, .inl ((am_pop (sp_here (I 108))))), (0, .inr (.inr (.inl (some 107))))], [.inl (m : Int), .inr (.inr (.inl (some 118)))], (am_mm D I J ρ))) rfl ?_
        refine am_e_iaload (m := 6) rfl rfl (by omega) (by omega) (by omega) ?_
        show am_E _ _ _ 49 [(3, .inl (m : Int)), (2, .inl pl), (1, .inl ((am_pop (sp_here (I 108))))), (0, .inr (.inr (.inl (some 107))))] [.inl ((I 118 m))] (am_mm D I J ρ) _
        refine am_e_if2 rfl ⟨by omega, by omega⟩ (fun (h4 : (I 118 m) ≤ 0) => ?_) (fun (h4 : ¬ ((I 118 m) ≤ 0)) => ?_)
        · show am_E _ _ _ 64 [(3, .inl (m : Int)), (2, .inl pl), (1, .inl ((am_pop (sp_here (I 108))))), (0, .inr (.inr (.inl (some 107))))] [] (am_mm D I J ρ) _
          refine am_e_ss 5 (q := (72, [(3, .inl (m : Int)), (2, .inl pl), (1, .inl ((am_pop (sp_here (I 108))))), (0, .inr (.inr (.inl (some 107))))], [.inl (6 * (m : Int)), .inr (.inr (.inl (some 114)))], (am_mm D I J ρ))) rfl ?_
          refine am_e_iaload (m := 36) rfl rfl (by omega) (by omega) (by omega) ?_
          show am_E _ _ _ 73 [(3, .inl (m : Int)), (2, .inl pl), (1, .inl ((am_pop (sp_here (I 108))))), (0, .inr (.inr (.inl (some 107))))] [.inl ((I 114 (6 * m)))] (am_mm D I J ρ) _
          refine am_e_ireturn rfl rfl ?_
          obtain ⟨n', rfl⟩ : ∃ n', n = n' + 1 := ⟨n - 1, by omega⟩
          rw [show sp_turnf (I 108) (I 117) (I 118) (I 114) (n' + 1) m pl = (I 114 (6 * m)) by (show (if _ then _ else _) = _; (repeat' split) <;> first | rfl | (exfalso; omega))]
        · show am_E _ _ _ 52 [(3, .inl (m : Int)), (2, .inl pl), (1, .inl ((am_pop (sp_here (I 108))))), (0, .inr (.inr (.inl (some 107))))] [] (am_mm D I J ρ) _
          refine am_e_ss 5 (q := (60, [(3, .inl (m : Int)), (2, .inl pl), (1, .inl ((am_pop (sp_here (I 108))))), (0, .inr (.inr (.inl (some 107))))], [.inl (6 * (m : Int)), .inr (.inr (.inl (some 117)))], (am_mm D I J ρ))) rfl ?_
          refine am_e_iaload (m := 36) rfl rfl (by omega) (by omega) (by omega) ?_
          show am_E _ _ _ 61 [(3, .inl (m : Int)), (2, .inl pl), (1, .inl ((am_pop (sp_here (I 108))))), (0, .inr (.inr (.inl (some 107))))] [.inl ((I 117 (6 * m)))] (am_mm D I J ρ) _
          refine am_e_ss 1 (q := (73, [(3, .inl (m : Int)), (2, .inl pl), (1, .inl ((am_pop (sp_here (I 108))))), (0, .inr (.inr (.inl (some 107))))], [.inl ((I 117 (6 * m)))], (am_mm D I J ρ))) rfl ?_
          refine am_e_ireturn rfl rfl ?_
          obtain ⟨n', rfl⟩ : ∃ n', n = n' + 1 := ⟨n - 1, by omega⟩
          rw [show sp_turnf (I 108) (I 117) (I 118) (I 114) (n' + 1) m pl = (I 117 (6 * m)) by (show (if _ then _ else _) = _; (repeat' split) <;> first | rfl | (exfalso; omega))]
termination_by n
decreasing_by all_goals omega
theorem r_byTurns {X : Nat × (Nat → Int)} {D : List (Nat × Nat)} {I J : Nat → Nat → Int} {ρ : Nat → Nat → Option Nat} (d : Nat) {B : Int} (hok : r_ok (I 108) B) (hvo : r_vo (I 108) (I 117) (I 118)) : am_E X (d + 3) 176 0 [(0, .inr (.inr (.inl (some 107))))] [] (am_mm D I J ρ) (fun r => r = (some (.inl ((sp_turns (I 108) (I 117) (I 118) (I 114)))), (am_mm D I J ρ))) := by
  have hok2 := hok
  obtain ⟨o0, oG, oH, oD, o19, o20, o21, o22, o23, o24, oK, oV, oP, oM, oS, oY, oHd, oT, oC, oN⟩ := hok
  have hok := hok2
  refine am_e_ss 1 (q := (1, [(0, .inr (.inr (.inl (some 107))))], [.inr (.inr (.inl (some 107)))], (am_mm D I J ρ))) rfl ?_
  refine am_e_virtual (Q := fun r => r = (some (.inl ((sp_here (I 108)))), (am_mm D I J ρ))) rfl rfl (Nat.le_of_ble_eq_true rfl) rfl rfl (Nat.le_of_ble_eq_true rfl) (Nat.le_of_ble_eq_true rfl) (r_membersHere _ (B := B) hok) ?_
  rintro r rfl
  show am_E _ _ _ 4 [(0, .inr (.inr (.inl (some 107))))] [.inl ((sp_here (I 108)))] (am_mm D I J ρ) _
  refine am_e_static (Q := fun r => r = (some (.inl ((am_pop (sp_here (I 108))))), (am_mm D I J ρ))) rfl (Nat.le_of_ble_eq_true rfl) rfl (Nat.le_of_ble_eq_true rfl) (Nat.le_of_ble_eq_true rfl) (r_count1 _) ?_
  rintro r rfl
  show am_E _ _ _ 7 [(0, .inr (.inr (.inl (some 107))))] [.inl ((am_pop (sp_here (I 108))))] (am_mm D I J ρ) _
  refine am_e_ss 5 (q := (12, [(3, .inl 0), (2, .inl 0), (1, .inl ((am_pop (sp_here (I 108))))), (0, .inr (.inr (.inl (some 107))))], [], (am_mm D I J ρ))) rfl ?_
  exact am_less (lv := [(3, .inl (0 : Int)), (2, .inl 0), (1, .inl ((am_pop (sp_here (I 108))))), (0, .inr (.inr (.inl (some 107))))]) rfl (List.forall_mem_cons.mpr ⟨rfl, List.forall_mem_cons.mpr ⟨rfl, List.forall_mem_cons.mpr ⟨rfl, List.forall_mem_cons.mpr ⟨rfl, List.forall_mem_nil _⟩⟩⟩⟩) (r_byTurns_l d (m := 0) (n := (I 108 19).toNat) ⟨by omega, by omega⟩ (by omega) hok hvo)
theorem r_chooses {X : Nat × (Nat → Int)} {D : List (Nat × Nat)} {I J : Nat → Nat → Int} {ρ : Nat → Nat → Option Nat} (d : Nat) {B way : Int} (hw : 0 ≤ way ∧ way ≤ 5) (ho : 0 ≤ I 107 20 ∧ I 107 20 ≤ 6) (hne : ¬ I 107 20 = 0 → 0 ≤ (sp_most (I 108) (I 117) (I 118) 2 (-1))) (hok : r_ok (I 108) B) (hvo : r_vo (I 108) (I 117) (I 118)) : am_E X (d + 4) 177 0 [(0, .inr (.inr (.inl (some 107)))), (1, .inl way)] [] (am_mm D I J ρ) (fun r => r = (some (.inl ((sp_choose (I 108) (I 117) (I 118) (I 114) (I 107 20) way))), (am_mm D I J ρ))) := by
  have hok2 := hok
  obtain ⟨o0, oG, oH, oD, o19, o20, o21, o22, o23, o24, oK, oV, oP, oM, oS, oY, oHd, oT, oC, oN⟩ := hok
  have hok := hok2
  refine am_e_ss 2 (q := (4, [(0, .inr (.inr (.inl (some 107)))), (1, .inl way)], [.inl ((I 107 20))], (am_mm D I J ρ))) rfl ?_
  refine am_e_if2 rfl ⟨by omega, by omega⟩ (fun (h1 : ¬ (I 107 20) = 0) => ?_) (fun (h1 : ¬ (¬ (I 107 20) = 0)) => ?_)
  · show am_E _ _ _ 10 [(0, .inr (.inr (.inl (some 107)))), (1, .inl way)] [] (am_mm D I J ρ) _
    refine am_e_ss 1 (q := (11, [(0, .inr (.inr (.inl (some 107)))), (1, .inl way)], [.inl way], (am_mm D I J ρ))) rfl ?_
    rcases (show way < 3 ∨ way = 3 ∨ way = 4 ∨ way = 5 ∨ 5 < way by omega) with h2 | h2 | h2 | h2 | h2
    · refine am_e_tabOut (t := 51) rfl ⟨by omega, by omega⟩ (by omega) rfl ?_
      refine am_e_ss 3 (q := (54, [(0, .inr (.inr (.inl (some 107)))), (1, .inl way)], [.inl (-1), .inl way, .inr (.inr (.inl (some 107)))], (am_mm D I J ρ))) rfl ?_
      refine am_e_virtual (Q := fun r => r = (some (.inl ((sp_most (I 108) (I 117) (I 118) way (-1)))), (am_mm D I J ρ))) rfl rfl (Nat.le_of_ble_eq_true rfl) rfl rfl (Nat.le_of_ble_eq_true rfl) (Nat.le_of_ble_eq_true rfl) (r_mostBy _ (B := B) ⟨by omega, by omega⟩ ⟨by omega, by omega⟩ hok hvo) ?_
      rintro r rfl
      show am_E _ _ _ 57 [(0, .inr (.inr (.inl (some 107)))), (1, .inl way)] [.inl ((sp_most (I 108) (I 117) (I 118) way (-1)))] (am_mm D I J ρ) _
      refine am_e_ireturn rfl rfl ?_
      show (_ : am_R) = _
      unfold sp_choose
      (repeat' split) <;> first | rfl | (exfalso; omega)
    · refine am_e_tabIn (t := 36) (off := 25) rfl ⟨by omega, by omega⟩ (by omega) (by rw [h2]; rfl) rfl ?_
      have hne := hne (by omega)
      refine am_e_ss 1 (q := (37, [(0, .inr (.inr (.inl (some 107)))), (1, .inl way)], [.inr (.inr (.inl (some 107)))], (am_mm D I J ρ))) rfl ?_
      refine am_e_virtual (Q := fun r => r = (some (.inl ((sp_rounds (I 108) (I 117) (I 118)))), (am_mm D I J ρ))) rfl rfl (Nat.le_of_ble_eq_true rfl) rfl rfl (Nat.le_of_ble_eq_true rfl) (Nat.le_of_ble_eq_true rfl) (r_byRounds _ (B := B) hne hok hvo) ?_
      rintro r rfl
      show am_E _ _ _ 40 [(0, .inr (.inr (.inl (some 107)))), (1, .inl way)] [.inl ((sp_rounds (I 108) (I 117) (I 118)))] (am_mm D I J ρ) _
      refine am_e_ireturn rfl rfl ?_
      show (_ : am_R) = _
      unfold sp_choose
      (repeat' split) <;> first | rfl | (exfalso; omega)
    · refine am_e_tabIn (t := 41) (off := 30) rfl ⟨by omega, by omega⟩ (by omega) (by rw [h2]; rfl) rfl ?_
      refine am_e_ss 1 (q := (42, [(0, .inr (.inr (.inl (some 107)))), (1, .inl way)], [.inr (.inr (.inl (some 107)))], (am_mm D I J ρ))) rfl ?_
      refine am_e_virtual (Q := fun r => r = (some (.inl ((sp_pairs (I 108) (I 117) (I 118)))), (am_mm D I J ρ))) rfl rfl (Nat.le_of_ble_eq_true rfl) rfl rfl (Nat.le_of_ble_eq_true rfl) (Nat.le_of_ble_eq_true rfl) (r_byPairs _ (B := B) hok hvo) ?_
      rintro r rfl
      show am_E _ _ _ 45 [(0, .inr (.inr (.inl (some 107)))), (1, .inl way)] [.inl ((sp_pairs (I 108) (I 117) (I 118)))] (am_mm D I J ρ) _
      refine am_e_ireturn rfl rfl ?_
      show (_ : am_R) = _
      unfold sp_choose
      (repeat' split) <;> first | rfl | (exfalso; omega)
    · refine am_e_tabIn (t := 46) (off := 35) rfl ⟨by omega, by omega⟩ (by omega) (by rw [h2]; rfl) rfl ?_
      refine am_e_ss 1 (q := (47, [(0, .inr (.inr (.inl (some 107)))), (1, .inl way)], [.inr (.inr (.inl (some 107)))], (am_mm D I J ρ))) rfl ?_
      refine am_e_virtual (Q := fun r => r = (some (.inl ((sp_turns (I 108) (I 117) (I 118) (I 114)))), (am_mm D I J ρ))) rfl rfl (Nat.le_of_ble_eq_true rfl) rfl rfl (Nat.le_of_ble_eq_true rfl) (Nat.le_of_ble_eq_true rfl) (r_byTurns _ (B := B) hok hvo) ?_
      rintro r rfl
      show am_E _ _ _ 50 [(0, .inr (.inr (.inl (some 107)))), (1, .inl way)] [.inl ((sp_turns (I 108) (I 117) (I 118) (I 114)))] (am_mm D I J ρ) _
      refine am_e_ireturn rfl rfl ?_
      show (_ : am_R) = _
      unfold sp_choose
      (repeat' split) <;> first | rfl | (exfalso; omega)
    · refine am_e_tabOut (t := 51) rfl ⟨by omega, by omega⟩ (by omega) rfl ?_
      refine am_e_ss 3 (q := (54, [(0, .inr (.inr (.inl (some 107)))), (1, .inl way)], [.inl (-1), .inl way, .inr (.inr (.inl (some 107)))], (am_mm D I J ρ))) rfl ?_
      refine am_e_virtual (Q := fun r => r = (some (.inl ((sp_most (I 108) (I 117) (I 118) way (-1)))), (am_mm D I J ρ))) rfl rfl (Nat.le_of_ble_eq_true rfl) rfl rfl (Nat.le_of_ble_eq_true rfl) (Nat.le_of_ble_eq_true rfl) (r_mostBy _ (B := B) ⟨by omega, by omega⟩ ⟨by omega, by omega⟩ hok hvo) ?_
      rintro r rfl
      show am_E _ _ _ 57 [(0, .inr (.inr (.inl (some 107)))), (1, .inl way)] [.inl ((sp_most (I 108) (I 117) (I 118) way (-1)))] (am_mm D I J ρ) _
      refine am_e_ireturn rfl rfl ?_
      show (_ : am_R) = _
      unfold sp_choose
      (repeat' split) <;> first | rfl | (exfalso; omega)
  · show am_E _ _ _ 7 [(0, .inr (.inr (.inl (some 107)))), (1, .inl way)] [] (am_mm D I J ρ) _
    refine am_e_ss 1 (q := (9, [(0, .inr (.inr (.inl (some 107)))), (1, .inl way)], [.inl (-5)], (am_mm D I J ρ))) rfl ?_
    refine am_e_ireturn rfl rfl ?_
    show (_ : am_R) = _
    unfold sp_choose
    (repeat' split) <;> first | rfl | (exfalso; omega)
