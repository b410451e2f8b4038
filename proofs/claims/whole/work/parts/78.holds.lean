/-! THE CLASS: clauses -/
theorem ps_tr_d {c : Int} (h0 : 0 ≤ c) (h1 : c < 3200) (h3 : c / 8 % 4 ≤ 2) : ps_tr c / 300 = c % 8 ∧ ps_tr c % 100 = c / 32 ∧ ps_tr c / 100 % 3 = c / 8 % 4 ∧ 0 ≤ ps_tr c ∧ ps_tr c < 2400 := by
  unfold ps_tr
  rw [if_pos h0]
  have a1 : 0 ≤ c % 8 ∧ c % 8 ≤ 7 := by omega
  have a2 : 0 ≤ c / 8 % 4 := by omega
  have a3 : 0 ≤ c / 32 ∧ c / 32 < 100 := by omega
  generalize c % 8 = q at *
  generalize c / 8 % 4 = g at *
  generalize c / 32 = v at *
  omega
theorem ps_tr_n {c : Int} (h : c < 0) : ps_tr c = c := if_neg (by omega)
/-- what is known of a member and a book -/
def c_fct (I : Nat → Nat → Int) (f : Nat → Int) : Prop := ∀ i, i < 6 → I 33 i = f i ∧ (0 ≤ f i ∧ f i ≤ 200)
theorem c_test {X : Nat × (Nat → Int)} {D : List (Nat × Nat)} {I J : Nat → Nat → Int} {ρ : Nat → Nat → Option Nat} (d : Nat) {f : Nat → Int} {z c0 : Int} (hf : c_fct I f) (hz : z = ps_tr c0) (h0 : 0 ≤ c0) (h1 : c0 < 3200) (h2 : c0 % 8 ≤ 5) (h3 : c0 / 8 % 4 ≤ 2) : am_E X d 20 0 [(0, .inl z), (1, .inr (.inr (.inl (some 33))))] [] (am_mm D I J ρ) (fun r => r = (some (.inl ((am_bi (ps_t f c0 = true)))), (am_mm D I J ρ))) := by
  obtain ⟨e1, e2, e3, e4, e5⟩ := ps_tr_d h0 h1 h3
  rw [← hz] at e1 e2 e3 e4 e5
  obtain ⟨hf1, hf2⟩ := hf (z / 300).toNat (by omega)
  rw [show f (z / 300).toNat = f (c0 % 8).toNat by rw [e1]] at hf1 hf2
  refine am_e_ss 2 (q := (4, [(0, .inl z), (1, .inr (.inr (.inl (some 33))))], [.inl 300, .inl z], (am_mm D I J ρ))) rfl ?_
  refine am_e_idivp rfl ⟨by omega, by omega⟩ ⟨by omega, by omega⟩ ?_
  show am_E _ _ _ 5 [(0, .inl z), (1, .inr (.inr (.inl (some 33))))] [.inl ((z / 300))] (am_mm D I J ρ) _
  refine am_e_ss 2 (q := (7, [(2, .inl ((z / 300))), (0, .inl z), (1, .inr (.inr (.inl (some 33))))], [.inl ((z / 300))], (am_mm D I J ρ))) rfl ?_
  refine am_e_if2 rfl ⟨by omega, by omega⟩ (fun (hw1 : (z / 300) < 0) => ?_) (fun (hw1 : ¬ ((z / 300) < 0)) => ?_)
  · show am_E _ _ _ 16 [(2, .inl ((z / 300))), (0, .inl z), (1, .inr (.inr (.inl (some 33))))] [] (am_mm D I J ρ) _
    refine am_e_ss 1 (q := (17, [(2, .inl ((z / 300))), (0, .inl z), (1, .inr (.inr (.inl (some 33))))], [.inl 0], (am_mm D I J ρ))) rfl ?_
    refine am_e_ireturn rfl rfl ?_
    exfalso
    omega
  · show am_E _ _ _ 10 [(2, .inl ((z / 300))), (0, .inl z), (1, .inr (.inr (.inl (some 33))))] [] (am_mm D I J ρ) _
    refine am_e_ss 3 (q := (13, [(2, .inl ((z / 300))), (0, .inl z), (1, .inr (.inr (.inl (some 33))))], [.inl 6, .inl ((z / 300))], (am_mm D I J ρ))) rfl ?_
    refine am_e_icmp2 rfl ⟨by omega, by omega⟩ ⟨by omega, by omega⟩ (fun (hw2 : (z / 300) < 6) => ?_) (fun (hw2 : ¬ ((z / 300) < 6)) => ?_)
    · show am_E _ _ _ 18 [(2, .inl ((z / 300))), (0, .inl z), (1, .inr (.inr (.inl (some 33))))] [] (am_mm D I J ρ) _
      refine am_e_ss 2 (q := (20, [(2, .inl ((z / 300))), (0, .inl z), (1, .inr (.inr (.inl (some 33))))], [.inl ((z / 300)), .inr (.inr (.inl (some 33)))], (am_mm D I J ρ))) rfl ?_
      refine am_e_iaload (m := 6) rfl rfl (by omega) (by omega) (by omega) ?_
      show am_E _ _ _ 21 [(2, .inl ((z / 300))), (0, .inl z), (1, .inr (.inr (.inl (some 33))))] [.inl ((I 33 ((z / 300)).toNat))] (am_mm D I J ρ) _
      refine am_e_ss 3 (q := (25, [(3, .inl ((I 33 ((z / 300)).toNat))), (2, .inl ((z / 300))), (0, .inl z), (1, .inr (.inr (.inl (some 33))))], [.inl 100, .inl z], (am_mm D I J ρ))) rfl ?_
      refine am_e_iremp rfl ⟨by omega, by omega⟩ ⟨by omega, by omega⟩ ?_
      show am_E _ _ _ 26 [(3, .inl ((I 33 ((z / 300)).toNat))), (2, .inl ((z / 300))), (0, .inl z), (1, .inr (.inr (.inl (some 33))))] [.inl ((z % 100))] (am_mm D I J ρ) _
      refine am_e_ss 3 (q := (31, [(4, .inl ((z % 100))), (3, .inl ((I 33 ((z / 300)).toNat))), (2, .inl ((z / 300))), (0, .inl z), (1, .inr (.inr (.inl (some 33))))], [.inl 100, .inl z], (am_mm D I J ρ))) rfl ?_
      refine am_e_idivp rfl ⟨by omega, by omega⟩ ⟨by omega, by omega⟩ ?_
      show am_E _ _ _ 32 [(4, .inl ((z % 100))), (3, .inl ((I 33 ((z / 300)).toNat))), (2, .inl ((z / 300))), (0, .inl z), (1, .inr (.inr (.inl (some 33))))] [.inl ((z / 100))] (am_mm D I J ρ) _
      refine am_e_ss 1 (q := (33, [(4, .inl ((z % 100))), (3, .inl ((I 33 ((z / 300)).toNat))), (2, .inl ((z / 300))), (0, .inl z), (1, .inr (.inr (.inl (some 33))))], [.inl 3, .inl ((z / 100))], (am_mm D I J ρ))) rfl ?_
      refine am_e_iremp rfl ⟨by omega, by omega⟩ ⟨by omega, by omega⟩ ?_
      show am_E _ _ _ 34 [(4, .inl ((z % 100))), (3, .inl ((I 33 ((z / 300)).toNat))), (2, .inl ((z / 300))), (0, .inl z), (1, .inr (.inr (.inl (some 33))))] [.inl (((z / 100) % 3))] (am_mm D I J ρ) _
      rcases (show (((z / 100) % 3) = 0) ∨ (((z / 100) % 3) = 1) ∨ (¬ ((z / 100) % 3) = 0 ∧ ¬ ((z / 100) % 3) = 1) by omega) with hw3 | hw3 | hw3
      · refine am_e_look (t := 60) (off := 26) rfl ⟨by omega, by omega⟩ (by rw [hw3]; rfl) rfl ?_
        refine am_e_ss 2 (q := (63, [(4, .inl ((z % 100))), (3, .inl ((I 33 ((z / 300)).toNat))), (2, .inl ((z / 300))), (0, .inl z), (1, .inr (.inr (.inl (some 33))))], [.inl ((z % 100)), .inl ((I 33 ((z / 300)).toNat))], (am_mm D I J ρ))) rfl ?_
        refine am_e_icmp2 rfl ⟨by omega, by omega⟩ ⟨by omega, by omega⟩ (fun (hw4 : (z % 100) ≤ (I 33 ((z / 300)).toNat)) => ?_) (fun (hw4 : ¬ ((z % 100) ≤ (I 33 ((z / 300)).toNat))) => ?_)
        · show am_E _ _ _ 70 [(4, .inl ((z % 100))), (3, .inl ((I 33 ((z / 300)).toNat))), (2, .inl ((z / 300))), (0, .inl z), (1, .inr (.inr (.inl (some 33))))] [] (am_mm D I J ρ) _
          refine am_e_ss 1 (q := (71, [(4, .inl ((z % 100))), (3, .inl ((I 33 ((z / 300)).toNat))), (2, .inl ((z / 300))), (0, .inl z), (1, .inr (.inr (.inl (some 33))))], [.inl 0], (am_mm D I J ρ))) rfl ?_
          refine am_e_ireturn rfl rfl ?_
          have et : sp_test (f (c0 % 8).toNat) (c0 / 8 % 4) (c0 / 32) = 0 := by
            unfold sp_test
            (repeat' split) <;> omega
          rw [am_bi_f (by unfold ps_t; rw [et]; decide)]
        · show am_E _ _ _ 66 [(4, .inl ((z % 100))), (3, .inl ((I 33 ((z / 300)).toNat))), (2, .inl ((z / 300))), (0, .inl z), (1, .inr (.inr (.inl (some 33))))] [] (am_mm D I J ρ) _
          refine am_e_ss 2 (q := (71, [(4, .inl ((z % 100))), (3, .inl ((I 33 ((z / 300)).toNat))), (2, .inl ((z / 300))), (0, .inl z), (1, .inr (.inr (.inl (some 33))))], [.inl 1], (am_mm D I J ρ))) rfl ?_
          refine am_e_ireturn rfl rfl ?_
          have et : sp_test (f (c0 % 8).toNat) (c0 / 8 % 4) (c0 / 32) = 1 := by
            unfold sp_test
            (repeat' split) <;> omega
          rw [am_bi_t (by unfold ps_t; rw [et]; decide)]
      · refine am_e_look (t := 72) (off := 38) rfl ⟨by omega, by omega⟩ (by rw [hw3]; rfl) rfl ?_
        refine am_e_ss 2 (q := (75, [(4, .inl ((z % 100))), (3, .inl ((I 33 ((z / 300)).toNat))), (2, .inl ((z / 300))), (0, .inl z), (1, .inr (.inr (.inl (some 33))))], [.inl ((z % 100)), .inl ((I 33 ((z / 300)).toNat))], (am_mm D I J ρ))) rfl ?_
        refine am_e_icmp2 rfl ⟨by omega, by omega⟩ ⟨by omega, by omega⟩ (fun (hw5 : ¬ (I 33 ((z / 300)).toNat) = (z % 100)) => ?_) (fun (hw5 : ¬ (¬ (I 33 ((z / 300)).toNat) = (z % 100))) => ?_)
        · show am_E _ _ _ 82 [(4, .inl ((z % 100))), (3, .inl ((I 33 ((z / 300)).toNat))), (2, .inl ((z / 300))), (0, .inl z), (1, .inr (.inr (.inl (some 33))))] [] (am_mm D I J ρ) _
          refine am_e_ss 1 (q := (83, [(4, .inl ((z % 100))), (3, .inl ((I 33 ((z / 300)).toNat))), (2, .inl ((z / 300))), (0, .inl z), (1, .inr (.inr (.inl (some 33))))], [.inl 0], (am_mm D I J ρ))) rfl ?_
          refine am_e_ireturn rfl rfl ?_
          have et : sp_test (f (c0 % 8).toNat) (c0 / 8 % 4) (c0 / 32) = 0 := by
            unfold sp_test
            (repeat' split) <;> omega
          rw [am_bi_f (by unfold ps_t; rw [et]; decide)]
        · show am_E _ _ _ 78 [(4, .inl ((z % 100))), (3, .inl ((I 33 ((z / 300)).toNat))), (2, .inl ((z / 300))), (0, .inl z), (1, .inr (.inr (.inl (some 33))))] [] (am_mm D I J ρ) _
          refine am_e_ss 2 (q := (83, [(4, .inl ((z % 100))), (3, .inl ((I 33 ((z / 300)).toNat))), (2, .inl ((z / 300))), (0, .inl z), (1, .inr (.inr (.inl (some 33))))], [.inl 1], (am_mm D I J ρ))) rfl ?_
          refine am_e_ireturn rfl rfl ?_
          have et : sp_test (f (c0 % 8).toNat) (c0 / 8 % 4) (c0 / 32) = 1 := by
            unfold sp_test
            (repeat' split) <;> omega
          rw [am_bi_t (by unfold ps_t; rw [et]; decide)]
      · refine am_e_look (t := 84) (off := 50) rfl ⟨by omega, by omega⟩ (by simp only [Op.lookupswitch.offset]; first | (simp; omega) | ((repeat' split) <;> omega)) rfl ?_
        refine am_e_ss 2 (q := (87, [(4, .inl ((z % 100))), (3, .inl ((I 33 ((z / 300)).toNat))), (2, .inl ((z / 300))), (0, .inl z), (1, .inr (.inr (.inl (some 33))))], [.inl ((z % 100)), .inl ((I 33 ((z / 300)).toNat))], (am_mm D I J ρ))) rfl ?_
        refine am_e_icmp2 rfl ⟨by omega, by omega⟩ ⟨by omega, by omega⟩ (fun (hw6 : (I 33 ((z / 300)).toNat) ≤ (z % 100)) => ?_) (fun (hw6 : ¬ ((I 33 ((z / 300)).toNat) ≤ (z % 100))) => ?_)
        · show am_E _ _ _ 94 [(4, .inl ((z % 100))), (3, .inl ((I 33 ((z / 300)).toNat))), (2, .inl ((z / 300))), (0, .inl z), (1, .inr (.inr (.inl (some 33))))] [] (am_mm D I J ρ) _
          refine am_e_ss 1 (q := (95, [(4, .inl ((z % 100))), (3, .inl ((I 33 ((z / 300)).toNat))), (2, .inl ((z / 300))), (0, .inl z), (1, .inr (.inr (.inl (some 33))))], [.inl 0], (am_mm D I J ρ))) rfl ?_
          refine am_e_ireturn rfl rfl ?_
          have et : sp_test (f (c0 % 8).toNat) (c0 / 8 % 4) (c0 / 32) = 0 := by
            unfold sp_test
            (repeat' split) <;> omega
          rw [am_bi_f (by unfold ps_t; rw [et]; decide)]
        · show am_E _ _ _ 90 [(4, .inl ((z % 100))), (3, .inl ((I 33 ((z / 300)).toNat))), (2, .inl ((z / 300))), (0, .inl z), (1, .inr (.inr (.inl (some 33))))] [] (am_mm D I J ρ) _
          refine am_e_ss 2 (q := (95, [(4, .inl ((z % 100))), (3, .inl ((I 33 ((z / 300)).toNat))), (2, .inl ((z / 300))), (0, .inl z), (1, .inr (.inr (.inl (some 33))))], [.inl 1], (am_mm D I J ρ))) rfl ?_
          refine am_e_ireturn rfl rfl ?_
          have et : sp_test (f (c0 % 8).toNat) (c0 / 8 % 4) (c0 / 32) = 1 := by
            unfold sp_test
            (repeat' split) <;> omega
          rw [am_bi_t (by unfold ps_t; rw [et]; decide)]
    · show am_E _ _ _ 16 [(2, .inl ((z / 300))), (0, .inl z), (1, .inr (.inr (.inl (some 33))))] [] (am_mm D I J ρ) _
      refine am_e_ss 1 (q := (17, [(2, .inl ((z / 300))), (0, .inl z), (1, .inr (.inr (.inl (some 33))))], [.inl 0], (am_mm D I J ρ))) rfl ?_
      refine am_e_ireturn rfl rfl ?_
      exfalso
      omega
theorem c_holds_l {X : Nat × (Nat → Int)} {D : List (Nat × Nat)} {I J : Nat → Nat → Int} {ρ : Nat → Nat → Option Nat} (d : Nat) {c : Nat} {f : Nat → Int} (hclk0 : c_clk D ρ c) (hf : c_fct I f) {to : Int} {L : List Int} {s : List Bool} {k : Nat} (hL : ∀ i, i < L.length → I (c + 4) (k + i) = ps_tr (L.getD i 0)) (hto : to = ((k + L.length : Nat) : Int)) (hk100 : k + L.length ≤ 100) (hhk : ps_hk L s.length) (hs30 : s.length ≤ 30) : am_E X (d + 1) 19 6 [(5, .inl (k : Int)), (4, .inl (((ps_pv s : Nat) : Int))), (3, .inr (.inr (.inl (some 33)))), (2, .inl to), (0, .inr (.inr (.inl (some c))))] [] (am_mm D I J ρ) (fun r => r = (some (.inl ((am_bi ((ps_ev f L s).headD false = true)))), (am_mm D I J ρ))) := by
  have hclk := hclk0
  obtain ⟨⟨hsc, hs1, hs2, hs3, hs4⟩, hr1, hr2, hr3, hr4⟩ := hclk
  have hpv : ps_pv s < 1073741824 := by
    have h1 := ps_pv_lt s
    have h2 : 2 ^ s.length ≤ 2 ^ 30 := Nat.pow_le_pow_right (by omega) hs30
    omega
  have hx1 := am_band1 (x := ps_pv s) (by omega)
  refine am_e_ss 2 (q := (9, [(5, .inl (k : Int)), (4, .inl (((ps_pv s : Nat) : Int))), (3, .inr (.inr (.inl (some 33)))), (2, .inl to), (0, .inr (.inr (.inl (some c))))], [.inl to, .inl (k : Int)], (am_mm D I J ρ))) rfl ?_
  refine am_e_icmp2 rfl ⟨by omega, by omega⟩ ⟨by omega, by omega⟩ (fun (hw1 : to ≤ (k : Int)) => ?_) (fun (hw1 : ¬ (to ≤ (k : Int))) => ?_)
  · show am_E _ _ _ 108 [(5, .inl (k : Int)), (4, .inl (((ps_pv s : Nat) : Int))), (3, .inr (.inr (.inl (some 33)))), (2, .inl to), (0, .inr (.inr (.inl (some c))))] [] (am_mm D I J ρ) _
    refine am_e_ss 3 (q := (112, [(5, .inl (k : Int)), (4, .inl (((ps_pv s : Nat) : Int))), (3, .inr (.inr (.inl (some 33)))), (2, .inl to), (0, .inr (.inr (.inl (some c))))], [.inl ((Int32.ofInt ((ps_pv s : Nat) : Int) &&& Int32.ofInt 1).toInt)], (am_mm D I J ρ))) rfl ?_
    refine am_e_if2 rfl ⟨by omega, by omega⟩ (fun (hw2 : (Int32.ofInt ((ps_pv s : Nat) : Int) &&& Int32.ofInt 1).toInt = 0) => ?_) (fun (hw2 : ¬ ((Int32.ofInt ((ps_pv s : Nat) : Int) &&& Int32.ofInt 1).toInt = 0)) => ?_)
    · show am_E _ _ _ 119 [(5, .inl (k : Int)), (4, .inl (((ps_pv s : Nat) : Int))), (3, .inr (.inr (.inl (some 33)))), (2, .inl to), (0, .inr (.inr (.inl (some c))))] [] (am_mm D I J ρ) _
      refine am_e_ss 1 (q := (120, [(5, .inl (k : Int)), (4, .inl (((ps_pv s : Nat) : Int))), (3, .inr (.inr (.inl (some 33)))), (2, .inl to), (0, .inr (.inr (.inl (some c))))], [.inl 0], (am_mm D I J ρ))) rfl ?_
      refine am_e_ireturn rfl rfl ?_
      have hl0 : L = [] := List.eq_nil_of_length_eq_zero (by omega)
      subst hl0
      have ee : ps_ev f [] s = s := rfl
      rw [ee]
      rw [am_bi_f ?_]
      cases s with
      | nil => simp
      | cons a s =>
        cases a
        · simp
        · exfalso; have e9 : ps_pv (true :: s) = 1 + 2 * ps_pv s := rfl; omega
    · show am_E _ _ _ 115 [(5, .inl (k : Int)), (4, .inl (((ps_pv s : Nat) : Int))), (3, .inr (.inr (.inl (some 33)))), (2, .inl to), (0, .inr (.inr (.inl (some c))))] [] (am_mm D I J ρ) _
      refine am_e_ss 2 (q := (120, [(5, .inl (k : Int)), (4, .inl (((ps_pv s : Nat) : Int))), (3, .inr (.inr (.inl (some 33)))), (2, .inl to), (0, .inr (.inr (.inl (some c))))], [.inl 1], (am_mm D I J ρ))) rfl ?_
      refine am_e_ireturn rfl rfl ?_
      have hl0 : L = [] := List.eq_nil_of_length_eq_zero (by omega)
      subst hl0
      have ee : ps_ev f [] s = s := rfl
      rw [ee]
      rw [am_bi_t ?_]
      cases s with
      | nil => exfalso; have e9 : ps_pv [] = 0 := rfl; omega
      | cons a s =>
        cases a
        · exfalso; have e9 : ps_pv (false :: s) = 0 + 2 * ps_pv s := rfl; omega
        · rfl
  · show am_E _ _ _ 12 [(5, .inl (k : Int)), (4, .inl (((ps_pv s : Nat) : Int))), (3, .inr (.inr (.inl (some 33)))), (2, .inl to), (0, .inr (.inr (.inl (some c))))] [] (am_mm D I J ρ) _
    obtain ⟨c0, L2, rfl⟩ : ∃ c0 L2, L = c0 :: L2 := by
      cases L with
      | nil => rw [List.length_nil] at hto; omega
      | cons a b => exact ⟨a, b, rfl⟩
    rw [List.length_cons] at hto hk100
    have hc0 : I (c + 4) k = ps_tr c0 := hL 0 (by simp)
    obtain ⟨hv, hhk2⟩ := hhk
    have hv : ps_ok1 c0 s.length := hv
    have hln := ps_st_len (f := f) hv
    rw [← hln] at hhk2
    have htn : c0 < 0 → ps_tr c0 = c0 := ps_tr_n
    have htp : 0 ≤ c0 → c0 < 3200 ∧ 0 ≤ ps_tr c0 ∧ ps_tr c0 < 2400 ∧ c0 % 8 ≤ 5 ∧ c0 / 8 % 4 ≤ 2 ∧ s.length < 30 := by
      intro h
      rcases hv with h2 | h2 | h2
      · have := ps_tr_d h h2.2.1 h2.2.2.2.1
        exact ⟨h2.2.1, this.2.2.2.1, this.2.2.2.2, h2.2.2.1, h2.2.2.2.1, by omega⟩
      · omega
      · omega
    have hvn : c0 < 0 → (c0 = -1 ∧ 1 ≤ (s.length : Int)) ∨ ((c0 = -2 ∨ c0 = -3) ∧ 2 ≤ (s.length : Int)) := by
      intro h
      rcases hv with h2 | h2 | h2
      · omega
      · exact Or.inl ⟨h2.1, h2.2.1⟩
      · exact Or.inr ⟨h2.1, h2.2.1⟩
    have h33 := htp
    have h34 := hvn
    refine am_e_ss 1 (q := (13, [(5, .inl (k : Int)), (4, .inl (((ps_pv s : Nat) : Int))), (3, .inr (.inr (.inl (some 33)))), (2, .inl to), (0, .inr (.inr (.inl (some c))))], [.inr (.inr (.inl (some c)))], (am_mm D I J ρ))) rfl ?_
    refine am_e_getfield (c := 1) (m := 10) (f := 7) rfl hsc rfl (by decide) (by decide) ?_
    rw [show am_gf (am_mm D I J ρ) 1 c 7 = .inr (.inr (.inl (some (c + 4)))) from (congrArg (fun x => (.inr (.inr (.inl x)) : am_V)) hr4)]
    show am_E _ _ _ 16 [(5, .inl (k : Int)), (4, .inl (((ps_pv s : Nat) : Int))), (3, .inr (.inr (.inl (some 33)))), (2, .inl to), (0, .inr (.inr (.inl (some c))))] [.inr (.inr (.inl (some (c + 4))))] (am_mm D I J ρ) _
    refine am_e_ss 1 (q := (18, [(5, .inl (k : Int)), (4, .inl (((ps_pv s : Nat) : Int))), (3, .inr (.inr (.inl (some 33)))), (2, .inl to), (0, .inr (.inr (.inl (some c))))], [.inl (k : Int), .inr (.inr (.inl (some (c + 4))))], (am_mm D I J ρ))) rfl ?_
    refine am_e_iaload (m := 100) rfl hs4 (by omega) (by omega) (by omega) ?_
    show am_E _ _ _ 19 [(5, .inl (k : Int)), (4, .inl (((ps_pv s : Nat) : Int))), (3, .inr (.inr (.inl (some 33)))), (2, .inl to), (0, .inr (.inr (.inl (some c))))] [.inl ((I (c + 4) k))] (am_mm D I J ρ) _
    refine am_e_ss 2 (q := (23, [(6, .inl ((I (c + 4) k))), (5, .inl (k : Int)), (4, .inl (((ps_pv s : Nat) : Int))), (3, .inr (.inr (.inl (some 33)))), (2, .inl to), (0, .inr (.inr (.inl (some c))))], [.inl ((I (c + 4) k))], (am_mm D I J ρ))) rfl ?_
    refine am_e_if2 rfl ⟨by omega, by omega⟩ (fun (hw3 : (I (c + 4) k) < 0) => ?_) (fun (hw3 : ¬ ((I (c + 4) k) < 0)) => ?_)
    · show am_E _ _ _ 50 [(6, .inl ((I (c + 4) k))), (5, .inl (k : Int)), (4, .inl (((ps_pv s : Nat) : Int))), (3, .inr (.inr (.inl (some 33)))), (2, .inl to), (0, .inr (.inr (.inl (some c))))] [] (am_mm D I J ρ) _
      refine am_e_ss 2 (q := (53, [(6, .inl ((I (c + 4) k))), (5, .inl (k : Int)), (4, .inl (((ps_pv s : Nat) : Int))), (3, .inr (.inr (.inl (some 33)))), (2, .inl to), (0, .inr (.inr (.inl (some c))))], [.inl (-1), .inl ((I (c + 4) k))], (am_mm D I J ρ))) rfl ?_
      refine am_e_icmp2 rfl ⟨by omega, by omega⟩ ⟨by omega, by omega⟩ (fun (hw4 : ¬ (I (c + 4) k) = (-1)) => ?_) (fun (hw4 : ¬ (¬ (I (c + 4) k) = (-1))) => ?_)
      · show am_E _ _ _ 65 [(6, .inl ((I (c + 4) k))), (5, .inl (k : Int)), (4, .inl (((ps_pv s : Nat) : Int))), (3, .inr (.inr (.inl (some 33)))), (2, .inl to), (0, .inr (.inr (.inl (some c))))] [] (am_mm D I J ρ) _
        refine am_e_ss 10 (q := (81, [(4, .inl ((Int32.ofInt ((ps_pv s : Nat) : Int) >>> (Int32.ofInt 1 &&& 31)).toInt)), (7, .inl ((Int32.ofInt ((ps_pv s : Nat) : Int) &&& Int32.ofInt 1).toInt)), (6, .inl ((I (c + 4) k))), (5, .inl (k : Int)), (3, .inr (.inr (.inl (some 33)))), (2, .inl to), (0, .inr (.inr (.inl (some c))))], [.inl (-2), .inl ((I (c + 4) k))], (am_mm D I J ρ))) rfl ?_
        refine am_e_icmp2 rfl ⟨by omega, by omega⟩ ⟨by omega, by omega⟩ (fun (hw5 : ¬ (I (c + 4) k) = (-2)) => ?_) (fun (hw5 : ¬ (¬ (I (c + 4) k) = (-2))) => ?_)
        · show am_E _ _ _ 95 [(4, .inl ((Int32.ofInt ((ps_pv s : Nat) : Int) >>> (Int32.ofInt 1 &&& 31)).toInt)), (7, .inl ((Int32.ofInt ((ps_pv s : Nat) : Int) &&& Int32.ofInt 1).toInt)), (6, .inl ((I (c + 4) k))), (5, .inl (k : Int)), (3, .inr (.inr (.inl (some 33)))), (2, .inl to), (0, .inr (.inr (.inl (some c))))] [] (am_mm D I J ρ) _
          refine am_e_ss 6 (q := (6, [(5, .inl ((k : Int) + 1)), (4, .inl ((Int32.ofInt (Int32.ofInt ((ps_pv s : Nat) : Int) >>> (Int32.ofInt 1 &&& 31)).toInt ||| Int32.ofInt (Int32.ofInt ((ps_pv s : Nat) : Int) &&& Int32.ofInt 1).toInt).toInt)), (7, .inl ((Int32.ofInt ((ps_pv s : Nat) : Int) &&& Int32.ofInt 1).toInt)), (6, .inl ((I (c + 4) k))), (3, .inr (.inr (.inl (some 33)))), (2, .inl to), (0, .inr (.inr (.inl (some c))))], [], (am_mm D I J ρ))) rfl ?_
          have hn0 : c0 = -3 := by
            by_cases e : 0 ≤ c0
            · exfalso; have := h33 e; omega
            · have := htn (by omega); rcases h34 (by omega) with h | h <;> omega
          have h2l : 2 ≤ (s.length : Int) := by rcases h34 (by omega) with h | h <;> omega
          obtain ⟨a, b, s2, hs2⟩ := ps_len_2 h2l
          have hps : ps_st f s c0 = (b || a) :: s2 := by
            unfold ps_st
            rw [if_neg (by omega), if_neg (by omega), hs2]
            show (if c0 = -2 then b && a else b || a) :: s2 = _
            rw [if_neg (by omega)]
          have hpa : ps_pv s = (if a = true then 1 else 0) + 2 * ((if b = true then 1 else 0) + 2 * ps_pv s2) := by rw [hs2]; rfl
          have es : (Int32.ofInt (Int32.ofInt ((ps_pv s : Nat) : Int) >>> (Int32.ofInt 1 &&& 31)).toInt ||| Int32.ofInt (Int32.ofInt ((ps_pv s : Nat) : Int) &&& Int32.ofInt 1).toInt).toInt = ((ps_pv (ps_st f s c0) : Nat) : Int) := by
            rw [hps, am_band1 (by omega), am_bshr1 (by omega), am_bor (by omega) (by omega), hpa]
            show _ = (((if (b || a) = true then 1 else 0) + 2 * ps_pv s2 : Nat) : Int)
            cases a <;> cases b <;> simp <;> omega
          rw [es]
          have hl30 : (ps_st f s c0).length ≤ 30 := by
            have e9 := hln
            unfold ps_nh at e9
            by_cases e : 0 ≤ c0
            · rw [if_pos e] at e9; have := htp e; omega
            · rw [if_neg e] at e9; split at e9 <;> omega
          exact am_less (lv := [(5, .inl ((k + 1) : Int)), (4, .inl (((ps_pv (ps_st f s c0) : Nat) : Int))), (3, .inr (.inr (.inl (some 33)))), (2, .inl to), (0, .inr (.inr (.inl (some c))))]) rfl (List.forall_mem_cons.mpr ⟨rfl, List.forall_mem_cons.mpr ⟨rfl, List.forall_mem_cons.mpr ⟨rfl, List.forall_mem_cons.mpr ⟨rfl, List.forall_mem_cons.mpr ⟨rfl, List.forall_mem_nil _⟩⟩⟩⟩⟩) (c_holds_l d (L := L2) (s := ps_st f s c0) (k := k + 1) (to := to) hclk0 hf (fun i hi => by have := hL (i + 1) (by rw [List.length_cons]; omega); rw [show k + 1 + i = k + (i + 1) by omega]; exact this) (by omega) (by omega) hhk2 hl30)
        · show am_E _ _ _ 84 [(4, .inl ((Int32.ofInt ((ps_pv s : Nat) : Int) >>> (Int32.ofInt 1 &&& 31)).toInt)), (7, .inl ((Int32.ofInt ((ps_pv s : Nat) : Int) &&& Int32.ofInt 1).toInt)), (6, .inl ((I (c + 4) k))), (5, .inl (k : Int)), (3, .inr (.inr (.inl (some 33)))), (2, .inl to), (0, .inr (.inr (.inl (some c))))] [] (am_mm D I J ρ) _
          refine am_e_ss 9 (q := (6, [(5, .inl ((k : Int) + 1)), (4, .inl ((Int32.ofInt (Int32.ofInt ((ps_pv s : Nat) : Int) >>> (Int32.ofInt 1 &&& 31)).toInt &&& Int32.ofInt (Int32.ofInt (-2) ||| Int32.ofInt (Int32.ofInt ((ps_pv s : Nat) : Int) &&& Int32.ofInt 1).toInt).toInt).toInt)), (7, .inl ((Int32.ofInt ((ps_pv s : Nat) : Int) &&& Int32.ofInt 1).toInt)), (6, .inl ((I (c + 4) k))), (3, .inr (.inr (.inl (some 33)))), (2, .inl to), (0, .inr (.inr (.inl (some c))))], [], (am_mm D I J ρ))) rfl ?_
          have hn0 : c0 = -2 := by
            by_cases e : 0 ≤ c0
            · exfalso; have := h33 e; omega
            · have := htn (by omega); rcases h34 (by omega) with h | h <;> omega
          have h2l : 2 ≤ (s.length : Int) := by rcases h34 (by omega) with h | h <;> omega
          obtain ⟨a, b, s2, hs2⟩ := ps_len_2 h2l
          have hps : ps_st f s c0 = (b && a) :: s2 := by
            unfold ps_st
            rw [if_neg (by omega), if_neg (by omega), hs2]
            show (if c0 = -2 then b && a else b || a) :: s2 = _
            rw [if_pos (by omega)]
          have hpa : ps_pv s = (if a = true then 1 else 0) + 2 * ((if b = true then 1 else 0) + 2 * ps_pv s2) := by rw [hs2]; rfl
          have es : (Int32.ofInt (Int32.ofInt ((ps_pv s : Nat) : Int) >>> (Int32.ofInt 1 &&& 31)).toInt &&& Int32.ofInt (Int32.ofInt (-2) ||| Int32.ofInt (Int32.ofInt ((ps_pv s : Nat) : Int) &&& Int32.ofInt 1).toInt).toInt).toInt = ((ps_pv (ps_st f s c0) : Nat) : Int) := by
            rw [hps, am_band1 (by omega), am_bshr1 (by omega), am_bmsk (by omega) (by omega), hpa]
            show _ = (((if (b && a) = true then 1 else 0) + 2 * ps_pv s2 : Nat) : Int)
            cases a <;> cases b <;> simp <;> omega
          rw [es]
          have hl30 : (ps_st f s c0).length ≤ 30 := by
            have e9 := hln
            unfold ps_nh at e9
            by_cases e : 0 ≤ c0
            · rw [if_pos e] at e9; have := htp e; omega
            · rw [if_neg e] at e9; split at e9 <;> omega
          exact am_less (lv := [(5, .inl ((k + 1) : Int)), (4, .inl (((ps_pv (ps_st f s c0) : Nat) : Int))), (3, .inr (.inr (.inl (some 33)))), (2, .inl to), (0, .inr (.inr (.inl (some c))))]) rfl (List.forall_mem_cons.mpr ⟨rfl, List.forall_mem_cons.mpr ⟨rfl, List.forall_mem_cons.mpr ⟨rfl, List.forall_mem_cons.mpr ⟨rfl, List.forall_mem_cons.mpr ⟨rfl, List.forall_mem_nil _⟩⟩⟩⟩⟩) (c_holds_l d (L := L2) (s := ps_st f s c0) (k := k + 1) (to := to) hclk0 hf (fun i hi => by have := hL (i + 1) (by rw [List.length_cons]; omega); rw [show k + 1 + i = k + (i + 1) by omega]; exact this) (by omega) (by omega) hhk2 hl30)
      · show am_E _ _ _ 56 [(6, .inl ((I (c + 4) k))), (5, .inl (k : Int)), (4, .inl (((ps_pv s : Nat) : Int))), (3, .inr (.inr (.inl (some 33)))), (2, .inl to), (0, .inr (.inr (.inl (some c))))] [] (am_mm D I J ρ) _
        refine am_e_ss 7 (q := (6, [(5, .inl ((k : Int) + 1)), (4, .inl ((Int32.ofInt ((ps_pv s : Nat) : Int) ^^^ Int32.ofInt 1).toInt)), (6, .inl ((I (c + 4) k))), (3, .inr (.inr (.inl (some 33)))), (2, .inl to), (0, .inr (.inr (.inl (some c))))], [], (am_mm D I J ρ))) rfl ?_
        have hn0 : c0 = -1 := by
          by_cases e : 0 ≤ c0
          · exfalso; have := h33 e; omega
          · have := htn (by omega); omega
        have h1l : 1 ≤ (s.length : Int) := by rcases h34 (by omega) with h | h <;> omega
        obtain ⟨a, s2, hs2⟩ := ps_len_1 h1l
        have hps : ps_st f s c0 = (!a) :: s2 := by
          unfold ps_st
          rw [if_neg (by omega), if_pos hn0, hs2]
          rfl
        have hpa : ps_pv s = (if a = true then 1 else 0) + 2 * ps_pv s2 := by rw [hs2]; rfl
        have es : (Int32.ofInt ((ps_pv s : Nat) : Int) ^^^ Int32.ofInt 1).toInt = ((ps_pv (ps_st f s c0) : Nat) : Int) := by
          rw [hps, am_bxor1 (by omega), hpa]
          show _ = (((if (!a) = true then 1 else 0) + 2 * ps_pv s2 : Nat) : Int)
          cases a
          · show ((2 * ((0 + 2 * ps_pv s2) / 2) + (0 + 2 * ps_pv s2 + 1) % 2 : Nat) : Int) = ((1 + 2 * ps_pv s2 : Nat) : Int); omega
          · show ((2 * ((1 + 2 * ps_pv s2) / 2) + (1 + 2 * ps_pv s2 + 1) % 2 : Nat) : Int) = ((0 + 2 * ps_pv s2 : Nat) : Int); omega
        rw [es]
        have hl30 : (ps_st f s c0).length ≤ 30 := by
          have e9 := hln
          unfold ps_nh at e9
          by_cases e : 0 ≤ c0
          · rw [if_pos e] at e9; have := htp e; omega
          · rw [if_neg e] at e9; split at e9 <;> omega
        exact am_less (lv := [(5, .inl ((k + 1) : Int)), (4, .inl (((ps_pv (ps_st f s c0) : Nat) : Int))), (3, .inr (.inr (.inl (some 33)))), (2, .inl to), (0, .inr (.inr (.inl (some c))))]) rfl (List.forall_mem_cons.mpr ⟨rfl, List.forall_mem_cons.mpr ⟨rfl, List.forall_mem_cons.mpr ⟨rfl, List.forall_mem_cons.mpr ⟨rfl, List.forall_mem_cons.mpr ⟨rfl, List.forall_mem_nil _⟩⟩⟩⟩⟩) (c_holds_l d (L := L2) (s := ps_st f s c0) (k := k + 1) (to := to) hclk0 hf (fun i hi => by have := hL (i + 1) (by rw [List.length_cons]; omega); rw [show k + 1 + i = k + (i + 1) by omega]; exact this) (by omega) (by omega) hhk2 hl30)
    · show am_E _ _ _ 26 [(6, .inl ((I (c + 4) k))), (5, .inl (k : Int)), (4, .inl (((ps_pv s : Nat) : Int))), (3, .inr (.inr (.inl (some 33)))), (2, .inl to), (0, .inr (.inr (.inl (some c))))] [] (am_mm D I J ρ) _
      refine am_e_ss 5 (q := (33, [(6, .inl ((I (c + 4) k))), (5, .inl (k : Int)), (4, .inl (((ps_pv s : Nat) : Int))), (3, .inr (.inr (.inl (some 33)))), (2, .inl to), (0, .inr (.inr (.inl (some c))))], [.inr (.inr (.inl (some 33))), .inl ((I (c + 4) k)), .inl ((Int32.ofInt ((ps_pv s : Nat) : Int) <<< (Int32.ofInt 1 &&& 31)).toInt)], (am_mm D I J ρ))) rfl ?_
      refine am_e_static (Q := fun r => r = (some (.inl ((am_bi (ps_t f c0 = true)))), (am_mm D I J ρ))) rfl (Nat.le_of_ble_eq_true rfl) rfl (Nat.le_of_ble_eq_true rfl) (Nat.le_of_ble_eq_true rfl) (c_test _ (c0 := c0) hf hc0 (by omega) (by omega) (by omega) (by omega)) ?_
      rintro r rfl
      show am_E _ _ _ 36 [(6, .inl ((I (c + 4) k))), (5, .inl (k : Int)), (4, .inl (((ps_pv s : Nat) : Int))), (3, .inr (.inr (.inl (some 33)))), (2, .inl to), (0, .inr (.inr (.inl (some c))))] [.inl ((am_bi (ps_t f c0 = true))), .inl ((Int32.ofInt ((ps_pv s : Nat) : Int) <<< (Int32.ofInt 1 &&& 31)).toInt)] (am_mm D I J ρ) _
      refine am_e_ifeq rfl (fun hw6 => ?_) (fun hw6 => ?_)
      · show am_E _ _ _ 43 [(6, .inl ((I (c + 4) k))), (5, .inl (k : Int)), (4, .inl (((ps_pv s : Nat) : Int))), (3, .inr (.inr (.inl (some 33)))), (2, .inl to), (0, .inr (.inr (.inl (some c))))] [.inl ((Int32.ofInt ((ps_pv s : Nat) : Int) <<< (Int32.ofInt 1 &&& 31)).toInt)] (am_mm D I J ρ) _
        refine am_e_ss 6 (q := (6, [(5, .inl ((k : Int) + 1)), (4, .inl ((Int32.ofInt (Int32.ofInt ((ps_pv s : Nat) : Int) <<< (Int32.ofInt 1 &&& 31)).toInt ||| Int32.ofInt 0).toInt)), (6, .inl ((I (c + 4) k))), (3, .inr (.inr (.inl (some 33)))), (2, .inl to), (0, .inr (.inr (.inl (some c))))], [], (am_mm D I J ρ))) rfl ?_
        have hp0 : 0 ≤ c0 := by
          by_cases e : 0 ≤ c0
          · exact e
          · exfalso; have := htn (by omega); omega
        have hb := h33 hp0
        have hps : ps_st f s c0 = false :: s := by
          have ht1 : ps_t f c0 = false := Bool.eq_false_iff.mpr (by assumption)
          unfold ps_st
          rw [if_pos hp0, ht1]
        have hp9 : ps_pv s < 1073741824 := hpv
        have es : (Int32.ofInt (Int32.ofInt ((ps_pv s : Nat) : Int) <<< (Int32.ofInt 1 &&& 31)).toInt ||| Int32.ofInt 0).toInt = ((ps_pv (ps_st f s c0) : Nat) : Int) := by
          rw [hps]
          refine (am_bshl1 (x := ps_pv s) (r := 0) hp9 (by omega)).trans ?_
          show ((2 * ps_pv s + 0 : Nat) : Int) = (((0 : Nat) + 2 * ps_pv s : Nat) : Int)
          omega
        rw [es]
        have hl30 : (ps_st f s c0).length ≤ 30 := by
          have e9 := hln
          unfold ps_nh at e9
          by_cases e : 0 ≤ c0
          · rw [if_pos e] at e9; have := htp e; omega
          · rw [if_neg e] at e9; split at e9 <;> omega
        exact am_less (lv := [(5, .inl ((k + 1) : Int)), (4, .inl (((ps_pv (ps_st f s c0) : Nat) : Int))), (3, .inr (.inr (.inl (some 33)))), (2, .inl to), (0, .inr (.inr (.inl (some c))))]) rfl (List.forall_mem_cons.mpr ⟨rfl, List.forall_mem_cons.mpr ⟨rfl, List.forall_mem_cons.mpr ⟨rfl, List.forall_mem_cons.mpr ⟨rfl, List.forall_mem_cons.mpr ⟨rfl, List.forall_mem_nil _⟩⟩⟩⟩⟩) (c_holds_l d (L := L2) (s := ps_st f s c0) (k := k + 1) (to := to) hclk0 hf (fun i hi => by have := hL (i + 1) (by rw [List.length_cons]; omega); rw [show k + 1 + i = k + (i + 1) by omega]; exact this) (by omega) (by omega) hhk2 hl30)
      · show am_E _ _ _ 39 [(6, .inl ((I (c + 4) k))), (5, .inl (k : Int)), (4, .inl (((ps_pv s : Nat) : Int))), (3, .inr (.inr (.inl (some 33)))), (2, .inl to), (0, .inr (.inr (.inl (some c))))] [.inl ((Int32.ofInt ((ps_pv s : Nat) : Int) <<< (Int32.ofInt 1 &&& 31)).toInt)] (am_mm D I J ρ) _
        refine am_e_ss 7 (q := (6, [(5, .inl ((k : Int) + 1)), (4, .inl ((Int32.ofInt (Int32.ofInt ((ps_pv s : Nat) : Int) <<< (Int32.ofInt 1 &&& 31)).toInt ||| Int32.ofInt 1).toInt)), (6, .inl ((I (c + 4) k))), (3, .inr (.inr (.inl (some 33)))), (2, .inl to), (0, .inr (.inr (.inl (some c))))], [], (am_mm D I J ρ))) rfl ?_
        have hp0 : 0 ≤ c0 := by
          by_cases e : 0 ≤ c0
          · exact e
          · exfalso; have := htn (by omega); omega
        have hb := h33 hp0
        have hps : ps_st f s c0 = true :: s := by
          have ht1 : ps_t f c0 = true := by assumption
          unfold ps_st
          rw [if_pos hp0, ht1]
        have hp9 : ps_pv s < 1073741824 := hpv
        have es : (Int32.ofInt (Int32.ofInt ((ps_pv s : Nat) : Int) <<< (Int32.ofInt 1 &&& 31)).toInt ||| Int32.ofInt 1).toInt = ((ps_pv (ps_st f s c0) : Nat) : Int) := by
          rw [hps]
          refine (am_bshl1 (x := ps_pv s) (r := 1) hp9 (by omega)).trans ?_
          show ((2 * ps_pv s + 1 : Nat) : Int) = (((1 : Nat) + 2 * ps_pv s : Nat) : Int)
          omega
        rw [es]
        have hl30 : (ps_st f s c0).length ≤ 30 := by
          have e9 := hln
          unfold ps_nh at e9
          by_cases e : 0 ≤ c0
          · rw [if_pos e] at e9; have := htp e; omega
          · rw [if_neg e] at e9; split at e9 <;> omega
        exact am_less (lv := [(5, .inl ((k + 1) : Int)), (4, .inl (((ps_pv (ps_st f s c0) : Nat) : Int))), (3, .inr (.inr (.inl (some 33)))), (2, .inl to), (0, .inr (.inr (.inl (some c))))]) rfl (List.forall_mem_cons.mpr ⟨rfl, List.forall_mem_cons.mpr ⟨rfl, List.forall_mem_cons.mpr ⟨rfl, List.forall_mem_cons.mpr ⟨rfl, List.forall_mem_cons.mpr ⟨rfl, List.forall_mem_nil _⟩⟩⟩⟩⟩) (c_holds_l d (L := L2) (s := ps_st f s c0) (k := k + 1) (to := to) hclk0 hf (fun i hi => by have := hL (i + 1) (by rw [List.length_cons]; omega); rw [show k + 1 + i = k + (i + 1) by omega]; exact this) (by omega) (by omega) hhk2 hl30)
termination_by (to - (k : Int)).toNat
decreasing_by all_goals omega
