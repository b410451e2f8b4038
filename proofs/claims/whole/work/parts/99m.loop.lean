/-! THE LAW: its loop -/
theorem y_i32 (a : Int32) : -2147483648 ≤ a.toInt ∧ a.toInt < 2147483648 := ⟨Int32.le_toInt a, Int32.toInt_lt a⟩
theorem y_next {n : Nat} {D : List (Nat × Nat)} {I : Nat → Nat → Int} {ρ : Nat → Nat → Option Nat} (h : y_iv n D I ρ) : y_iv (n + 1) D I ρ := y_ask h (y_x0 h) (y_m0 h (fun _ _ _ _ => rfl))
set_option maxRecDepth 20000 in
theorem y_loop {X : Nat × (Nat → Int)} {D : List (Nat × Nat)} {I J : Nat → Nat → Int} {ρ : Nat → Nat → Option Nat} {n i : Nat} (hX : ∀ j, -2147483648 ≤ X.2 j ∧ X.2 j < 2147483648) (hL : X.1 ≤ 320) (hin : i = 5 * n) (h : y_iv n D I ρ) (hn5 : n ≤ 64) : am_E X 2000 0 18 [(3, .inl (i : Int)), (2, .inr (.inr (.inl (some 107)))), (1, .inr (.inr (.inl (some 0)))), (0, .inr (.inr (.inr 0)))] [] (am_mm D I J ρ) (fun r => ∃ D' I' J' ρ', r = (some (.inl 1), am_mm D' I' J' ρ') ∧ D'.length ≤ 325 ∧ (D'.map (fun q => q.2)).sum ≤ 9100) := by
  refine am_e_ss 5 (q := (23, [(3, .inl (i : Int)), (2, .inr (.inr (.inl (some 107)))), (1, .inr (.inr (.inl (some 0)))), (0, .inr (.inr (.inr 0)))], [.inl ((X.1 : Int) - 5), .inl (i : Int)], (am_mm D I J ρ))) rfl ?_
  refine am_e_icmp2 rfl ⟨by omega, by omega⟩ ⟨by omega, by omega⟩ (fun (h1 : ((X.1 : Int) - 5) < (i : Int)) => ?_) (fun (h1 : ¬ (((X.1 : Int) - 5) < (i : Int))) => ?_)
  · show am_E _ _ _ 1014 [(3, .inl (i : Int)), (2, .inr (.inr (.inl (some 107)))), (1, .inr (.inr (.inl (some 0)))), (0, .inr (.inr (.inr 0)))] [] (am_mm D I J ρ) _
    refine am_e_ss 1 (q := (1015, [(3, .inl (i : Int)), (2, .inr (.inr (.inl (some 107)))), (1, .inr (.inr (.inl (some 0)))), (0, .inr (.inr (.inr 0)))], [.inl 1], (am_mm D I J ρ))) rfl ?_
    refine am_e_ireturn rfl rfl ?_
    refine ⟨D, I, J, ρ, rfl, ?_, ?_⟩
    · have := h.2.2.2.2.2.2.2.1; omega
    · have := h.2.2.2.2.2.2.2.2; omega
  · show am_E _ _ _ 26 [(3, .inl (i : Int)), (2, .inr (.inr (.inl (some 107)))), (1, .inr (.inr (.inl (some 0)))), (0, .inr (.inr (.inr 0)))] [] (am_mm D I J ρ) _
    refine am_e_ss 2 (q := (28, [(3, .inl (i : Int)), (2, .inr (.inr (.inl (some 107)))), (1, .inr (.inr (.inl (some 0)))), (0, .inr (.inr (.inr 0)))], [.inl (i : Int), .inr (.inr (.inr 0))], (am_mm D I J ρ))) rfl ?_
    refine am_e_scr rfl (by omega) (by omega) (by omega) ?_
    show am_E _ _ _ 29 [(3, .inl (i : Int)), (2, .inr (.inr (.inl (some 107)))), (1, .inr (.inr (.inl (some 0)))), (0, .inr (.inr (.inr 0)))] [.inl ((X.2 i))] (am_mm D I J ρ) _
    refine am_e_ss 2 (q := (32, [(3, .inl (i : Int)), (2, .inr (.inr (.inl (some 107)))), (1, .inr (.inr (.inl (some 0)))), (0, .inr (.inr (.inr 0)))], [.inl ((Int32.ofInt (X.2 i) &&& Int32.ofInt 31).toInt)], (am_mm D I J ρ))) rfl ?_
    have hn : n ≤ 63 := by omega
    have hc : ∀ D' I' J' ρ', y_iv (n + 1) D' I' ρ' → am_E X 2000 0 1008 [(3, .inl (i : Int)), (2, .inr (.inr (.inl (some 107)))), (1, .inr (.inr (.inl (some 0)))), (0, .inr (.inr (.inr 0)))] [] (am_mm D' I' J' ρ') (fun r => ∃ D' I' J' ρ', r = (some (.inl 1), am_mm D' I' J' ρ') ∧ D'.length ≤ 325 ∧ (D'.map (fun q => q.2)).sum ≤ 9100) := by
      intro D' I' J' ρ' h'
      refine am_e_ss 2 (q := (18, [(3, .inl (((i : Int) + 5))), (2, .inr (.inr (.inl (some 107)))), (1, .inr (.inr (.inl (some 0)))), (0, .inr (.inr (.inr 0)))], [], am_mm D' I' J' ρ')) rfl ?_
      exact y_loop (i := i + 5) (n := n + 1) hX hL (by omega) h' (by omega)
    have hv := y_i32 (Int32.ofInt (X.2 i) &&& Int32.ofInt 31)
    generalize (Int32.ofInt (X.2 i) &&& Int32.ofInt 31).toInt = v at hv ⊢
    show am_E _ _ _ 32 [(3, .inl (i : Int)), (2, .inr (.inr (.inl (some 107)))), (1, .inr (.inr (.inl (some 0)))), (0, .inr (.inr (.inr 0)))] [.inl v] (am_mm D I J ρ) _
    rcases (show v < 0 ∨ v = 0 ∨ v = 1 ∨ v = 2 ∨ v = 3 ∨ v = 4 ∨ v = 5 ∨ v = 6 ∨ v = 7 ∨ v = 8 ∨ v = 9 ∨ v = 10 ∨ v = 11 ∨ v = 12 ∨ v = 13 ∨ v = 14 ∨ v = 15 ∨ v = 16 ∨ v = 17 ∨ v = 18 ∨ v = 19 ∨ v = 20 ∨ v = 21 ∨ v = 22 ∨ v = 23 ∨ v = 24 ∨ v = 25 ∨ v = 26 ∨ v = 27 ∨ v = 28 ∨ 28 < v by omega) with h2 | h2 | h2 | h2 | h2 | h2 | h2 | h2 | h2 | h2 | h2 | h2 | h2 | h2 | h2 | h2 | h2 | h2 | h2 | h2 | h2 | h2 | h2 | h2 | h2 | h2 | h2 | h2 | h2 | h2 | h2
    · refine am_e_tabOut (t := 1008) rfl ⟨by omega, by omega⟩ (by omega) rfl ?_
      exact hc _ _ _ _ (y_next h)
    · refine am_e_tabIn (t := 164) (off := 132) rfl ⟨by omega, by omega⟩ (by omega) (by rw [h2]; rfl) rfl ?_
      exact y_c_feed hX (by omega) hL h (by omega) hc
    · refine am_e_tabIn (t := 187) (off := 155) rfl ⟨by omega, by omega⟩ (by omega) (by rw [h2]; rfl) rfl ?_
      have o21 := h.1.1.2.2.2.2.2.2.1
      by_cases h21 : I 108 21 = 5
      · exact y_c_clubN hX (by omega) hL h (by omega) hc h21
      · have ea : I 108 21 = (((I 108 21).toNat : Nat) : Int) := by omega
        rcases hP : pt_cs (sp_tx (I 108)) (I 108 23).toNat 10 0 [] with ⟨q, _ | cs⟩
        · exact y_c_clubF hX (by omega) hL h (by omega) hc ea (by omega) hP
        · exact y_c_clubS hX (by omega) hL h (by omega) hc ea (by omega) hP
    · refine am_e_tabIn (t := 200) (off := 168) rfl ⟨by omega, by omega⟩ (by omega) (by rw [h2]; rfl) rfl ?_
      exact y_c_member hX (by omega) hL h (by omega) hc
    · refine am_e_tabIn (t := 233) (off := 201) rfl ⟨by omega, by omega⟩ (by omega) (by rw [h2]; rfl) rfl ?_
      exact y_c_book hX (by omega) hL h (by omega) hc
    · refine am_e_tabIn (t := 286) (off := 254) rfl ⟨by omega, by omega⟩ (by omega) (by rw [h2]; rfl) rfl ?_
      exact y_c_of hX (by omega) hL h (by omega) hc
    · refine am_e_tabIn (t := 319) (off := 287) rfl ⟨by omega, by omega⟩ (by omega) (by rw [h2]; rfl) rfl ?_
      exact y_c_at hX (by omega) hL h (by omega) hc
    · refine am_e_tabIn (t := 352) (off := 320) rfl ⟨by omega, by omega⟩ (by omega) (by rw [h2]; rfl) rfl ?_
      exact y_c_told hX (by omega) hL h (by omega) hc
    · refine am_e_tabIn (t := 375) (off := 343) rfl ⟨by omega, by omega⟩ (by omega) (by rw [h2]; rfl) rfl ?_
      exact y_c_had hX (by omega) hL h (by omega) hc
    · refine am_e_tabIn (t := 424) (off := 392) rfl ⟨by omega, by omega⟩ (by omega) (by rw [h2]; rfl) rfl ?_
      exact y_c_like hX (by omega) hL h (by omega) hc
    · refine am_e_tabIn (t := 457) (off := 425) rfl ⟨by omega, by omega⟩ (by omega) (by rw [h2]; rfl) rfl ?_
      exact y_c_order hX (by omega) hL h (by omega) hc
    · refine am_e_tabIn (t := 500) (off := 468) rfl ⟨by omega, by omega⟩ (by omega) (by rw [h2]; rfl) rfl ?_
      exact y_c_chosen hX (by omega) hL h (by omega) hc
    · refine am_e_tabIn (t := 533) (off := 501) rfl ⟨by omega, by omega⟩ (by omega) (by rw [h2]; rfl) rfl ?_
      exact y_c_alone hX (by omega) hL h (by omega) hc
    · refine am_e_tabIn (t := 556) (off := 524) rfl ⟨by omega, by omega⟩ (by omega) (by rw [h2]; rfl) rfl ?_
      exact y_c_gain hX (by omega) hL h (by omega) hc
    · refine am_e_tabIn (t := 589) (off := 557) rfl ⟨by omega, by omega⟩ (by omega) (by rw [h2]; rfl) rfl ?_
      exact y_c_reads hX (by omega) hL h (by omega) hc
    · refine am_e_tabIn (t := 622) (off := 590) rfl ⟨by omega, by omega⟩ (by omega) (by rw [h2]; rfl) rfl ?_
      exact y_c_comes hX (by omega) hL h (by omega) hc
    · refine am_e_tabIn (t := 655) (off := 623) rfl ⟨by omega, by omega⟩ (by omega) (by rw [h2]; rfl) rfl ?_
      exact y_c_enough hX (by omega) hL h (by omega) hc
    · refine am_e_tabIn (t := 699) (off := 667) rfl ⟨by omega, by omega⟩ (by omega) (by rw [h2]; rfl) rfl ?_
      exact y_c_month hX (by omega) hL h (by omega) hc
    · refine am_e_tabIn (t := 722) (off := 690) rfl ⟨by omega, by omega⟩ (by omega) (by rw [h2]; rfl) rfl ?_
      exact y_c_by hX (by omega) hL h (by omega) hc
    · refine am_e_tabIn (t := 745) (off := 713) rfl ⟨by omega, by omega⟩ (by omega) (by rw [h2]; rfl) rfl ?_
      exact y_c_run hX (by omega) hL h (by omega) hc
    · refine am_e_tabIn (t := 788) (off := 756) rfl ⟨by omega, by omega⟩ (by omega) (by rw [h2]; rfl) rfl ?_
      exact y_c_best hX (by omega) hL h (by omega) hc
    · refine am_e_tabIn (t := 801) (off := 769) rfl ⟨by omega, by omega⟩ (by omega) (by rw [h2]; rfl) rfl ?_
      exact y_c_row hX (by omega) hL h (by omega) hc
    · refine am_e_tabIn (t := 824) (off := 792) rfl ⟨by omega, by omega⟩ (by omega) (by rw [h2]; rfl) rfl ?_
      exact y_c_hand hX (by omega) hL h (by omega) hc
    · refine am_e_tabIn (t := 847) (off := 815) rfl ⟨by omega, by omega⟩ (by omega) (by rw [h2]; rfl) rfl ?_
      exact y_c_looked hX (by omega) hL h (by omega) hc
    · refine am_e_tabIn (t := 860) (off := 828) rfl ⟨by omega, by omega⟩ (by omega) (by rw [h2]; rfl) rfl ?_
      exact y_c_act hX (by omega) hL h (by omega) hc
    · refine am_e_tabIn (t := 903) (off := 871) rfl ⟨by omega, by omega⟩ (by omega) (by rw [h2]; rfl) rfl ?_
      exact y_c_trace hX (by omega) hL h (by omega) hc
    · refine am_e_tabIn (t := 926) (off := 894) rfl ⟨by omega, by omega⟩ (by omega) (by rw [h2]; rfl) rfl ?_
      exact y_c_as hX (by omega) hL h (by omega) hc
    · refine am_e_tabIn (t := 959) (off := 927) rfl ⟨by omega, by omega⟩ (by omega) (by rw [h2]; rfl) rfl ?_
      exact y_c_image hX (by omega) hL h (by omega) hc
    · refine am_e_tabIn (t := 972) (off := 940) rfl ⟨by omega, by omega⟩ (by omega) (by rw [h2]; rfl) rfl ?_
      by_cases h4 : I 107 4 = 1
      · exact y_c_undo1 hX (by omega) hL h (by omega) hc h4
      · exact y_c_undo0 hX (by omega) hL h (by omega) hc h4
    · refine am_e_tabIn (t := 985) (off := 953) rfl ⟨by omega, by omega⟩ (by omega) (by rw [h2]; rfl) rfl ?_
      exact y_c_count hX (by omega) hL h (by omega) hc
    · refine am_e_tabOut (t := 1008) rfl ⟨by omega, by omega⟩ (by omega) rfl ?_
      exact hc _ _ _ _ (y_next h)
termination_by 65 - n
decreasing_by all_goals omega
