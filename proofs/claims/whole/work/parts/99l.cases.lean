/-! THE LAW: one call of a script -/
section
variable {X : Nat × (Nat → Int)} {d mid pc n x : Nat} {lv : List (Nat × am_V)} {st : List am_V} {M : am_M} {P : am_R → Prop}
theorem am_e_scr {j : Int} (hi : am_ins mid pc = some (.iaload, n, x)) (h0 : 0 ≤ j) (h1 : j < X.1) (h2 : j < 10000) (h : am_E X d mid (pc + n) lv (.inl (X.2 j.toNat) :: st) M P) : am_E X d mid pc lv (.inl j :: .inr (.inr (.inr 0)) :: st) M P := by
  have hb : am_inb j X.1 = true := by unfold am_inb; simp; omega
  exact am_e_s hi (q := (pc + n, lv, .inl (X.2 j.toNat) :: st, M)) (if_pos ⟨rfl, hb⟩) h
theorem am_e_icmpEq {off : Int} {z : Int} (hi : am_ins mid pc = some (.if_icmp .eq off, n, x)) (h : am_E X d mid x lv st M P) : am_E X d mid pc lv (.inl z :: .inl z :: st) M P := am_e_icmp hi (fun _ => h) (fun f => absurd rfl f)
theorem y_lcmp (a : Int64) : (lg_cmp a a).toInt = 0 := by
  unfold lg_cmp
  simp
theorem am_e_lcmpEq {z : Int} (hi : am_ins mid pc = some (.lcmp, n, x)) (h : am_E X d mid (pc + n) lv (.inl 0 :: st) M P) : am_E X d mid pc lv (.inr (.inl z) :: .inr (.inl z) :: st) M P := by
  refine am_e_s hi (q := (pc + n, lv, .inl (lg_cmp (Int64.ofInt z) (Int64.ofInt z)).toInt :: st, M)) rfl ?_
  rw [y_lcmp]
  exact h
end
set_option maxRecDepth 20000 in
theorem y_c_feed {X : Nat × (Nat → Int)} {D : List (Nat × Nat)} {I J : Nat → Nat → Int} {ρ : Nat → Nat → Option Nat} {n i : Nat} {P : am_R → Prop} (hX : ∀ j, -2147483648 ≤ X.2 j ∧ X.2 j < 2147483648) (hi : i + 5 ≤ X.1) (hL : X.1 ≤ 320) (h : y_iv n D I ρ) (hn : n ≤ 64) (hc : ∀ D' I' J' ρ', y_iv (n + 1) D' I' ρ' → am_E X 2000 0 1008 [(3, .inl (i : Int)), (2, .inr (.inr (.inl (some 107)))), (1, .inr (.inr (.inl (some 0)))), (0, .inr (.inr (.inr 0)))] [] (am_mm D' I' J' ρ') P) : am_E X 2000 0 164 [(3, .inl (i : Int)), (2, .inr (.inr (.inl (some 107)))), (1, .inr (.inr (.inl (some 0)))), (0, .inr (.inr (.inr 0)))] [] (am_mm D I J ρ) P := by
  refine am_e_ss 5 (q := (169, [(3, .inl (i : Int)), (2, .inr (.inr (.inl (some 107)))), (1, .inr (.inr (.inl (some 0)))), (0, .inr (.inr (.inr 0)))], [.inl ((i : Int) + 1), .inr (.inr (.inr 0)), .inr (.inr (.inl (some 0)))], (am_mm D I J ρ))) rfl ?_
  refine am_e_scr rfl (by omega) (by omega) (by omega) ?_
  show am_E _ _ _ 170 [(3, .inl (i : Int)), (2, .inr (.inr (.inl (some 107)))), (1, .inr (.inr (.inl (some 0)))), (0, .inr (.inr (.inr 0)))] [.inl ((X.2 (i + 1))), .inr (.inr (.inl (some 0)))] (am_mm D I J ρ) _
  refine am_e_virtual (Q := fun r => ∃ K1 J1 ρ1, r = (some (.inl ((sp_feed (I 108) (X.2 (i + 1))).1)), (am_mm D K1 J1 ρ1)) ∧ y_x I ρ D K1 ρ1 (sp_feed (I 108) (X.2 (i + 1))).2 (I 109) (I 107 4) (I 107 32) (I 123)) rfl rfl (Nat.le_of_ble_eq_true rfl) rfl rfl (Nat.le_of_ble_eq_true rfl) (Nat.le_of_ble_eq_true rfl) (x_feed _ h hn (hX _)) ?_
  rintro r ⟨K1, J1, ρ1, rfl, hx⟩
  show am_E _ _ _ 173 [(3, .inl (i : Int)), (2, .inr (.inr (.inl (some 107)))), (1, .inr (.inr (.inl (some 0)))), (0, .inr (.inr (.inr 0)))] [.inl ((sp_feed (I 108) (X.2 (i + 1))).1)] (am_mm D K1 J1 ρ1) _
  refine am_e_ss 5 (q := (178, [(3, .inl (i : Int)), (2, .inr (.inr (.inl (some 107)))), (1, .inr (.inr (.inl (some 0)))), (0, .inr (.inr (.inr 0)))], [.inl ((i : Int) + 1), .inr (.inr (.inr 0)), .inr (.inr (.inl (some 107))), .inl ((sp_feed (I 108) (X.2 (i + 1))).1)], (am_mm D K1 J1 ρ1))) rfl ?_
  refine am_e_scr rfl (by omega) (by omega) (by omega) ?_
  show am_E _ _ _ 179 [(3, .inl (i : Int)), (2, .inr (.inr (.inl (some 107)))), (1, .inr (.inr (.inl (some 0)))), (0, .inr (.inr (.inr 0)))] [.inl ((X.2 (i + 1))), .inr (.inr (.inl (some 107))), .inl ((sp_feed (I 108) (X.2 (i + 1))).1)] (am_mm D K1 J1 ρ1) _
  refine am_e_virtual (Q := fun r => ∃ K2 J2, r = (some (.inl ((sp_feed (I 108) (X.2 (i + 1))).1)), (am_mm D K2 J2 ρ1)) ∧ y_m K1 K2 (sp_feed (I 108) (X.2 (i + 1))).2 (I 109) (I 107 4) (I 107 32) (I 123)) rfl rfl (Nat.le_of_ble_eq_true rfl) rfl rfl (Nat.le_of_ble_eq_true rfl) (Nat.le_of_ble_eq_true rfl) (m_feed _ h hn hx.2.1 (hX _)) ?_
  rintro r ⟨K2, J2, rfl, hm⟩
  show am_E _ _ _ 182 [(3, .inl (i : Int)), (2, .inr (.inr (.inl (some 107)))), (1, .inr (.inr (.inl (some 0)))), (0, .inr (.inr (.inr 0)))] [.inl ((sp_feed (I 108) (X.2 (i + 1))).1), .inl ((sp_feed (I 108) (X.2 (i + 1))).1)] (am_mm D K2 J2 ρ1) _
  refine am_e_icmpEq rfl ?_
  show am_E _ _ _ 1008 [(3, .inl (i : Int)), (2, .inr (.inr (.inl (some 107)))), (1, .inr (.inr (.inl (some 0)))), (0, .inr (.inr (.inr 0)))] [] (am_mm D K2 J2 ρ1) _
  exact hc _ _ _ _ (y_chg h hx hm (y_mono (y_feed h.1) (by omega)))
set_option maxRecDepth 20000 in
theorem y_c_member {X : Nat × (Nat → Int)} {D : List (Nat × Nat)} {I J : Nat → Nat → Int} {ρ : Nat → Nat → Option Nat} {n i : Nat} {P : am_R → Prop} (hX : ∀ j, -2147483648 ≤ X.2 j ∧ X.2 j < 2147483648) (hi : i + 5 ≤ X.1) (hL : X.1 ≤ 320) (h : y_iv n D I ρ) (hn : n ≤ 64) (hc : ∀ D' I' J' ρ', y_iv (n + 1) D' I' ρ' → am_E X 2000 0 1008 [(3, .inl (i : Int)), (2, .inr (.inr (.inl (some 107)))), (1, .inr (.inr (.inl (some 0)))), (0, .inr (.inr (.inr 0)))] [] (am_mm D' I' J' ρ') P) : am_E X 2000 0 200 [(3, .inl (i : Int)), (2, .inr (.inr (.inl (some 107)))), (1, .inr (.inr (.inl (some 0)))), (0, .inr (.inr (.inr 0)))] [] (am_mm D I J ρ) P := by
  refine am_e_ss 5 (q := (205, [(3, .inl (i : Int)), (2, .inr (.inr (.inl (some 107)))), (1, .inr (.inr (.inl (some 0)))), (0, .inr (.inr (.inr 0)))], [.inl ((i : Int) + 1), .inr (.inr (.inr 0)), .inr (.inr (.inl (some 0)))], (am_mm D I J ρ))) rfl ?_
  refine am_e_scr rfl (by omega) (by omega) (by omega) ?_
  show am_E _ _ _ 206 [(3, .inl (i : Int)), (2, .inr (.inr (.inl (some 107)))), (1, .inr (.inr (.inl (some 0)))), (0, .inr (.inr (.inr 0)))] [.inl ((X.2 (i + 1))), .inr (.inr (.inl (some 0)))] (am_mm D I J ρ) _
  refine am_e_ss 4 (q := (210, [(3, .inl (i : Int)), (2, .inr (.inr (.inl (some 107)))), (1, .inr (.inr (.inl (some 0)))), (0, .inr (.inr (.inr 0)))], [.inl ((i : Int) + 2), .inr (.inr (.inr 0)), .inl ((X.2 (i + 1))), .inr (.inr (.inl (some 0)))], (am_mm D I J ρ))) rfl ?_
  refine am_e_scr rfl (by omega) (by omega) (by omega) ?_
  show am_E _ _ _ 211 [(3, .inl (i : Int)), (2, .inr (.inr (.inl (some 107)))), (1, .inr (.inr (.inl (some 0)))), (0, .inr (.inr (.inr 0)))] [.inl ((X.2 (i + 2))), .inl ((X.2 (i + 1))), .inr (.inr (.inl (some 0)))] (am_mm D I J ρ) _
  refine am_e_virtual (Q := fun r => ∃ E K1 J1 ρ1, r = (some (.inl ((sp_member (I 108) (X.2 (i + 1)) (X.2 (i + 2))).1)), (am_mm (D ++ E) K1 J1 ρ1)) ∧ y_x I ρ (D ++ E) K1 ρ1 (sp_member (I 108) (X.2 (i + 1)) (X.2 (i + 2))).2 (I 109) (I 107 4) (I 107 32) (I 123) ∧ E.length ≤ 5 ∧ (E.map (fun q => q.2)).sum ≤ 140) rfl rfl (Nat.le_of_ble_eq_true rfl) rfl rfl (Nat.le_of_ble_eq_true rfl) (Nat.le_of_ble_eq_true rfl) (x_member _ h (hX _) (hX _)) ?_
  rintro r ⟨E, K1, J1, ρ1, rfl, ⟨hx, hE⟩⟩
  show am_E _ _ _ 214 [(3, .inl (i : Int)), (2, .inr (.inr (.inl (some 107)))), (1, .inr (.inr (.inl (some 0)))), (0, .inr (.inr (.inr 0)))] [.inl ((sp_member (I 108) (X.2 (i + 1)) (X.2 (i + 2))).1)] (am_mm (D ++ E) K1 J1 ρ1) _
  refine am_e_ss 5 (q := (219, [(3, .inl (i : Int)), (2, .inr (.inr (.inl (some 107)))), (1, .inr (.inr (.inl (some 0)))), (0, .inr (.inr (.inr 0)))], [.inl ((i : Int) + 1), .inr (.inr (.inr 0)), .inr (.inr (.inl (some 107))), .inl ((sp_member (I 108) (X.2 (i + 1)) (X.2 (i + 2))).1)], (am_mm (D ++ E) K1 J1 ρ1))) rfl ?_
  refine am_e_scr rfl (by omega) (by omega) (by omega) ?_
  show am_E _ _ _ 220 [(3, .inl (i : Int)), (2, .inr (.inr (.inl (some 107)))), (1, .inr (.inr (.inl (some 0)))), (0, .inr (.inr (.inr 0)))] [.inl ((X.2 (i + 1))), .inr (.inr (.inl (some 107))), .inl ((sp_member (I 108) (X.2 (i + 1)) (X.2 (i + 2))).1)] (am_mm (D ++ E) K1 J1 ρ1) _
  refine am_e_ss 4 (q := (224, [(3, .inl (i : Int)), (2, .inr (.inr (.inl (some 107)))), (1, .inr (.inr (.inl (some 0)))), (0, .inr (.inr (.inr 0)))], [.inl ((i : Int) + 2), .inr (.inr (.inr 0)), .inl ((X.2 (i + 1))), .inr (.inr (.inl (some 107))), .inl ((sp_member (I 108) (X.2 (i + 1)) (X.2 (i + 2))).1)], (am_mm (D ++ E) K1 J1 ρ1))) rfl ?_
  refine am_e_scr rfl (by omega) (by omega) (by omega) ?_
  show am_E _ _ _ 225 [(3, .inl (i : Int)), (2, .inr (.inr (.inl (some 107)))), (1, .inr (.inr (.inl (some 0)))), (0, .inr (.inr (.inr 0)))] [.inl ((X.2 (i + 2))), .inl ((X.2 (i + 1))), .inr (.inr (.inl (some 107))), .inl ((sp_member (I 108) (X.2 (i + 1)) (X.2 (i + 2))).1)] (am_mm (D ++ E) K1 J1 ρ1) _
  refine am_e_virtual (Q := fun r => ∃ K2 J2, r = (some (.inl ((sp_member (I 108) (X.2 (i + 1)) (X.2 (i + 2))).1)), (am_mm (D ++ E) K2 J2 ρ1)) ∧ y_m K1 K2 (sp_member (I 108) (X.2 (i + 1)) (X.2 (i + 2))).2 (I 109) (I 107 4) (I 107 32) (I 123)) rfl rfl (Nat.le_of_ble_eq_true rfl) rfl rfl (Nat.le_of_ble_eq_true rfl) (Nat.le_of_ble_eq_true rfl) (m_member _ h hn hx.2.1 (hX _) (hX _)) ?_
  rintro r ⟨K2, J2, rfl, hm⟩
  show am_E _ _ _ 228 [(3, .inl (i : Int)), (2, .inr (.inr (.inl (some 107)))), (1, .inr (.inr (.inl (some 0)))), (0, .inr (.inr (.inr 0)))] [.inl ((sp_member (I 108) (X.2 (i + 1)) (X.2 (i + 2))).1), .inl ((sp_member (I 108) (X.2 (i + 1)) (X.2 (i + 2))).1)] (am_mm (D ++ E) K2 J2 ρ1) _
  refine am_e_icmpEq rfl ?_
  show am_E _ _ _ 1008 [(3, .inl (i : Int)), (2, .inr (.inr (.inl (some 107)))), (1, .inr (.inr (.inl (some 0)))), (0, .inr (.inr (.inr 0)))] [] (am_mm (D ++ E) K2 J2 ρ1) _
  exact hc _ _ _ _ (y_fin h hx hm (y_mono (y_member h.1) (by omega)) (fun e => y_mono (h.2.2.1 e) (by omega)) (Or.inl rfl) h.2.2.2.2.1 hE)
set_option maxRecDepth 20000 in
theorem y_c_book {X : Nat × (Nat → Int)} {D : List (Nat × Nat)} {I J : Nat → Nat → Int} {ρ : Nat → Nat → Option Nat} {n i : Nat} {P : am_R → Prop} (hX : ∀ j, -2147483648 ≤ X.2 j ∧ X.2 j < 2147483648) (hi : i + 5 ≤ X.1) (hL : X.1 ≤ 320) (h : y_iv n D I ρ) (hn : n ≤ 64) (hc : ∀ D' I' J' ρ', y_iv (n + 1) D' I' ρ' → am_E X 2000 0 1008 [(3, .inl (i : Int)), (2, .inr (.inr (.inl (some 107)))), (1, .inr (.inr (.inl (some 0)))), (0, .inr (.inr (.inr 0)))] [] (am_mm D' I' J' ρ') P) : am_E X 2000 0 233 [(3, .inl (i : Int)), (2, .inr (.inr (.inl (some 107)))), (1, .inr (.inr (.inl (some 0)))), (0, .inr (.inr (.inr 0)))] [] (am_mm D I J ρ) P := by
  refine am_e_ss 5 (q := (238, [(3, .inl (i : Int)), (2, .inr (.inr (.inl (some 107)))), (1, .inr (.inr (.inl (some 0)))), (0, .inr (.inr (.inr 0)))], [.inl ((i : Int) + 1), .inr (.inr (.inr 0)), .inr (.inr (.inl (some 0)))], (am_mm D I J ρ))) rfl ?_
  refine am_e_scr rfl (by omega) (by omega) (by omega) ?_
  show am_E _ _ _ 239 [(3, .inl (i : Int)), (2, .inr (.inr (.inl (some 107)))), (1, .inr (.inr (.inl (some 0)))), (0, .inr (.inr (.inr 0)))] [.inl ((X.2 (i + 1))), .inr (.inr (.inl (some 0)))] (am_mm D I J ρ) _
  refine am_e_ss 4 (q := (243, [(3, .inl (i : Int)), (2, .inr (.inr (.inl (some 107)))), (1, .inr (.inr (.inl (some 0)))), (0, .inr (.inr (.inr 0)))], [.inl ((i : Int) + 2), .inr (.inr (.inr 0)), .inl ((X.2 (i + 1))), .inr (.inr (.inl (some 0)))], (am_mm D I J ρ))) rfl ?_
  refine am_e_scr rfl (by omega) (by omega) (by omega) ?_
  show am_E _ _ _ 244 [(3, .inl (i : Int)), (2, .inr (.inr (.inl (some 107)))), (1, .inr (.inr (.inl (some 0)))), (0, .inr (.inr (.inr 0)))] [.inl ((X.2 (i + 2))), .inl ((X.2 (i + 1))), .inr (.inr (.inl (some 0)))] (am_mm D I J ρ) _
  refine am_e_ss 4 (q := (248, [(3, .inl (i : Int)), (2, .inr (.inr (.inl (some 107)))), (1, .inr (.inr (.inl (some 0)))), (0, .inr (.inr (.inr 0)))], [.inl ((i : Int) + 3), .inr (.inr (.inr 0)), .inl ((X.2 (i + 2))), .inl ((X.2 (i + 1))), .inr (.inr (.inl (some 0)))], (am_mm D I J ρ))) rfl ?_
  refine am_e_scr rfl (by omega) (by omega) (by omega) ?_
  show am_E _ _ _ 249 [(3, .inl (i : Int)), (2, .inr (.inr (.inl (some 107)))), (1, .inr (.inr (.inl (some 0)))), (0, .inr (.inr (.inr 0)))] [.inl ((X.2 (i + 3))), .inl ((X.2 (i + 2))), .inl ((X.2 (i + 1))), .inr (.inr (.inl (some 0)))] (am_mm D I J ρ) _
  refine am_e_ss 4 (q := (253, [(3, .inl (i : Int)), (2, .inr (.inr (.inl (some 107)))), (1, .inr (.inr (.inl (some 0)))), (0, .inr (.inr (.inr 0)))], [.inl ((i : Int) + 4), .inr (.inr (.inr 0)), .inl ((X.2 (i + 3))), .inl ((X.2 (i + 2))), .inl ((X.2 (i + 1))), .inr (.inr (.inl (some 0)))], (am_mm D I J ρ))) rfl ?_
  refine am_e_scr rfl (by omega) (by omega) (by omega) ?_
  show am_E _ _ _ 254 [(3, .inl (i : Int)), (2, .inr (.inr (.inl (some 107)))), (1, .inr (.inr (.inl (some 0)))), (0, .inr (.inr (.inr 0)))] [.inl ((X.2 (i + 4))), .inl ((X.2 (i + 3))), .inl ((X.2 (i + 2))), .inl ((X.2 (i + 1))), .inr (.inr (.inl (some 0)))] (am_mm D I J ρ) _
  refine am_e_virtual (Q := fun r => ∃ K1 J1 ρ1, r = (some (.inl ((sp_book (I 108) (X.2 (i + 1)) (X.2 (i + 2)) (X.2 (i + 3)) (X.2 (i + 4))).1)), (am_mm D K1 J1 ρ1)) ∧ y_x I ρ D K1 ρ1 (sp_book (I 108) (X.2 (i + 1)) (X.2 (i + 2)) (X.2 (i + 3)) (X.2 (i + 4))).2 (I 109) (I 107 4) (I 107 32) (I 123)) rfl rfl (Nat.le_of_ble_eq_true rfl) rfl rfl (Nat.le_of_ble_eq_true rfl) (Nat.le_of_ble_eq_true rfl) (x_book _ h hn (hX _) (hX _) (hX _) (hX _)) ?_
  rintro r ⟨K1, J1, ρ1, rfl, hx⟩
  show am_E _ _ _ 257 [(3, .inl (i : Int)), (2, .inr (.inr (.inl (some 107)))), (1, .inr (.inr (.inl (some 0)))), (0, .inr (.inr (.inr 0)))] [.inl ((sp_book (I 108) (X.2 (i + 1)) (X.2 (i + 2)) (X.2 (i + 3)) (X.2 (i + 4))).1)] (am_mm D K1 J1 ρ1) _
  refine am_e_ss 5 (q := (262, [(3, .inl (i : Int)), (2, .inr (.inr (.inl (some 107)))), (1, .inr (.inr (.inl (some 0)))), (0, .inr (.inr (.inr 0)))], [.inl ((i : Int) + 1), .inr (.inr (.inr 0)), .inr (.inr (.inl (some 107))), .inl ((sp_book (I 108) (X.2 (i + 1)) (X.2 (i + 2)) (X.2 (i + 3)) (X.2 (i + 4))).1)], (am_mm D K1 J1 ρ1))) rfl ?_
  refine am_e_scr rfl (by omega) (by omega) (by omega) ?_
  show am_E _ _ _ 263 [(3, .inl (i : Int)), (2, .inr (.inr (.inl (some 107)))), (1, .inr (.inr (.inl (some 0)))), (0, .inr (.inr (.inr 0)))] [.inl ((X.2 (i + 1))), .inr (.inr (.inl (some 107))), .inl ((sp_book (I 108) (X.2 (i + 1)) (X.2 (i + 2)) (X.2 (i + 3)) (X.2 (i + 4))).1)] (am_mm D K1 J1 ρ1) _
  refine am_e_ss 4 (q := (267, [(3, .inl (i : Int)), (2, .inr (.inr (.inl (some 107)))), (1, .inr (.inr (.inl (some 0)))), (0, .inr (.inr (.inr 0)))], [.inl ((i : Int) + 2), .inr (.inr (.inr 0)), .inl ((X.2 (i + 1))), .inr (.inr (.inl (some 107))), .inl ((sp_book (I 108) (X.2 (i + 1)) (X.2 (i + 2)) (X.2 (i + 3)) (X.2 (i + 4))).1)], (am_mm D K1 J1 ρ1))) rfl ?_
  refine am_e_scr rfl (by omega) (by omega) (by omega) ?_
  show am_E _ _ _ 268 [(3, .inl (i : Int)), (2, .inr (.inr (.inl (some 107)))), (1, .inr (.inr (.inl (some 0)))), (0, .inr (.inr (.inr 0)))] [.inl ((X.2 (i + 2))), .inl ((X.2 (i + 1))), .inr (.inr (.inl (some 107))), .inl ((sp_book (I 108) (X.2 (i + 1)) (X.2 (i + 2)) (X.2 (i + 3)) (X.2 (i + 4))).1)] (am_mm D K1 J1 ρ1) _
  refine am_e_ss 4 (q := (272, [(3, .inl (i : Int)), (2, .inr (.inr (.inl (some 107)))), (1, .inr (.inr (.inl (some 0)))), (0, .inr (.inr (.inr 0)))], [.inl ((i : Int) + 3), .inr (.inr (.inr 0)), .inl ((X.2 (i + 2))), .inl ((X.2 (i + 1))), .inr (.inr (.inl (some 107))), .inl ((sp_book (I 108) (X.2 (i + 1)) (X.2 (i + 2)) (X.2 (i + 3)) (X.2 (i + 4))).1)], (am_mm D K1 J1 ρ1))) rfl ?_
  refine am_e_scr rfl (by omega) (by omega) (by omega) ?_
  show am_E _ _ _ 273 [(3, .inl (i : Int)), (2, .inr (.inr (.inl (some 107)))), (1, .inr (.inr (.inl (some 0)))), (0, .inr (.inr (.inr 0)))] [.inl ((X.2 (i + 3))), .inl ((X.2 (i + 2))), .inl ((X.2 (i + 1))), .inr (.inr (.inl (some 107))), .inl ((sp_book (I 108) (X.2 (i + 1)) (X.2 (i + 2)) (X.2 (i + 3)) (X.2 (i + 4))).1)] (am_mm D K1 J1 ρ1) _
  refine am_e_ss 4 (q := (277, [(3, .inl (i : Int)), (2, .inr (.inr (.inl (some 107)))), (1, .inr (.inr (.inl (some 0)))), (0, .inr (.inr (.inr 0)))], [.inl ((i : Int) + 4), .inr (.inr (.inr 0)), .inl ((X.2 (i + 3))), .inl ((X.2 (i + 2))), .inl ((X.2 (i + 1))), .inr (.inr (.inl (some 107))), .inl ((sp_book (I 108) (X.2 (i + 1)) (X.2 (i + 2)) (X.2 (i + 3)) (X.2 (i + 4))).1)], (am_mm D K1 J1 ρ1))) rfl ?_
  refine am_e_scr rfl (by omega) (by omega) (by omega) ?_
  show am_E _ _ _ 278 [(3, .inl (i : Int)), (2, .inr (.inr (.inl (some 107)))), (1, .inr (.inr (.inl (some 0)))), (0, .inr (.inr (.inr 0)))] [.inl ((X.2 (i + 4))), .inl ((X.2 (i + 3))), .inl ((X.2 (i + 2))), .inl ((X.2 (i + 1))), .inr (.inr (.inl (some 107))), .inl ((sp_book (I 108) (X.2 (i + 1)) (X.2 (i + 2)) (X.2 (i + 3)) (X.2 (i + 4))).1)] (am_mm D K1 J1 ρ1) _
  refine am_e_virtual (Q := fun r => ∃ K2 J2, r = (some (.inl ((sp_book (I 108) (X.2 (i + 1)) (X.2 (i + 2)) (X.2 (i + 3)) (X.2 (i + 4))).1)), (am_mm D K2 J2 ρ1)) ∧ y_m K1 K2 (sp_book (I 108) (X.2 (i + 1)) (X.2 (i + 2)) (X.2 (i + 3)) (X.2 (i + 4))).2 (I 109) (I 107 4) (I 107 32) (I 123)) rfl rfl (Nat.le_of_ble_eq_true rfl) rfl rfl (Nat.le_of_ble_eq_true rfl) (Nat.le_of_ble_eq_true rfl) (m_book _ h hn hx.2.1 (hX _) (hX _) (hX _) (hX _)) ?_
  rintro r ⟨K2, J2, rfl, hm⟩
  show am_E _ _ _ 281 [(3, .inl (i : Int)), (2, .inr (.inr (.inl (some 107)))), (1, .inr (.inr (.inl (some 0)))), (0, .inr (.inr (.inr 0)))] [.inl ((sp_book (I 108) (X.2 (i + 1)) (X.2 (i + 2)) (X.2 (i + 3)) (X.2 (i + 4))).1), .inl ((sp_book (I 108) (X.2 (i + 1)) (X.2 (i + 2)) (X.2 (i + 3)) (X.2 (i + 4))).1)] (am_mm D K2 J2 ρ1) _
  refine am_e_icmpEq rfl ?_
  show am_E _ _ _ 1008 [(3, .inl (i : Int)), (2, .inr (.inr (.inl (some 107)))), (1, .inr (.inr (.inl (some 0)))), (0, .inr (.inr (.inr 0)))] [] (am_mm D K2 J2 ρ1) _
  exact hc _ _ _ _ (y_chg h hx hm (y_mono (y_book h.1) (by omega)))
set_option maxRecDepth 20000 in
theorem y_c_of {X : Nat × (Nat → Int)} {D : List (Nat × Nat)} {I J : Nat → Nat → Int} {ρ : Nat → Nat → Option Nat} {n i : Nat} {P : am_R → Prop} (hX : ∀ j, -2147483648 ≤ X.2 j ∧ X.2 j < 2147483648) (hi : i + 5 ≤ X.1) (hL : X.1 ≤ 320) (h : y_iv n D I ρ) (hn : n ≤ 64) (hc : ∀ D' I' J' ρ', y_iv (n + 1) D' I' ρ' → am_E X 2000 0 1008 [(3, .inl (i : Int)), (2, .inr (.inr (.inl (some 107)))), (1, .inr (.inr (.inl (some 0)))), (0, .inr (.inr (.inr 0)))] [] (am_mm D' I' J' ρ') P) : am_E X 2000 0 286 [(3, .inl (i : Int)), (2, .inr (.inr (.inl (some 107)))), (1, .inr (.inr (.inl (some 0)))), (0, .inr (.inr (.inr 0)))] [] (am_mm D I J ρ) P := by
  refine am_e_ss 5 (q := (291, [(3, .inl (i : Int)), (2, .inr (.inr (.inl (some 107)))), (1, .inr (.inr (.inl (some 0)))), (0, .inr (.inr (.inr 0)))], [.inl ((i : Int) + 1), .inr (.inr (.inr 0)), .inr (.inr (.inl (some 0)))], (am_mm D I J ρ))) rfl ?_
  refine am_e_scr rfl (by omega) (by omega) (by omega) ?_
  show am_E _ _ _ 292 [(3, .inl (i : Int)), (2, .inr (.inr (.inl (some 107)))), (1, .inr (.inr (.inl (some 0)))), (0, .inr (.inr (.inr 0)))] [.inl ((X.2 (i + 1))), .inr (.inr (.inl (some 0)))] (am_mm D I J ρ) _
  refine am_e_ss 4 (q := (296, [(3, .inl (i : Int)), (2, .inr (.inr (.inl (some 107)))), (1, .inr (.inr (.inl (some 0)))), (0, .inr (.inr (.inr 0)))], [.inl ((i : Int) + 2), .inr (.inr (.inr 0)), .inl ((X.2 (i + 1))), .inr (.inr (.inl (some 0)))], (am_mm D I J ρ))) rfl ?_
  refine am_e_scr rfl (by omega) (by omega) (by omega) ?_
  show am_E _ _ _ 297 [(3, .inl (i : Int)), (2, .inr (.inr (.inl (some 107)))), (1, .inr (.inr (.inl (some 0)))), (0, .inr (.inr (.inr 0)))] [.inl ((X.2 (i + 2))), .inl ((X.2 (i + 1))), .inr (.inr (.inl (some 0)))] (am_mm D I J ρ) _
  refine am_e_virtual (Q := fun r => ∃ K1 J1 ρ1, r = (some (.inl ((sp_of (I 108) (X.2 (i + 1)) (X.2 (i + 2))))), (am_mm D K1 J1 ρ1)) ∧ y_x I ρ D K1 ρ1 (I 108) (I 109) (I 107 4) (I 107 32) (I 123)) rfl rfl (Nat.le_of_ble_eq_true rfl) rfl rfl (Nat.le_of_ble_eq_true rfl) (Nat.le_of_ble_eq_true rfl) (x_of _ h hn (hX _) (hX _)) ?_
  rintro r ⟨K1, J1, ρ1, rfl, hx⟩
  show am_E _ _ _ 300 [(3, .inl (i : Int)), (2, .inr (.inr (.inl (some 107)))), (1, .inr (.inr (.inl (some 0)))), (0, .inr (.inr (.inr 0)))] [.inl ((sp_of (I 108) (X.2 (i + 1)) (X.2 (i + 2))))] (am_mm D K1 J1 ρ1) _
  refine am_e_ss 5 (q := (305, [(3, .inl (i : Int)), (2, .inr (.inr (.inl (some 107)))), (1, .inr (.inr (.inl (some 0)))), (0, .inr (.inr (.inr 0)))], [.inl ((i : Int) + 1), .inr (.inr (.inr 0)), .inr (.inr (.inl (some 107))), .inl ((sp_of (I 108) (X.2 (i + 1)) (X.2 (i + 2))))], (am_mm D K1 J1 ρ1))) rfl ?_
  refine am_e_scr rfl (by omega) (by omega) (by omega) ?_
  show am_E _ _ _ 306 [(3, .inl (i : Int)), (2, .inr (.inr (.inl (some 107)))), (1, .inr (.inr (.inl (some 0)))), (0, .inr (.inr (.inr 0)))] [.inl ((X.2 (i + 1))), .inr (.inr (.inl (some 107))), .inl ((sp_of (I 108) (X.2 (i + 1)) (X.2 (i + 2))))] (am_mm D K1 J1 ρ1) _
  refine am_e_ss 4 (q := (310, [(3, .inl (i : Int)), (2, .inr (.inr (.inl (some 107)))), (1, .inr (.inr (.inl (some 0)))), (0, .inr (.inr (.inr 0)))], [.inl ((i : Int) + 2), .inr (.inr (.inr 0)), .inl ((X.2 (i + 1))), .inr (.inr (.inl (some 107))), .inl ((sp_of (I 108) (X.2 (i + 1)) (X.2 (i + 2))))], (am_mm D K1 J1 ρ1))) rfl ?_
  refine am_e_scr rfl (by omega) (by omega) (by omega) ?_
  show am_E _ _ _ 311 [(3, .inl (i : Int)), (2, .inr (.inr (.inl (some 107)))), (1, .inr (.inr (.inl (some 0)))), (0, .inr (.inr (.inr 0)))] [.inl ((X.2 (i + 2))), .inl ((X.2 (i + 1))), .inr (.inr (.inl (some 107))), .inl ((sp_of (I 108) (X.2 (i + 1)) (X.2 (i + 2))))] (am_mm D K1 J1 ρ1) _
  refine am_e_virtual (Q := fun r => ∃ K2 J2, r = (some (.inl ((sp_of (I 108) (X.2 (i + 1)) (X.2 (i + 2))))), (am_mm D K2 J2 ρ1)) ∧ y_m K1 K2 (I 108) (I 109) (I 107 4) (I 107 32) (I 123)) rfl rfl (Nat.le_of_ble_eq_true rfl) rfl rfl (Nat.le_of_ble_eq_true rfl) (Nat.le_of_ble_eq_true rfl) (m_of _ h hn hx.2.1 (hX _) (hX _)) ?_
  rintro r ⟨K2, J2, rfl, hm⟩
  show am_E _ _ _ 314 [(3, .inl (i : Int)), (2, .inr (.inr (.inl (some 107)))), (1, .inr (.inr (.inl (some 0)))), (0, .inr (.inr (.inr 0)))] [.inl ((sp_of (I 108) (X.2 (i + 1)) (X.2 (i + 2)))), .inl ((sp_of (I 108) (X.2 (i + 1)) (X.2 (i + 2))))] (am_mm D K2 J2 ρ1) _
  refine am_e_icmpEq rfl ?_
  show am_E _ _ _ 1008 [(3, .inl (i : Int)), (2, .inr (.inr (.inl (some 107)))), (1, .inr (.inr (.inl (some 0)))), (0, .inr (.inr (.inr 0)))] [] (am_mm D K2 J2 ρ1) _
  exact hc _ _ _ _ (y_ask h hx hm)
set_option maxRecDepth 20000 in
theorem y_c_at {X : Nat × (Nat → Int)} {D : List (Nat × Nat)} {I J : Nat → Nat → Int} {ρ : Nat → Nat → Option Nat} {n i : Nat} {P : am_R → Prop} (hX : ∀ j, -2147483648 ≤ X.2 j ∧ X.2 j < 2147483648) (hi : i + 5 ≤ X.1) (hL : X.1 ≤ 320) (h : y_iv n D I ρ) (hn : n ≤ 64) (hc : ∀ D' I' J' ρ', y_iv (n + 1) D' I' ρ' → am_E X 2000 0 1008 [(3, .inl (i : Int)), (2, .inr (.inr (.inl (some 107)))), (1, .inr (.inr (.inl (some 0)))), (0, .inr (.inr (.inr 0)))] [] (am_mm D' I' J' ρ') P) : am_E X 2000 0 319 [(3, .inl (i : Int)), (2, .inr (.inr (.inl (some 107)))), (1, .inr (.inr (.inl (some 0)))), (0, .inr (.inr (.inr 0)))] [] (am_mm D I J ρ) P := by
  refine am_e_ss 5 (q := (324, [(3, .inl (i : Int)), (2, .inr (.inr (.inl (some 107)))), (1, .inr (.inr (.inl (some 0)))), (0, .inr (.inr (.inr 0)))], [.inl ((i : Int) + 1), .inr (.inr (.inr 0)), .inr (.inr (.inl (some 0)))], (am_mm D I J ρ))) rfl ?_
  refine am_e_scr rfl (by omega) (by omega) (by omega) ?_
  show am_E _ _ _ 325 [(3, .inl (i : Int)), (2, .inr (.inr (.inl (some 107)))), (1, .inr (.inr (.inl (some 0)))), (0, .inr (.inr (.inr 0)))] [.inl ((X.2 (i + 1))), .inr (.inr (.inl (some 0)))] (am_mm D I J ρ) _
  refine am_e_ss 4 (q := (329, [(3, .inl (i : Int)), (2, .inr (.inr (.inl (some 107)))), (1, .inr (.inr (.inl (some 0)))), (0, .inr (.inr (.inr 0)))], [.inl ((i : Int) + 2), .inr (.inr (.inr 0)), .inl ((X.2 (i + 1))), .inr (.inr (.inl (some 0)))], (am_mm D I J ρ))) rfl ?_
  refine am_e_scr rfl (by omega) (by omega) (by omega) ?_
  show am_E _ _ _ 330 [(3, .inl (i : Int)), (2, .inr (.inr (.inl (some 107)))), (1, .inr (.inr (.inl (some 0)))), (0, .inr (.inr (.inr 0)))] [.inl ((X.2 (i + 2))), .inl ((X.2 (i + 1))), .inr (.inr (.inl (some 0)))] (am_mm D I J ρ) _
  refine am_e_virtual (Q := fun r => ∃ K1 J1 ρ1, r = (some (.inl ((sp_at (I 108) (X.2 (i + 1)) (X.2 (i + 2))))), (am_mm D K1 J1 ρ1)) ∧ y_x I ρ D K1 ρ1 (I 108) (I 109) (I 107 4) (I 107 32) (I 123)) rfl rfl (Nat.le_of_ble_eq_true rfl) rfl rfl (Nat.le_of_ble_eq_true rfl) (Nat.le_of_ble_eq_true rfl) (x_at _ h hn (hX _) (hX _)) ?_
  rintro r ⟨K1, J1, ρ1, rfl, hx⟩
  show am_E _ _ _ 333 [(3, .inl (i : Int)), (2, .inr (.inr (.inl (some 107)))), (1, .inr (.inr (.inl (some 0)))), (0, .inr (.inr (.inr 0)))] [.inl ((sp_at (I 108) (X.2 (i + 1)) (X.2 (i + 2))))] (am_mm D K1 J1 ρ1) _
  refine am_e_ss 5 (q := (338, [(3, .inl (i : Int)), (2, .inr (.inr (.inl (some 107)))), (1, .inr (.inr (.inl (some 0)))), (0, .inr (.inr (.inr 0)))], [.inl ((i : Int) + 1), .inr (.inr (.inr 0)), .inr (.inr (.inl (some 107))), .inl ((sp_at (I 108) (X.2 (i + 1)) (X.2 (i + 2))))], (am_mm D K1 J1 ρ1))) rfl ?_
  refine am_e_scr rfl (by omega) (by omega) (by omega) ?_
  show am_E _ _ _ 339 [(3, .inl (i : Int)), (2, .inr (.inr (.inl (some 107)))), (1, .inr (.inr (.inl (some 0)))), (0, .inr (.inr (.inr 0)))] [.inl ((X.2 (i + 1))), .inr (.inr (.inl (some 107))), .inl ((sp_at (I 108) (X.2 (i + 1)) (X.2 (i + 2))))] (am_mm D K1 J1 ρ1) _
  refine am_e_ss 4 (q := (343, [(3, .inl (i : Int)), (2, .inr (.inr (.inl (some 107)))), (1, .inr (.inr (.inl (some 0)))), (0, .inr (.inr (.inr 0)))], [.inl ((i : Int) + 2), .inr (.inr (.inr 0)), .inl ((X.2 (i + 1))), .inr (.inr (.inl (some 107))), .inl ((sp_at (I 108) (X.2 (i + 1)) (X.2 (i + 2))))], (am_mm D K1 J1 ρ1))) rfl ?_
  refine am_e_scr rfl (by omega) (by omega) (by omega) ?_
  show am_E _ _ _ 344 [(3, .inl (i : Int)), (2, .inr (.inr (.inl (some 107)))), (1, .inr (.inr (.inl (some 0)))), (0, .inr (.inr (.inr 0)))] [.inl ((X.2 (i + 2))), .inl ((X.2 (i + 1))), .inr (.inr (.inl (some 107))), .inl ((sp_at (I 108) (X.2 (i + 1)) (X.2 (i + 2))))] (am_mm D K1 J1 ρ1) _
  refine am_e_virtual (Q := fun r => ∃ K2 J2, r = (some (.inl ((sp_at (I 108) (X.2 (i + 1)) (X.2 (i + 2))))), (am_mm D K2 J2 ρ1)) ∧ y_m K1 K2 (I 108) (I 109) (I 107 4) (I 107 32) (I 123)) rfl rfl (Nat.le_of_ble_eq_true rfl) rfl rfl (Nat.le_of_ble_eq_true rfl) (Nat.le_of_ble_eq_true rfl) (m_at _ h hn hx.2.1 (hX _) (hX _)) ?_
  rintro r ⟨K2, J2, rfl, hm⟩
  show am_E _ _ _ 347 [(3, .inl (i : Int)), (2, .inr (.inr (.inl (some 107)))), (1, .inr (.inr (.inl (some 0)))), (0, .inr (.inr (.inr 0)))] [.inl ((sp_at (I 108) (X.2 (i + 1)) (X.2 (i + 2)))), .inl ((sp_at (I 108) (X.2 (i + 1)) (X.2 (i + 2))))] (am_mm D K2 J2 ρ1) _
  refine am_e_icmpEq rfl ?_
  show am_E _ _ _ 1008 [(3, .inl (i : Int)), (2, .inr (.inr (.inl (some 107)))), (1, .inr (.inr (.inl (some 0)))), (0, .inr (.inr (.inr 0)))] [] (am_mm D K2 J2 ρ1) _
  exact hc _ _ _ _ (y_ask h hx hm)
set_option maxRecDepth 20000 in
theorem y_c_told {X : Nat × (Nat → Int)} {D : List (Nat × Nat)} {I J : Nat → Nat → Int} {ρ : Nat → Nat → Option Nat} {n i : Nat} {P : am_R → Prop} (hX : ∀ j, -2147483648 ≤ X.2 j ∧ X.2 j < 2147483648) (hi : i + 5 ≤ X.1) (hL : X.1 ≤ 320) (h : y_iv n D I ρ) (hn : n ≤ 64) (hc : ∀ D' I' J' ρ', y_iv (n + 1) D' I' ρ' → am_E X 2000 0 1008 [(3, .inl (i : Int)), (2, .inr (.inr (.inl (some 107)))), (1, .inr (.inr (.inl (some 0)))), (0, .inr (.inr (.inr 0)))] [] (am_mm D' I' J' ρ') P) : am_E X 2000 0 352 [(3, .inl (i : Int)), (2, .inr (.inr (.inl (some 107)))), (1, .inr (.inr (.inl (some 0)))), (0, .inr (.inr (.inr 0)))] [] (am_mm D I J ρ) P := by
  refine am_e_ss 5 (q := (357, [(3, .inl (i : Int)), (2, .inr (.inr (.inl (some 107)))), (1, .inr (.inr (.inl (some 0)))), (0, .inr (.inr (.inr 0)))], [.inl ((i : Int) + 1), .inr (.inr (.inr 0)), .inr (.inr (.inl (some 0)))], (am_mm D I J ρ))) rfl ?_
  refine am_e_scr rfl (by omega) (by omega) (by omega) ?_
  show am_E _ _ _ 358 [(3, .inl (i : Int)), (2, .inr (.inr (.inl (some 107)))), (1, .inr (.inr (.inl (some 0)))), (0, .inr (.inr (.inr 0)))] [.inl ((X.2 (i + 1))), .inr (.inr (.inl (some 0)))] (am_mm D I J ρ) _
  refine am_e_virtual (Q := fun r => ∃ K1 J1 ρ1, r = (some (.inl ((sp_told (I 108) (X.2 (i + 1))))), (am_mm D K1 J1 ρ1)) ∧ y_x I ρ D K1 ρ1 (I 108) (I 109) (I 107 4) (I 107 32) (I 123)) rfl rfl (Nat.le_of_ble_eq_true rfl) rfl rfl (Nat.le_of_ble_eq_true rfl) (Nat.le_of_ble_eq_true rfl) (x_told _ h hn (hX _)) ?_
  rintro r ⟨K1, J1, ρ1, rfl, hx⟩
  show am_E _ _ _ 361 [(3, .inl (i : Int)), (2, .inr (.inr (.inl (some 107)))), (1, .inr (.inr (.inl (some 0)))), (0, .inr (.inr (.inr 0)))] [.inl ((sp_told (I 108) (X.2 (i + 1))))] (am_mm D K1 J1 ρ1) _
  refine am_e_ss 5 (q := (366, [(3, .inl (i : Int)), (2, .inr (.inr (.inl (some 107)))), (1, .inr (.inr (.inl (some 0)))), (0, .inr (.inr (.inr 0)))], [.inl ((i : Int) + 1), .inr (.inr (.inr 0)), .inr (.inr (.inl (some 107))), .inl ((sp_told (I 108) (X.2 (i + 1))))], (am_mm D K1 J1 ρ1))) rfl ?_
  refine am_e_scr rfl (by omega) (by omega) (by omega) ?_
  show am_E _ _ _ 367 [(3, .inl (i : Int)), (2, .inr (.inr (.inl (some 107)))), (1, .inr (.inr (.inl (some 0)))), (0, .inr (.inr (.inr 0)))] [.inl ((X.2 (i + 1))), .inr (.inr (.inl (some 107))), .inl ((sp_told (I 108) (X.2 (i + 1))))] (am_mm D K1 J1 ρ1) _
  refine am_e_virtual (Q := fun r => ∃ K2 J2, r = (some (.inl ((sp_told (I 108) (X.2 (i + 1))))), (am_mm D K2 J2 ρ1)) ∧ y_m K1 K2 (I 108) (I 109) (I 107 4) (I 107 32) (I 123)) rfl rfl (Nat.le_of_ble_eq_true rfl) rfl rfl (Nat.le_of_ble_eq_true rfl) (Nat.le_of_ble_eq_true rfl) (m_told _ h hn hx.2.1 (hX _)) ?_
  rintro r ⟨K2, J2, rfl, hm⟩
  show am_E _ _ _ 370 [(3, .inl (i : Int)), (2, .inr (.inr (.inl (some 107)))), (1, .inr (.inr (.inl (some 0)))), (0, .inr (.inr (.inr 0)))] [.inl ((sp_told (I 108) (X.2 (i + 1)))), .inl ((sp_told (I 108) (X.2 (i + 1))))] (am_mm D K2 J2 ρ1) _
  refine am_e_icmpEq rfl ?_
  show am_E _ _ _ 1008 [(3, .inl (i : Int)), (2, .inr (.inr (.inl (some 107)))), (1, .inr (.inr (.inl (some 0)))), (0, .inr (.inr (.inr 0)))] [] (am_mm D K2 J2 ρ1) _
  exact hc _ _ _ _ (y_ask h hx hm)
set_option maxRecDepth 20000 in
theorem y_c_had {X : Nat × (Nat → Int)} {D : List (Nat × Nat)} {I J : Nat → Nat → Int} {ρ : Nat → Nat → Option Nat} {n i : Nat} {P : am_R → Prop} (hX : ∀ j, -2147483648 ≤ X.2 j ∧ X.2 j < 2147483648) (hi : i + 5 ≤ X.1) (hL : X.1 ≤ 320) (h : y_iv n D I ρ) (hn : n ≤ 64) (hc : ∀ D' I' J' ρ', y_iv (n + 1) D' I' ρ' → am_E X 2000 0 1008 [(3, .inl (i : Int)), (2, .inr (.inr (.inl (some 107)))), (1, .inr (.inr (.inl (some 0)))), (0, .inr (.inr (.inr 0)))] [] (am_mm D' I' J' ρ') P) : am_E X 2000 0 375 [(3, .inl (i : Int)), (2, .inr (.inr (.inl (some 107)))), (1, .inr (.inr (.inl (some 0)))), (0, .inr (.inr (.inr 0)))] [] (am_mm D I J ρ) P := by
  have hX2 := hX (i + 2)
  refine am_e_ss 5 (q := (380, [(3, .inl (i : Int)), (2, .inr (.inr (.inl (some 107)))), (1, .inr (.inr (.inl (some 0)))), (0, .inr (.inr (.inr 0)))], [.inl ((i : Int) + 1), .inr (.inr (.inr 0)), .inr (.inr (.inl (some 0)))], (am_mm D I J ρ))) rfl ?_
  refine am_e_scr rfl (by omega) (by omega) (by omega) ?_
  show am_E _ _ _ 381 [(3, .inl (i : Int)), (2, .inr (.inr (.inl (some 107)))), (1, .inr (.inr (.inl (some 0)))), (0, .inr (.inr (.inr 0)))] [.inl ((X.2 (i + 1))), .inr (.inr (.inl (some 0)))] (am_mm D I J ρ) _
  refine am_e_ss 4 (q := (385, [(3, .inl (i : Int)), (2, .inr (.inr (.inl (some 107)))), (1, .inr (.inr (.inl (some 0)))), (0, .inr (.inr (.inr 0)))], [.inl ((i : Int) + 2), .inr (.inr (.inr 0)), .inl ((X.2 (i + 1))), .inr (.inr (.inl (some 0)))], (am_mm D I J ρ))) rfl ?_
  refine am_e_scr rfl (by omega) (by omega) (by omega) ?_
  show am_E _ _ _ 386 [(3, .inl (i : Int)), (2, .inr (.inr (.inl (some 107)))), (1, .inr (.inr (.inl (some 0)))), (0, .inr (.inr (.inr 0)))] [.inl ((X.2 (i + 2))), .inl ((X.2 (i + 1))), .inr (.inr (.inl (some 0)))] (am_mm D I J ρ) _
  refine am_e_if2 rfl ⟨by omega, by omega⟩ (fun (h1 : (X.2 (i + 2)) = 0) => ?_) (fun (h1 : ¬ ((X.2 (i + 2)) = 0)) => ?_)
  · show am_E _ _ _ 393 [(3, .inl (i : Int)), (2, .inr (.inr (.inl (some 107)))), (1, .inr (.inr (.inl (some 0)))), (0, .inr (.inr (.inr 0)))] [.inl ((X.2 (i + 1))), .inr (.inr (.inl (some 0)))] (am_mm D I J ρ) _
    refine am_e_ss 1 (q := (394, [(3, .inl (i : Int)), (2, .inr (.inr (.inl (some 107)))), (1, .inr (.inr (.inl (some 0)))), (0, .inr (.inr (.inr 0)))], [.inl 0, .inl ((X.2 (i + 1))), .inr (.inr (.inl (some 0)))], (am_mm D I J ρ))) rfl ?_
    refine am_e_virtual (Q := fun r => ∃ K1 J1 ρ1, r = (some (.inl ((sp_had (I 108) (X.2 (i + 1)) 0).1)), (am_mm D K1 J1 ρ1)) ∧ y_x I ρ D K1 ρ1 (sp_had (I 108) (X.2 (i + 1)) 0).2 (I 109) (I 107 4) (I 107 32) (I 123)) rfl rfl (Nat.le_of_ble_eq_true rfl) rfl rfl (Nat.le_of_ble_eq_true rfl) (Nat.le_of_ble_eq_true rfl) (x_had _ h hn (hX _) (by decide)) ?_
    rintro r ⟨K1, J1, ρ1, rfl, hx⟩
    show am_E _ _ _ 397 [(3, .inl (i : Int)), (2, .inr (.inr (.inl (some 107)))), (1, .inr (.inr (.inl (some 0)))), (0, .inr (.inr (.inr 0)))] [.inl ((sp_had (I 108) (X.2 (i + 1)) 0).1)] (am_mm D K1 J1 ρ1) _
    refine am_e_ss 5 (q := (402, [(3, .inl (i : Int)), (2, .inr (.inr (.inl (some 107)))), (1, .inr (.inr (.inl (some 0)))), (0, .inr (.inr (.inr 0)))], [.inl ((i : Int) + 1), .inr (.inr (.inr 0)), .inr (.inr (.inl (some 107))), .inl ((sp_had (I 108) (X.2 (i + 1)) 0).1)], (am_mm D K1 J1 ρ1))) rfl ?_
    refine am_e_scr rfl (by omega) (by omega) (by omega) ?_
    show am_E _ _ _ 403 [(3, .inl (i : Int)), (2, .inr (.inr (.inl (some 107)))), (1, .inr (.inr (.inl (some 0)))), (0, .inr (.inr (.inr 0)))] [.inl ((X.2 (i + 1))), .inr (.inr (.inl (some 107))), .inl ((sp_had (I 108) (X.2 (i + 1)) 0).1)] (am_mm D K1 J1 ρ1) _
    refine am_e_ss 4 (q := (407, [(3, .inl (i : Int)), (2, .inr (.inr (.inl (some 107)))), (1, .inr (.inr (.inl (some 0)))), (0, .inr (.inr (.inr 0)))], [.inl ((i : Int) + 2), .inr (.inr (.inr 0)), .inl ((X.2 (i + 1))), .inr (.inr (.inl (some 107))), .inl ((sp_had (I 108) (X.2 (i + 1)) 0).1)], (am_mm D K1 J1 ρ1))) rfl ?_
    refine am_e_scr rfl (by omega) (by omega) (by omega) ?_
    show am_E _ _ _ 408 [(3, .inl (i : Int)), (2, .inr (.inr (.inl (some 107)))), (1, .inr (.inr (.inl (some 0)))), (0, .inr (.inr (.inr 0)))] [.inl ((X.2 (i + 2))), .inl ((X.2 (i + 1))), .inr (.inr (.inl (some 107))), .inl ((sp_had (I 108) (X.2 (i + 1)) 0).1)] (am_mm D K1 J1 ρ1) _
    refine am_e_if2 rfl ⟨by omega, by omega⟩ (fun (h2 : (X.2 (i + 2)) = 0) => ?_) (fun (h2 : ¬ ((X.2 (i + 2)) = 0)) => ?_)
    · show am_E _ _ _ 415 [(3, .inl (i : Int)), (2, .inr (.inr (.inl (some 107)))), (1, .inr (.inr (.inl (some 0)))), (0, .inr (.inr (.inr 0)))] [.inl ((X.2 (i + 1))), .inr (.inr (.inl (some 107))), .inl ((sp_had (I 108) (X.2 (i + 1)) 0).1)] (am_mm D K1 J1 ρ1) _
      refine am_e_ss 1 (q := (416, [(3, .inl (i : Int)), (2, .inr (.inr (.inl (some 107)))), (1, .inr (.inr (.inl (some 0)))), (0, .inr (.inr (.inr 0)))], [.inl 0, .inl ((X.2 (i + 1))), .inr (.inr (.inl (some 107))), .inl ((sp_had (I 108) (X.2 (i + 1)) 0).1)], (am_mm D K1 J1 ρ1))) rfl ?_
      refine am_e_virtual (Q := fun r => ∃ K2 J2, r = (some (.inl ((sp_had (I 108) (X.2 (i + 1)) 0).1)), (am_mm D K2 J2 ρ1)) ∧ y_m K1 K2 (sp_had (I 108) (X.2 (i + 1)) 0).2 (I 109) (I 107 4) (I 107 32) (I 123)) rfl rfl (Nat.le_of_ble_eq_true rfl) rfl rfl (Nat.le_of_ble_eq_true rfl) (Nat.le_of_ble_eq_true rfl) (m_had _ h hn hx.2.1 (hX _) (by decide)) ?_
      rintro r ⟨K2, J2, rfl, hm⟩
      show am_E _ _ _ 419 [(3, .inl (i : Int)), (2, .inr (.inr (.inl (some 107)))), (1, .inr (.inr (.inl (some 0)))), (0, .inr (.inr (.inr 0)))] [.inl ((sp_had (I 108) (X.2 (i + 1)) 0).1), .inl ((sp_had (I 108) (X.2 (i + 1)) 0).1)] (am_mm D K2 J2 ρ1) _
      refine am_e_icmpEq rfl ?_
      show am_E _ _ _ 1008 [(3, .inl (i : Int)), (2, .inr (.inr (.inl (some 107)))), (1, .inr (.inr (.inl (some 0)))), (0, .inr (.inr (.inr 0)))] [] (am_mm D K2 J2 ρ1) _
      exact hc _ _ _ _ (y_chg h hx hm (y_mono (y_had (by decide) h.1) (by omega)))
    · show am_E _ _ _ 411 [(3, .inl (i : Int)), (2, .inr (.inr (.inl (some 107)))), (1, .inr (.inr (.inl (some 0)))), (0, .inr (.inr (.inr 0)))] [.inl ((X.2 (i + 1))), .inr (.inr (.inl (some 107))), .inl ((sp_had (I 108) (X.2 (i + 1)) 0).1)] (am_mm D K1 J1 ρ1) _
      exfalso
      omega
  · show am_E _ _ _ 389 [(3, .inl (i : Int)), (2, .inr (.inr (.inl (some 107)))), (1, .inr (.inr (.inl (some 0)))), (0, .inr (.inr (.inr 0)))] [.inl ((X.2 (i + 1))), .inr (.inr (.inl (some 0)))] (am_mm D I J ρ) _
    refine am_e_ss 2 (q := (394, [(3, .inl (i : Int)), (2, .inr (.inr (.inl (some 107)))), (1, .inr (.inr (.inl (some 0)))), (0, .inr (.inr (.inr 0)))], [.inl 1, .inl ((X.2 (i + 1))), .inr (.inr (.inl (some 0)))], (am_mm D I J ρ))) rfl ?_
    refine am_e_virtual (Q := fun r => ∃ K1 J1 ρ1, r = (some (.inl ((sp_had (I 108) (X.2 (i + 1)) 1).1)), (am_mm D K1 J1 ρ1)) ∧ y_x I ρ D K1 ρ1 (sp_had (I 108) (X.2 (i + 1)) 1).2 (I 109) (I 107 4) (I 107 32) (I 123)) rfl rfl (Nat.le_of_ble_eq_true rfl) rfl rfl (Nat.le_of_ble_eq_true rfl) (Nat.le_of_ble_eq_true rfl) (x_had _ h hn (hX _) (by decide)) ?_
    rintro r ⟨K1, J1, ρ1, rfl, hx⟩
    show am_E _ _ _ 397 [(3, .inl (i : Int)), (2, .inr (.inr (.inl (some 107)))), (1, .inr (.inr (.inl (some 0)))), (0, .inr (.inr (.inr 0)))] [.inl ((sp_had (I 108) (X.2 (i + 1)) 1).1)] (am_mm D K1 J1 ρ1) _
    refine am_e_ss 5 (q := (402, [(3, .inl (i : Int)), (2, .inr (.inr (.inl (some 107)))), (1, .inr (.inr (.inl (some 0)))), (0, .inr (.inr (.inr 0)))], [.inl ((i : Int) + 1), .inr (.inr (.inr 0)), .inr (.inr (.inl (some 107))), .inl ((sp_had (I 108) (X.2 (i + 1)) 1).1)], (am_mm D K1 J1 ρ1))) rfl ?_
    refine am_e_scr rfl (by omega) (by omega) (by omega) ?_
    show am_E _ _ _ 403 [(3, .inl (i : Int)), (2, .inr (.inr (.inl (some 107)))), (1, .inr (.inr (.inl (some 0)))), (0, .inr (.inr (.inr 0)))] [.inl ((X.2 (i + 1))), .inr (.inr (.inl (some 107))), .inl ((sp_had (I 108) (X.2 (i + 1)) 1).1)] (am_mm D K1 J1 ρ1) _
    refine am_e_ss 4 (q := (407, [(3, .inl (i : Int)), (2, .inr (.inr (.inl (some 107)))), (1, .inr (.inr (.inl (some 0)))), (0, .inr (.inr (.inr 0)))], [.inl ((i : Int) + 2), .inr (.inr (.inr 0)), .inl ((X.2 (i + 1))), .inr (.inr (.inl (some 107))), .inl ((sp_had (I 108) (X.2 (i + 1)) 1).1)], (am_mm D K1 J1 ρ1))) rfl ?_
    refine am_e_scr rfl (by omega) (by omega) (by omega) ?_
    show am_E _ _ _ 408 [(3, .inl (i : Int)), (2, .inr (.inr (.inl (some 107)))), (1, .inr (.inr (.inl (some 0)))), (0, .inr (.inr (.inr 0)))] [.inl ((X.2 (i + 2))), .inl ((X.2 (i + 1))), .inr (.inr (.inl (some 107))), .inl ((sp_had (I 108) (X.2 (i + 1)) 1).1)] (am_mm D K1 J1 ρ1) _
    refine am_e_if2 rfl ⟨by omega, by omega⟩ (fun (h3 : (X.2 (i + 2)) = 0) => ?_) (fun (h3 : ¬ ((X.2 (i + 2)) = 0)) => ?_)
    · show am_E _ _ _ 415 [(3, .inl (i : Int)), (2, .inr (.inr (.inl (some 107)))), (1, .inr (.inr (.inl (some 0)))), (0, .inr (.inr (.inr 0)))] [.inl ((X.2 (i + 1))), .inr (.inr (.inl (some 107))), .inl ((sp_had (I 108) (X.2 (i + 1)) 1).1)] (am_mm D K1 J1 ρ1) _
      exfalso
      omega
    · show am_E _ _ _ 411 [(3, .inl (i : Int)), (2, .inr (.inr (.inl (some 107)))), (1, .inr (.inr (.inl (some 0)))), (0, .inr (.inr (.inr 0)))] [.inl ((X.2 (i + 1))), .inr (.inr (.inl (some 107))), .inl ((sp_had (I 108) (X.2 (i + 1)) 1).1)] (am_mm D K1 J1 ρ1) _
      refine am_e_ss 2 (q := (416, [(3, .inl (i : Int)), (2, .inr (.inr (.inl (some 107)))), (1, .inr (.inr (.inl (some 0)))), (0, .inr (.inr (.inr 0)))], [.inl 1, .inl ((X.2 (i + 1))), .inr (.inr (.inl (some 107))), .inl ((sp_had (I 108) (X.2 (i + 1)) 1).1)], (am_mm D K1 J1 ρ1))) rfl ?_
      refine am_e_virtual (Q := fun r => ∃ K2 J2, r = (some (.inl ((sp_had (I 108) (X.2 (i + 1)) 1).1)), (am_mm D K2 J2 ρ1)) ∧ y_m K1 K2 (sp_had (I 108) (X.2 (i + 1)) 1).2 (I 109) (I 107 4) (I 107 32) (I 123)) rfl rfl (Nat.le_of_ble_eq_true rfl) rfl rfl (Nat.le_of_ble_eq_true rfl) (Nat.le_of_ble_eq_true rfl) (m_had _ h hn hx.2.1 (hX _) (by decide)) ?_
      rintro r ⟨K2, J2, rfl, hm⟩
      show am_E _ _ _ 419 [(3, .inl (i : Int)), (2, .inr (.inr (.inl (some 107)))), (1, .inr (.inr (.inl (some 0)))), (0, .inr (.inr (.inr 0)))] [.inl ((sp_had (I 108) (X.2 (i + 1)) 1).1), .inl ((sp_had (I 108) (X.2 (i + 1)) 1).1)] (am_mm D K2 J2 ρ1) _
      refine am_e_icmpEq rfl ?_
      show am_E _ _ _ 1008 [(3, .inl (i : Int)), (2, .inr (.inr (.inl (some 107)))), (1, .inr (.inr (.inl (some 0)))), (0, .inr (.inr (.inr 0)))] [] (am_mm D K2 J2 ρ1) _
      exact hc _ _ _ _ (y_chg h hx hm (y_mono (y_had (by decide) h.1) (by omega)))
set_option maxRecDepth 20000 in
theorem y_c_like {X : Nat × (Nat → Int)} {D : List (Nat × Nat)} {I J : Nat → Nat → Int} {ρ : Nat → Nat → Option Nat} {n i : Nat} {P : am_R → Prop} (hX : ∀ j, -2147483648 ≤ X.2 j ∧ X.2 j < 2147483648) (hi : i + 5 ≤ X.1) (hL : X.1 ≤ 320) (h : y_iv n D I ρ) (hn : n ≤ 64) (hc : ∀ D' I' J' ρ', y_iv (n + 1) D' I' ρ' → am_E X 2000 0 1008 [(3, .inl (i : Int)), (2, .inr (.inr (.inl (some 107)))), (1, .inr (.inr (.inl (some 0)))), (0, .inr (.inr (.inr 0)))] [] (am_mm D' I' J' ρ') P) : am_E X 2000 0 424 [(3, .inl (i : Int)), (2, .inr (.inr (.inl (some 107)))), (1, .inr (.inr (.inl (some 0)))), (0, .inr (.inr (.inr 0)))] [] (am_mm D I J ρ) P := by
  refine am_e_ss 5 (q := (429, [(3, .inl (i : Int)), (2, .inr (.inr (.inl (some 107)))), (1, .inr (.inr (.inl (some 0)))), (0, .inr (.inr (.inr 0)))], [.inl ((i : Int) + 1), .inr (.inr (.inr 0)), .inr (.inr (.inl (some 0)))], (am_mm D I J ρ))) rfl ?_
  refine am_e_scr rfl (by omega) (by omega) (by omega) ?_
  show am_E _ _ _ 430 [(3, .inl (i : Int)), (2, .inr (.inr (.inl (some 107)))), (1, .inr (.inr (.inl (some 0)))), (0, .inr (.inr (.inr 0)))] [.inl ((X.2 (i + 1))), .inr (.inr (.inl (some 0)))] (am_mm D I J ρ) _
  refine am_e_ss 4 (q := (434, [(3, .inl (i : Int)), (2, .inr (.inr (.inl (some 107)))), (1, .inr (.inr (.inl (some 0)))), (0, .inr (.inr (.inr 0)))], [.inl ((i : Int) + 2), .inr (.inr (.inr 0)), .inl ((X.2 (i + 1))), .inr (.inr (.inl (some 0)))], (am_mm D I J ρ))) rfl ?_
  refine am_e_scr rfl (by omega) (by omega) (by omega) ?_
  show am_E _ _ _ 435 [(3, .inl (i : Int)), (2, .inr (.inr (.inl (some 107)))), (1, .inr (.inr (.inl (some 0)))), (0, .inr (.inr (.inr 0)))] [.inl ((X.2 (i + 2))), .inl ((X.2 (i + 1))), .inr (.inr (.inl (some 0)))] (am_mm D I J ρ) _
  refine am_e_virtual (Q := fun r => ∃ K1 J1 ρ1, r = (some (.inl ((sp_likeM (I 108) (X.2 (i + 1)) (X.2 (i + 2))))), (am_mm D K1 J1 ρ1)) ∧ y_x I ρ D K1 ρ1 (I 108) (I 109) (I 107 4) (I 107 32) (I 123)) rfl rfl (Nat.le_of_ble_eq_true rfl) rfl rfl (Nat.le_of_ble_eq_true rfl) (Nat.le_of_ble_eq_true rfl) (x_like _ h hn (hX _) (hX _)) ?_
  rintro r ⟨K1, J1, ρ1, rfl, hx⟩
  show am_E _ _ _ 438 [(3, .inl (i : Int)), (2, .inr (.inr (.inl (some 107)))), (1, .inr (.inr (.inl (some 0)))), (0, .inr (.inr (.inr 0)))] [.inl ((sp_likeM (I 108) (X.2 (i + 1)) (X.2 (i + 2))))] (am_mm D K1 J1 ρ1) _
  refine am_e_ss 5 (q := (443, [(3, .inl (i : Int)), (2, .inr (.inr (.inl (some 107)))), (1, .inr (.inr (.inl (some 0)))), (0, .inr (.inr (.inr 0)))], [.inl ((i : Int) + 1), .inr (.inr (.inr 0)), .inr (.inr (.inl (some 107))), .inl ((sp_likeM (I 108) (X.2 (i + 1)) (X.2 (i + 2))))], (am_mm D K1 J1 ρ1))) rfl ?_
  refine am_e_scr rfl (by omega) (by omega) (by omega) ?_
  show am_E _ _ _ 444 [(3, .inl (i : Int)), (2, .inr (.inr (.inl (some 107)))), (1, .inr (.inr (.inl (some 0)))), (0, .inr (.inr (.inr 0)))] [.inl ((X.2 (i + 1))), .inr (.inr (.inl (some 107))), .inl ((sp_likeM (I 108) (X.2 (i + 1)) (X.2 (i + 2))))] (am_mm D K1 J1 ρ1) _
  refine am_e_ss 4 (q := (448, [(3, .inl (i : Int)), (2, .inr (.inr (.inl (some 107)))), (1, .inr (.inr (.inl (some 0)))), (0, .inr (.inr (.inr 0)))], [.inl ((i : Int) + 2), .inr (.inr (.inr 0)), .inl ((X.2 (i + 1))), .inr (.inr (.inl (some 107))), .inl ((sp_likeM (I 108) (X.2 (i + 1)) (X.2 (i + 2))))], (am_mm D K1 J1 ρ1))) rfl ?_
  refine am_e_scr rfl (by omega) (by omega) (by omega) ?_
  show am_E _ _ _ 449 [(3, .inl (i : Int)), (2, .inr (.inr (.inl (some 107)))), (1, .inr (.inr (.inl (some 0)))), (0, .inr (.inr (.inr 0)))] [.inl ((X.2 (i + 2))), .inl ((X.2 (i + 1))), .inr (.inr (.inl (some 107))), .inl ((sp_likeM (I 108) (X.2 (i + 1)) (X.2 (i + 2))))] (am_mm D K1 J1 ρ1) _
  refine am_e_virtual (Q := fun r => ∃ K2 J2, r = (some (.inl ((sp_likeM (I 108) (X.2 (i + 1)) (X.2 (i + 2))))), (am_mm D K2 J2 ρ1)) ∧ y_m K1 K2 (I 108) (I 109) (I 107 4) (I 107 32) (I 123)) rfl rfl (Nat.le_of_ble_eq_true rfl) rfl rfl (Nat.le_of_ble_eq_true rfl) (Nat.le_of_ble_eq_true rfl) (m_like _ h hn hx.2.1 (hX _) (hX _)) ?_
  rintro r ⟨K2, J2, rfl, hm⟩
  show am_E _ _ _ 452 [(3, .inl (i : Int)), (2, .inr (.inr (.inl (some 107)))), (1, .inr (.inr (.inl (some 0)))), (0, .inr (.inr (.inr 0)))] [.inl ((sp_likeM (I 108) (X.2 (i + 1)) (X.2 (i + 2)))), .inl ((sp_likeM (I 108) (X.2 (i + 1)) (X.2 (i + 2))))] (am_mm D K2 J2 ρ1) _
  refine am_e_icmpEq rfl ?_
  show am_E _ _ _ 1008 [(3, .inl (i : Int)), (2, .inr (.inr (.inl (some 107)))), (1, .inr (.inr (.inl (some 0)))), (0, .inr (.inr (.inr 0)))] [] (am_mm D K2 J2 ρ1) _
  exact hc _ _ _ _ (y_ask h hx hm)
set_option maxRecDepth 20000 in
theorem y_c_order {X : Nat × (Nat → Int)} {D : List (Nat × Nat)} {I J : Nat → Nat → Int} {ρ : Nat → Nat → Option Nat} {n i : Nat} {P : am_R → Prop} (hX : ∀ j, -2147483648 ≤ X.2 j ∧ X.2 j < 2147483648) (hi : i + 5 ≤ X.1) (hL : X.1 ≤ 320) (h : y_iv n D I ρ) (hn : n ≤ 64) (hc : ∀ D' I' J' ρ', y_iv (n + 1) D' I' ρ' → am_E X 2000 0 1008 [(3, .inl (i : Int)), (2, .inr (.inr (.inl (some 107)))), (1, .inr (.inr (.inl (some 0)))), (0, .inr (.inr (.inr 0)))] [] (am_mm D' I' J' ρ') P) : am_E X 2000 0 457 [(3, .inl (i : Int)), (2, .inr (.inr (.inl (some 107)))), (1, .inr (.inr (.inl (some 0)))), (0, .inr (.inr (.inr 0)))] [] (am_mm D I J ρ) P := by
  refine am_e_ss 5 (q := (462, [(3, .inl (i : Int)), (2, .inr (.inr (.inl (some 107)))), (1, .inr (.inr (.inl (some 0)))), (0, .inr (.inr (.inr 0)))], [.inl ((i : Int) + 1), .inr (.inr (.inr 0)), .inr (.inr (.inl (some 0)))], (am_mm D I J ρ))) rfl ?_
  refine am_e_scr rfl (by omega) (by omega) (by omega) ?_
  show am_E _ _ _ 463 [(3, .inl (i : Int)), (2, .inr (.inr (.inl (some 107)))), (1, .inr (.inr (.inl (some 0)))), (0, .inr (.inr (.inr 0)))] [.inl ((X.2 (i + 1))), .inr (.inr (.inl (some 0)))] (am_mm D I J ρ) _
  refine am_e_ss 4 (q := (467, [(3, .inl (i : Int)), (2, .inr (.inr (.inl (some 107)))), (1, .inr (.inr (.inl (some 0)))), (0, .inr (.inr (.inr 0)))], [.inl ((i : Int) + 2), .inr (.inr (.inr 0)), .inl ((X.2 (i + 1))), .inr (.inr (.inl (some 0)))], (am_mm D I J ρ))) rfl ?_
  refine am_e_scr rfl (by omega) (by omega) (by omega) ?_
  show am_E _ _ _ 468 [(3, .inl (i : Int)), (2, .inr (.inr (.inl (some 107)))), (1, .inr (.inr (.inl (some 0)))), (0, .inr (.inr (.inr 0)))] [.inl ((X.2 (i + 2))), .inl ((X.2 (i + 1))), .inr (.inr (.inl (some 0)))] (am_mm D I J ρ) _
  refine am_e_ss 4 (q := (472, [(3, .inl (i : Int)), (2, .inr (.inr (.inl (some 107)))), (1, .inr (.inr (.inl (some 0)))), (0, .inr (.inr (.inr 0)))], [.inl ((i : Int) + 3), .inr (.inr (.inr 0)), .inl ((X.2 (i + 2))), .inl ((X.2 (i + 1))), .inr (.inr (.inl (some 0)))], (am_mm D I J ρ))) rfl ?_
  refine am_e_scr rfl (by omega) (by omega) (by omega) ?_
  show am_E _ _ _ 473 [(3, .inl (i : Int)), (2, .inr (.inr (.inl (some 107)))), (1, .inr (.inr (.inl (some 0)))), (0, .inr (.inr (.inr 0)))] [.inl ((X.2 (i + 3))), .inl ((X.2 (i + 2))), .inl ((X.2 (i + 1))), .inr (.inr (.inl (some 0)))] (am_mm D I J ρ) _
  refine am_e_virtual (Q := fun r => ∃ K1 J1 ρ1, r = (some (.inl ((sp_order (I 108) (X.2 (i + 1)) (X.2 (i + 2)) (X.2 (i + 3))))), (am_mm D K1 J1 ρ1)) ∧ y_x I ρ D K1 ρ1 (I 108) (I 109) (I 107 4) (I 107 32) (I 123)) rfl rfl (Nat.le_of_ble_eq_true rfl) rfl rfl (Nat.le_of_ble_eq_true rfl) (Nat.le_of_ble_eq_true rfl) (x_order _ h hn (hX _) (hX _) (hX _)) ?_
  rintro r ⟨K1, J1, ρ1, rfl, hx⟩
  show am_E _ _ _ 476 [(3, .inl (i : Int)), (2, .inr (.inr (.inl (some 107)))), (1, .inr (.inr (.inl (some 0)))), (0, .inr (.inr (.inr 0)))] [.inl ((sp_order (I 108) (X.2 (i + 1)) (X.2 (i + 2)) (X.2 (i + 3))))] (am_mm D K1 J1 ρ1) _
  refine am_e_ss 5 (q := (481, [(3, .inl (i : Int)), (2, .inr (.inr (.inl (some 107)))), (1, .inr (.inr (.inl (some 0)))), (0, .inr (.inr (.inr 0)))], [.inl ((i : Int) + 1), .inr (.inr (.inr 0)), .inr (.inr (.inl (some 107))), .inl ((sp_order (I 108) (X.2 (i + 1)) (X.2 (i + 2)) (X.2 (i + 3))))], (am_mm D K1 J1 ρ1))) rfl ?_
  refine am_e_scr rfl (by omega) (by omega) (by omega) ?_
  show am_E _ _ _ 482 [(3, .inl (i : Int)), (2, .inr (.inr (.inl (some 107)))), (1, .inr (.inr (.inl (some 0)))), (0, .inr (.inr (.inr 0)))] [.inl ((X.2 (i + 1))), .inr (.inr (.inl (some 107))), .inl ((sp_order (I 108) (X.2 (i + 1)) (X.2 (i + 2)) (X.2 (i + 3))))] (am_mm D K1 J1 ρ1) _
  refine am_e_ss 4 (q := (486, [(3, .inl (i : Int)), (2, .inr (.inr (.inl (some 107)))), (1, .inr (.inr (.inl (some 0)))), (0, .inr (.inr (.inr 0)))], [.inl ((i : Int) + 2), .inr (.inr (.inr 0)), .inl ((X.2 (i + 1))), .inr (.inr (.inl (some 107))), .inl ((sp_order (I 108) (X.2 (i + 1)) (X.2 (i + 2)) (X.2 (i + 3))))], (am_mm D K1 J1 ρ1))) rfl ?_
  refine am_e_scr rfl (by omega) (by omega) (by omega) ?_
  show am_E _ _ _ 487 [(3, .inl (i : Int)), (2, .inr (.inr (.inl (some 107)))), (1, .inr (.inr (.inl (some 0)))), (0, .inr (.inr (.inr 0)))] [.inl ((X.2 (i + 2))), .inl ((X.2 (i + 1))), .inr (.inr (.inl (some 107))), .inl ((sp_order (I 108) (X.2 (i + 1)) (X.2 (i + 2)) (X.2 (i + 3))))] (am_mm D K1 J1 ρ1) _
  refine am_e_ss 4 (q := (491, [(3, .inl (i : Int)), (2, .inr (.inr (.inl (some 107)))), (1, .inr (.inr (.inl (some 0)))), (0, .inr (.inr (.inr 0)))], [.inl ((i : Int) + 3), .inr (.inr (.inr 0)), .inl ((X.2 (i + 2))), .inl ((X.2 (i + 1))), .inr (.inr (.inl (some 107))), .inl ((sp_order (I 108) (X.2 (i + 1)) (X.2 (i + 2)) (X.2 (i + 3))))], (am_mm D K1 J1 ρ1))) rfl ?_
  refine am_e_scr rfl (by omega) (by omega) (by omega) ?_
  show am_E _ _ _ 492 [(3, .inl (i : Int)), (2, .inr (.inr (.inl (some 107)))), (1, .inr (.inr (.inl (some 0)))), (0, .inr (.inr (.inr 0)))] [.inl ((X.2 (i + 3))), .inl ((X.2 (i + 2))), .inl ((X.2 (i + 1))), .inr (.inr (.inl (some 107))), .inl ((sp_order (I 108) (X.2 (i + 1)) (X.2 (i + 2)) (X.2 (i + 3))))] (am_mm D K1 J1 ρ1) _
  refine am_e_virtual (Q := fun r => ∃ K2 J2, r = (some (.inl ((sp_order (I 108) (X.2 (i + 1)) (X.2 (i + 2)) (X.2 (i + 3))))), (am_mm D K2 J2 ρ1)) ∧ y_m K1 K2 (I 108) (I 109) (I 107 4) (I 107 32) (I 123)) rfl rfl (Nat.le_of_ble_eq_true rfl) rfl rfl (Nat.le_of_ble_eq_true rfl) (Nat.le_of_ble_eq_true rfl) (m_order _ h hn hx.2.1 (hX _) (hX _) (hX _)) ?_
  rintro r ⟨K2, J2, rfl, hm⟩
  show am_E _ _ _ 495 [(3, .inl (i : Int)), (2, .inr (.inr (.inl (some 107)))), (1, .inr (.inr (.inl (some 0)))), (0, .inr (.inr (.inr 0)))] [.inl ((sp_order (I 108) (X.2 (i + 1)) (X.2 (i + 2)) (X.2 (i + 3)))), .inl ((sp_order (I 108) (X.2 (i + 1)) (X.2 (i + 2)) (X.2 (i + 3))))] (am_mm D K2 J2 ρ1) _
  refine am_e_icmpEq rfl ?_
  show am_E _ _ _ 1008 [(3, .inl (i : Int)), (2, .inr (.inr (.inl (some 107)))), (1, .inr (.inr (.inl (some 0)))), (0, .inr (.inr (.inr 0)))] [] (am_mm D K2 J2 ρ1) _
  exact hc _ _ _ _ (y_ask h hx hm)
set_option maxRecDepth 20000 in
theorem y_c_chosen {X : Nat × (Nat → Int)} {D : List (Nat × Nat)} {I J : Nat → Nat → Int} {ρ : Nat → Nat → Option Nat} {n i : Nat} {P : am_R → Prop} (hX : ∀ j, -2147483648 ≤ X.2 j ∧ X.2 j < 2147483648) (hi : i + 5 ≤ X.1) (hL : X.1 ≤ 320) (h : y_iv n D I ρ) (hn : n ≤ 64) (hc : ∀ D' I' J' ρ', y_iv (n + 1) D' I' ρ' → am_E X 2000 0 1008 [(3, .inl (i : Int)), (2, .inr (.inr (.inl (some 107)))), (1, .inr (.inr (.inl (some 0)))), (0, .inr (.inr (.inr 0)))] [] (am_mm D' I' J' ρ') P) : am_E X 2000 0 500 [(3, .inl (i : Int)), (2, .inr (.inr (.inl (some 107)))), (1, .inr (.inr (.inl (some 0)))), (0, .inr (.inr (.inr 0)))] [] (am_mm D I J ρ) P := by
  refine am_e_ss 5 (q := (505, [(3, .inl (i : Int)), (2, .inr (.inr (.inl (some 107)))), (1, .inr (.inr (.inl (some 0)))), (0, .inr (.inr (.inr 0)))], [.inl ((i : Int) + 1), .inr (.inr (.inr 0)), .inr (.inr (.inl (some 0)))], (am_mm D I J ρ))) rfl ?_
  refine am_e_scr rfl (by omega) (by omega) (by omega) ?_
  show am_E _ _ _ 506 [(3, .inl (i : Int)), (2, .inr (.inr (.inl (some 107)))), (1, .inr (.inr (.inl (some 0)))), (0, .inr (.inr (.inr 0)))] [.inl ((X.2 (i + 1))), .inr (.inr (.inl (some 0)))] (am_mm D I J ρ) _
  refine am_e_ss 4 (q := (510, [(3, .inl (i : Int)), (2, .inr (.inr (.inl (some 107)))), (1, .inr (.inr (.inl (some 0)))), (0, .inr (.inr (.inr 0)))], [.inl ((i : Int) + 2), .inr (.inr (.inr 0)), .inl ((X.2 (i + 1))), .inr (.inr (.inl (some 0)))], (am_mm D I J ρ))) rfl ?_
  refine am_e_scr rfl (by omega) (by omega) (by omega) ?_
  show am_E _ _ _ 511 [(3, .inl (i : Int)), (2, .inr (.inr (.inl (some 107)))), (1, .inr (.inr (.inl (some 0)))), (0, .inr (.inr (.inr 0)))] [.inl ((X.2 (i + 2))), .inl ((X.2 (i + 1))), .inr (.inr (.inl (some 0)))] (am_mm D I J ρ) _
  refine am_e_virtual (Q := fun r => ∃ K1 J1 ρ1, r = (some (.inl ((sp_chosen (I 108) (X.2 (i + 1)) (X.2 (i + 2))))), (am_mm D K1 J1 ρ1)) ∧ y_x I ρ D K1 ρ1 (I 108) (I 109) (I 107 4) (I 107 32) (I 123)) rfl rfl (Nat.le_of_ble_eq_true rfl) rfl rfl (Nat.le_of_ble_eq_true rfl) (Nat.le_of_ble_eq_true rfl) (x_chosen _ h hn (hX _) (hX _)) ?_
  rintro r ⟨K1, J1, ρ1, rfl, hx⟩
  show am_E _ _ _ 514 [(3, .inl (i : Int)), (2, .inr (.inr (.inl (some 107)))), (1, .inr (.inr (.inl (some 0)))), (0, .inr (.inr (.inr 0)))] [.inl ((sp_chosen (I 108) (X.2 (i + 1)) (X.2 (i + 2))))] (am_mm D K1 J1 ρ1) _
  refine am_e_ss 5 (q := (519, [(3, .inl (i : Int)), (2, .inr (.inr (.inl (some 107)))), (1, .inr (.inr (.inl (some 0)))), (0, .inr (.inr (.inr 0)))], [.inl ((i : Int) + 1), .inr (.inr (.inr 0)), .inr (.inr (.inl (some 107))), .inl ((sp_chosen (I 108) (X.2 (i + 1)) (X.2 (i + 2))))], (am_mm D K1 J1 ρ1))) rfl ?_
  refine am_e_scr rfl (by omega) (by omega) (by omega) ?_
  show am_E _ _ _ 520 [(3, .inl (i : Int)), (2, .inr (.inr (.inl (some 107)))), (1, .inr (.inr (.inl (some 0)))), (0, .inr (.inr (.inr 0)))] [.inl ((X.2 (i + 1))), .inr (.inr (.inl (some 107))), .inl ((sp_chosen (I 108) (X.2 (i + 1)) (X.2 (i + 2))))] (am_mm D K1 J1 ρ1) _
  refine am_e_ss 4 (q := (524, [(3, .inl (i : Int)), (2, .inr (.inr (.inl (some 107)))), (1, .inr (.inr (.inl (some 0)))), (0, .inr (.inr (.inr 0)))], [.inl ((i : Int) + 2), .inr (.inr (.inr 0)), .inl ((X.2 (i + 1))), .inr (.inr (.inl (some 107))), .inl ((sp_chosen (I 108) (X.2 (i + 1)) (X.2 (i + 2))))], (am_mm D K1 J1 ρ1))) rfl ?_
  refine am_e_scr rfl (by omega) (by omega) (by omega) ?_
  show am_E _ _ _ 525 [(3, .inl (i : Int)), (2, .inr (.inr (.inl (some 107)))), (1, .inr (.inr (.inl (some 0)))), (0, .inr (.inr (.inr 0)))] [.inl ((X.2 (i + 2))), .inl ((X.2 (i + 1))), .inr (.inr (.inl (some 107))), .inl ((sp_chosen (I 108) (X.2 (i + 1)) (X.2 (i + 2))))] (am_mm D K1 J1 ρ1) _
  refine am_e_virtual (Q := fun r => ∃ K2 J2, r = (some (.inl ((sp_chosen (I 108) (X.2 (i + 1)) (X.2 (i + 2))))), (am_mm D K2 J2 ρ1)) ∧ y_m K1 K2 (I 108) (I 109) (I 107 4) (I 107 32) (I 123)) rfl rfl (Nat.le_of_ble_eq_true rfl) rfl rfl (Nat.le_of_ble_eq_true rfl) (Nat.le_of_ble_eq_true rfl) (m_chosen _ h hn hx.2.1 (hX _) (hX _)) ?_
  rintro r ⟨K2, J2, rfl, hm⟩
  show am_E _ _ _ 528 [(3, .inl (i : Int)), (2, .inr (.inr (.inl (some 107)))), (1, .inr (.inr (.inl (some 0)))), (0, .inr (.inr (.inr 0)))] [.inl ((sp_chosen (I 108) (X.2 (i + 1)) (X.2 (i + 2)))), .inl ((sp_chosen (I 108) (X.2 (i + 1)) (X.2 (i + 2))))] (am_mm D K2 J2 ρ1) _
  refine am_e_icmpEq rfl ?_
  show am_E _ _ _ 1008 [(3, .inl (i : Int)), (2, .inr (.inr (.inl (some 107)))), (1, .inr (.inr (.inl (some 0)))), (0, .inr (.inr (.inr 0)))] [] (am_mm D K2 J2 ρ1) _
  exact hc _ _ _ _ (y_ask h hx hm)
set_option maxRecDepth 20000 in
theorem y_c_alone {X : Nat × (Nat → Int)} {D : List (Nat × Nat)} {I J : Nat → Nat → Int} {ρ : Nat → Nat → Option Nat} {n i : Nat} {P : am_R → Prop} (hX : ∀ j, -2147483648 ≤ X.2 j ∧ X.2 j < 2147483648) (hi : i + 5 ≤ X.1) (hL : X.1 ≤ 320) (h : y_iv n D I ρ) (hn : n ≤ 64) (hc : ∀ D' I' J' ρ', y_iv (n + 1) D' I' ρ' → am_E X 2000 0 1008 [(3, .inl (i : Int)), (2, .inr (.inr (.inl (some 107)))), (1, .inr (.inr (.inl (some 0)))), (0, .inr (.inr (.inr 0)))] [] (am_mm D' I' J' ρ') P) : am_E X 2000 0 533 [(3, .inl (i : Int)), (2, .inr (.inr (.inl (some 107)))), (1, .inr (.inr (.inl (some 0)))), (0, .inr (.inr (.inr 0)))] [] (am_mm D I J ρ) P := by
  refine am_e_ss 5 (q := (538, [(3, .inl (i : Int)), (2, .inr (.inr (.inl (some 107)))), (1, .inr (.inr (.inl (some 0)))), (0, .inr (.inr (.inr 0)))], [.inl ((i : Int) + 1), .inr (.inr (.inr 0)), .inr (.inr (.inl (some 0)))], (am_mm D I J ρ))) rfl ?_
  refine am_e_scr rfl (by omega) (by omega) (by omega) ?_
  show am_E _ _ _ 539 [(3, .inl (i : Int)), (2, .inr (.inr (.inl (some 107)))), (1, .inr (.inr (.inl (some 0)))), (0, .inr (.inr (.inr 0)))] [.inl ((X.2 (i + 1))), .inr (.inr (.inl (some 0)))] (am_mm D I J ρ) _
  refine am_e_virtual (Q := fun r => ∃ K1 J1 ρ1, r = (some (.inl ((sp_alone (I 108) (X.2 (i + 1))))), (am_mm D K1 J1 ρ1)) ∧ y_x I ρ D K1 ρ1 (I 108) (I 109) (I 107 4) (I 107 32) (I 123)) rfl rfl (Nat.le_of_ble_eq_true rfl) rfl rfl (Nat.le_of_ble_eq_true rfl) (Nat.le_of_ble_eq_true rfl) (x_alone _ h hn (hX _)) ?_
  rintro r ⟨K1, J1, ρ1, rfl, hx⟩
  show am_E _ _ _ 542 [(3, .inl (i : Int)), (2, .inr (.inr (.inl (some 107)))), (1, .inr (.inr (.inl (some 0)))), (0, .inr (.inr (.inr 0)))] [.inl ((sp_alone (I 108) (X.2 (i + 1))))] (am_mm D K1 J1 ρ1) _
  refine am_e_ss 5 (q := (547, [(3, .inl (i : Int)), (2, .inr (.inr (.inl (some 107)))), (1, .inr (.inr (.inl (some 0)))), (0, .inr (.inr (.inr 0)))], [.inl ((i : Int) + 1), .inr (.inr (.inr 0)), .inr (.inr (.inl (some 107))), .inl ((sp_alone (I 108) (X.2 (i + 1))))], (am_mm D K1 J1 ρ1))) rfl ?_
  refine am_e_scr rfl (by omega) (by omega) (by omega) ?_
  show am_E _ _ _ 548 [(3, .inl (i : Int)), (2, .inr (.inr (.inl (some 107)))), (1, .inr (.inr (.inl (some 0)))), (0, .inr (.inr (.inr 0)))] [.inl ((X.2 (i + 1))), .inr (.inr (.inl (some 107))), .inl ((sp_alone (I 108) (X.2 (i + 1))))] (am_mm D K1 J1 ρ1) _
  refine am_e_virtual (Q := fun r => ∃ K2 J2, r = (some (.inl ((sp_alone (I 108) (X.2 (i + 1))))), (am_mm D K2 J2 ρ1)) ∧ y_m K1 K2 (I 108) (I 109) (I 107 4) (I 107 32) (I 123)) rfl rfl (Nat.le_of_ble_eq_true rfl) rfl rfl (Nat.le_of_ble_eq_true rfl) (Nat.le_of_ble_eq_true rfl) (m_alone _ h hn hx.2.1 (hX _)) ?_
  rintro r ⟨K2, J2, rfl, hm⟩
  show am_E _ _ _ 551 [(3, .inl (i : Int)), (2, .inr (.inr (.inl (some 107)))), (1, .inr (.inr (.inl (some 0)))), (0, .inr (.inr (.inr 0)))] [.inl ((sp_alone (I 108) (X.2 (i + 1)))), .inl ((sp_alone (I 108) (X.2 (i + 1))))] (am_mm D K2 J2 ρ1) _
  refine am_e_icmpEq rfl ?_
  show am_E _ _ _ 1008 [(3, .inl (i : Int)), (2, .inr (.inr (.inl (some 107)))), (1, .inr (.inr (.inl (some 0)))), (0, .inr (.inr (.inr 0)))] [] (am_mm D K2 J2 ρ1) _
  exact hc _ _ _ _ (y_ask h hx hm)
set_option maxRecDepth 20000 in
theorem y_c_gain {X : Nat × (Nat → Int)} {D : List (Nat × Nat)} {I J : Nat → Nat → Int} {ρ : Nat → Nat → Option Nat} {n i : Nat} {P : am_R → Prop} (hX : ∀ j, -2147483648 ≤ X.2 j ∧ X.2 j < 2147483648) (hi : i + 5 ≤ X.1) (hL : X.1 ≤ 320) (h : y_iv n D I ρ) (hn : n ≤ 64) (hc : ∀ D' I' J' ρ', y_iv (n + 1) D' I' ρ' → am_E X 2000 0 1008 [(3, .inl (i : Int)), (2, .inr (.inr (.inl (some 107)))), (1, .inr (.inr (.inl (some 0)))), (0, .inr (.inr (.inr 0)))] [] (am_mm D' I' J' ρ') P) : am_E X 2000 0 556 [(3, .inl (i : Int)), (2, .inr (.inr (.inl (some 107)))), (1, .inr (.inr (.inl (some 0)))), (0, .inr (.inr (.inr 0)))] [] (am_mm D I J ρ) P := by
  refine am_e_ss 5 (q := (561, [(3, .inl (i : Int)), (2, .inr (.inr (.inl (some 107)))), (1, .inr (.inr (.inl (some 0)))), (0, .inr (.inr (.inr 0)))], [.inl ((i : Int) + 1), .inr (.inr (.inr 0)), .inr (.inr (.inl (some 0)))], (am_mm D I J ρ))) rfl ?_
  refine am_e_scr rfl (by omega) (by omega) (by omega) ?_
  show am_E _ _ _ 562 [(3, .inl (i : Int)), (2, .inr (.inr (.inl (some 107)))), (1, .inr (.inr (.inl (some 0)))), (0, .inr (.inr (.inr 0)))] [.inl ((X.2 (i + 1))), .inr (.inr (.inl (some 0)))] (am_mm D I J ρ) _
  refine am_e_ss 4 (q := (566, [(3, .inl (i : Int)), (2, .inr (.inr (.inl (some 107)))), (1, .inr (.inr (.inl (some 0)))), (0, .inr (.inr (.inr 0)))], [.inl ((i : Int) + 2), .inr (.inr (.inr 0)), .inl ((X.2 (i + 1))), .inr (.inr (.inl (some 0)))], (am_mm D I J ρ))) rfl ?_
  refine am_e_scr rfl (by omega) (by omega) (by omega) ?_
  show am_E _ _ _ 567 [(3, .inl (i : Int)), (2, .inr (.inr (.inl (some 107)))), (1, .inr (.inr (.inl (some 0)))), (0, .inr (.inr (.inr 0)))] [.inl ((X.2 (i + 2))), .inl ((X.2 (i + 1))), .inr (.inr (.inl (some 0)))] (am_mm D I J ρ) _
  refine am_e_virtual (Q := fun r => ∃ K1 J1 ρ1, r = (some (.inl ((sp_gain (I 108) (X.2 (i + 1)) (X.2 (i + 2))))), (am_mm D K1 J1 ρ1)) ∧ y_x I ρ D K1 ρ1 (I 108) (I 109) (I 107 4) (I 107 32) (I 123)) rfl rfl (Nat.le_of_ble_eq_true rfl) rfl rfl (Nat.le_of_ble_eq_true rfl) (Nat.le_of_ble_eq_true rfl) (x_gain _ h hn (hX _) (hX _)) ?_
  rintro r ⟨K1, J1, ρ1, rfl, hx⟩
  show am_E _ _ _ 570 [(3, .inl (i : Int)), (2, .inr (.inr (.inl (some 107)))), (1, .inr (.inr (.inl (some 0)))), (0, .inr (.inr (.inr 0)))] [.inl ((sp_gain (I 108) (X.2 (i + 1)) (X.2 (i + 2))))] (am_mm D K1 J1 ρ1) _
  refine am_e_ss 5 (q := (575, [(3, .inl (i : Int)), (2, .inr (.inr (.inl (some 107)))), (1, .inr (.inr (.inl (some 0)))), (0, .inr (.inr (.inr 0)))], [.inl ((i : Int) + 1), .inr (.inr (.inr 0)), .inr (.inr (.inl (some 107))), .inl ((sp_gain (I 108) (X.2 (i + 1)) (X.2 (i + 2))))], (am_mm D K1 J1 ρ1))) rfl ?_
  refine am_e_scr rfl (by omega) (by omega) (by omega) ?_
  show am_E _ _ _ 576 [(3, .inl (i : Int)), (2, .inr (.inr (.inl (some 107)))), (1, .inr (.inr (.inl (some 0)))), (0, .inr (.inr (.inr 0)))] [.inl ((X.2 (i + 1))), .inr (.inr (.inl (some 107))), .inl ((sp_gain (I 108) (X.2 (i + 1)) (X.2 (i + 2))))] (am_mm D K1 J1 ρ1) _
  refine am_e_ss 4 (q := (580, [(3, .inl (i : Int)), (2, .inr (.inr (.inl (some 107)))), (1, .inr (.inr (.inl (some 0)))), (0, .inr (.inr (.inr 0)))], [.inl ((i : Int) + 2), .inr (.inr (.inr 0)), .inl ((X.2 (i + 1))), .inr (.inr (.inl (some 107))), .inl ((sp_gain (I 108) (X.2 (i + 1)) (X.2 (i + 2))))], (am_mm D K1 J1 ρ1))) rfl ?_
  refine am_e_scr rfl (by omega) (by omega) (by omega) ?_
  show am_E _ _ _ 581 [(3, .inl (i : Int)), (2, .inr (.inr (.inl (some 107)))), (1, .inr (.inr (.inl (some 0)))), (0, .inr (.inr (.inr 0)))] [.inl ((X.2 (i + 2))), .inl ((X.2 (i + 1))), .inr (.inr (.inl (some 107))), .inl ((sp_gain (I 108) (X.2 (i + 1)) (X.2 (i + 2))))] (am_mm D K1 J1 ρ1) _
  refine am_e_virtual (Q := fun r => ∃ K2 J2, r = (some (.inl ((sp_gain (I 108) (X.2 (i + 1)) (X.2 (i + 2))))), (am_mm D K2 J2 ρ1)) ∧ y_m K1 K2 (I 108) (I 109) (I 107 4) (I 107 32) (I 123)) rfl rfl (Nat.le_of_ble_eq_true rfl) rfl rfl (Nat.le_of_ble_eq_true rfl) (Nat.le_of_ble_eq_true rfl) (m_gain _ h hn hx.2.1 (hX _) (hX _)) ?_
  rintro r ⟨K2, J2, rfl, hm⟩
  show am_E _ _ _ 584 [(3, .inl (i : Int)), (2, .inr (.inr (.inl (some 107)))), (1, .inr (.inr (.inl (some 0)))), (0, .inr (.inr (.inr 0)))] [.inl ((sp_gain (I 108) (X.2 (i + 1)) (X.2 (i + 2)))), .inl ((sp_gain (I 108) (X.2 (i + 1)) (X.2 (i + 2))))] (am_mm D K2 J2 ρ1) _
  refine am_e_icmpEq rfl ?_
  show am_E _ _ _ 1008 [(3, .inl (i : Int)), (2, .inr (.inr (.inl (some 107)))), (1, .inr (.inr (.inl (some 0)))), (0, .inr (.inr (.inr 0)))] [] (am_mm D K2 J2 ρ1) _
  exact hc _ _ _ _ (y_ask h hx hm)
set_option maxRecDepth 20000 in
theorem y_c_reads {X : Nat × (Nat → Int)} {D : List (Nat × Nat)} {I J : Nat → Nat → Int} {ρ : Nat → Nat → Option Nat} {n i : Nat} {P : am_R → Prop} (hX : ∀ j, -2147483648 ≤ X.2 j ∧ X.2 j < 2147483648) (hi : i + 5 ≤ X.1) (hL : X.1 ≤ 320) (h : y_iv n D I ρ) (hn : n ≤ 64) (hc : ∀ D' I' J' ρ', y_iv (n + 1) D' I' ρ' → am_E X 2000 0 1008 [(3, .inl (i : Int)), (2, .inr (.inr (.inl (some 107)))), (1, .inr (.inr (.inl (some 0)))), (0, .inr (.inr (.inr 0)))] [] (am_mm D' I' J' ρ') P) : am_E X 2000 0 589 [(3, .inl (i : Int)), (2, .inr (.inr (.inl (some 107)))), (1, .inr (.inr (.inl (some 0)))), (0, .inr (.inr (.inr 0)))] [] (am_mm D I J ρ) P := by
  refine am_e_ss 5 (q := (594, [(3, .inl (i : Int)), (2, .inr (.inr (.inl (some 107)))), (1, .inr (.inr (.inl (some 0)))), (0, .inr (.inr (.inr 0)))], [.inl ((i : Int) + 1), .inr (.inr (.inr 0)), .inr (.inr (.inl (some 0)))], (am_mm D I J ρ))) rfl ?_
  refine am_e_scr rfl (by omega) (by omega) (by omega) ?_
  show am_E _ _ _ 595 [(3, .inl (i : Int)), (2, .inr (.inr (.inl (some 107)))), (1, .inr (.inr (.inl (some 0)))), (0, .inr (.inr (.inr 0)))] [.inl ((X.2 (i + 1))), .inr (.inr (.inl (some 0)))] (am_mm D I J ρ) _
  refine am_e_ss 4 (q := (599, [(3, .inl (i : Int)), (2, .inr (.inr (.inl (some 107)))), (1, .inr (.inr (.inl (some 0)))), (0, .inr (.inr (.inr 0)))], [.inl ((i : Int) + 2), .inr (.inr (.inr 0)), .inl ((X.2 (i + 1))), .inr (.inr (.inl (some 0)))], (am_mm D I J ρ))) rfl ?_
  refine am_e_scr rfl (by omega) (by omega) (by omega) ?_
  show am_E _ _ _ 600 [(3, .inl (i : Int)), (2, .inr (.inr (.inl (some 107)))), (1, .inr (.inr (.inl (some 0)))), (0, .inr (.inr (.inr 0)))] [.inl ((X.2 (i + 2))), .inl ((X.2 (i + 1))), .inr (.inr (.inl (some 0)))] (am_mm D I J ρ) _
  refine am_e_virtual (Q := fun r => ∃ K1 J1 ρ1, r = (some (.inl ((sp_readsM (I 108) (X.2 (i + 1)) (X.2 (i + 2))))), (am_mm D K1 J1 ρ1)) ∧ y_x I ρ D K1 ρ1 (I 108) (I 109) (I 107 4) (I 107 32) (I 123)) rfl rfl (Nat.le_of_ble_eq_true rfl) rfl rfl (Nat.le_of_ble_eq_true rfl) (Nat.le_of_ble_eq_true rfl) (x_reads _ h hn (hX _) (hX _)) ?_
  rintro r ⟨K1, J1, ρ1, rfl, hx⟩
  show am_E _ _ _ 603 [(3, .inl (i : Int)), (2, .inr (.inr (.inl (some 107)))), (1, .inr (.inr (.inl (some 0)))), (0, .inr (.inr (.inr 0)))] [.inl ((sp_readsM (I 108) (X.2 (i + 1)) (X.2 (i + 2))))] (am_mm D K1 J1 ρ1) _
  refine am_e_ss 5 (q := (608, [(3, .inl (i : Int)), (2, .inr (.inr (.inl (some 107)))), (1, .inr (.inr (.inl (some 0)))), (0, .inr (.inr (.inr 0)))], [.inl ((i : Int) + 1), .inr (.inr (.inr 0)), .inr (.inr (.inl (some 107))), .inl ((sp_readsM (I 108) (X.2 (i + 1)) (X.2 (i + 2))))], (am_mm D K1 J1 ρ1))) rfl ?_
  refine am_e_scr rfl (by omega) (by omega) (by omega) ?_
  show am_E _ _ _ 609 [(3, .inl (i : Int)), (2, .inr (.inr (.inl (some 107)))), (1, .inr (.inr (.inl (some 0)))), (0, .inr (.inr (.inr 0)))] [.inl ((X.2 (i + 1))), .inr (.inr (.inl (some 107))), .inl ((sp_readsM (I 108) (X.2 (i + 1)) (X.2 (i + 2))))] (am_mm D K1 J1 ρ1) _
  refine am_e_ss 4 (q := (613, [(3, .inl (i : Int)), (2, .inr (.inr (.inl (some 107)))), (1, .inr (.inr (.inl (some 0)))), (0, .inr (.inr (.inr 0)))], [.inl ((i : Int) + 2), .inr (.inr (.inr 0)), .inl ((X.2 (i + 1))), .inr (.inr (.inl (some 107))), .inl ((sp_readsM (I 108) (X.2 (i + 1)) (X.2 (i + 2))))], (am_mm D K1 J1 ρ1))) rfl ?_
  refine am_e_scr rfl (by omega) (by omega) (by omega) ?_
  show am_E _ _ _ 614 [(3, .inl (i : Int)), (2, .inr (.inr (.inl (some 107)))), (1, .inr (.inr (.inl (some 0)))), (0, .inr (.inr (.inr 0)))] [.inl ((X.2 (i + 2))), .inl ((X.2 (i + 1))), .inr (.inr (.inl (some 107))), .inl ((sp_readsM (I 108) (X.2 (i + 1)) (X.2 (i + 2))))] (am_mm D K1 J1 ρ1) _
  refine am_e_virtual (Q := fun r => ∃ K2 J2, r = (some (.inl ((sp_readsM (I 108) (X.2 (i + 1)) (X.2 (i + 2))))), (am_mm D K2 J2 ρ1)) ∧ y_m K1 K2 (I 108) (I 109) (I 107 4) (I 107 32) (I 123)) rfl rfl (Nat.le_of_ble_eq_true rfl) rfl rfl (Nat.le_of_ble_eq_true rfl) (Nat.le_of_ble_eq_true rfl) (m_reads _ h hn hx.2.1 (hX _) (hX _)) ?_
  rintro r ⟨K2, J2, rfl, hm⟩
  show am_E _ _ _ 617 [(3, .inl (i : Int)), (2, .inr (.inr (.inl (some 107)))), (1, .inr (.inr (.inl (some 0)))), (0, .inr (.inr (.inr 0)))] [.inl ((sp_readsM (I 108) (X.2 (i + 1)) (X.2 (i + 2)))), .inl ((sp_readsM (I 108) (X.2 (i + 1)) (X.2 (i + 2))))] (am_mm D K2 J2 ρ1) _
  refine am_e_icmpEq rfl ?_
  show am_E _ _ _ 1008 [(3, .inl (i : Int)), (2, .inr (.inr (.inl (some 107)))), (1, .inr (.inr (.inl (some 0)))), (0, .inr (.inr (.inr 0)))] [] (am_mm D K2 J2 ρ1) _
  exact hc _ _ _ _ (y_ask h hx hm)
set_option maxRecDepth 20000 in
theorem y_c_comes {X : Nat × (Nat → Int)} {D : List (Nat × Nat)} {I J : Nat → Nat → Int} {ρ : Nat → Nat → Option Nat} {n i : Nat} {P : am_R → Prop} (hX : ∀ j, -2147483648 ≤ X.2 j ∧ X.2 j < 2147483648) (hi : i + 5 ≤ X.1) (hL : X.1 ≤ 320) (h : y_iv n D I ρ) (hn : n ≤ 64) (hc : ∀ D' I' J' ρ', y_iv (n + 1) D' I' ρ' → am_E X 2000 0 1008 [(3, .inl (i : Int)), (2, .inr (.inr (.inl (some 107)))), (1, .inr (.inr (.inl (some 0)))), (0, .inr (.inr (.inr 0)))] [] (am_mm D' I' J' ρ') P) : am_E X 2000 0 622 [(3, .inl (i : Int)), (2, .inr (.inr (.inl (some 107)))), (1, .inr (.inr (.inl (some 0)))), (0, .inr (.inr (.inr 0)))] [] (am_mm D I J ρ) P := by
  refine am_e_ss 5 (q := (627, [(3, .inl (i : Int)), (2, .inr (.inr (.inl (some 107)))), (1, .inr (.inr (.inl (some 0)))), (0, .inr (.inr (.inr 0)))], [.inl ((i : Int) + 1), .inr (.inr (.inr 0)), .inr (.inr (.inl (some 0)))], (am_mm D I J ρ))) rfl ?_
  refine am_e_scr rfl (by omega) (by omega) (by omega) ?_
  show am_E _ _ _ 628 [(3, .inl (i : Int)), (2, .inr (.inr (.inl (some 107)))), (1, .inr (.inr (.inl (some 0)))), (0, .inr (.inr (.inr 0)))] [.inl ((X.2 (i + 1))), .inr (.inr (.inl (some 0)))] (am_mm D I J ρ) _
  refine am_e_ss 4 (q := (632, [(3, .inl (i : Int)), (2, .inr (.inr (.inl (some 107)))), (1, .inr (.inr (.inl (some 0)))), (0, .inr (.inr (.inr 0)))], [.inl ((i : Int) + 2), .inr (.inr (.inr 0)), .inl ((X.2 (i + 1))), .inr (.inr (.inl (some 0)))], (am_mm D I J ρ))) rfl ?_
  refine am_e_scr rfl (by omega) (by omega) (by omega) ?_
  show am_E _ _ _ 633 [(3, .inl (i : Int)), (2, .inr (.inr (.inl (some 107)))), (1, .inr (.inr (.inl (some 0)))), (0, .inr (.inr (.inr 0)))] [.inl ((X.2 (i + 2))), .inl ((X.2 (i + 1))), .inr (.inr (.inl (some 0)))] (am_mm D I J ρ) _
  refine am_e_virtual (Q := fun r => ∃ K1 J1 ρ1, r = (some (.inl ((sp_comesM (I 108) (X.2 (i + 1)) (X.2 (i + 2))))), (am_mm D K1 J1 ρ1)) ∧ y_x I ρ D K1 ρ1 (I 108) (I 109) (I 107 4) (I 107 32) (I 123)) rfl rfl (Nat.le_of_ble_eq_true rfl) rfl rfl (Nat.le_of_ble_eq_true rfl) (Nat.le_of_ble_eq_true rfl) (x_comes _ h hn (hX _) (hX _)) ?_
  rintro r ⟨K1, J1, ρ1, rfl, hx⟩
  show am_E _ _ _ 636 [(3, .inl (i : Int)), (2, .inr (.inr (.inl (some 107)))), (1, .inr (.inr (.inl (some 0)))), (0, .inr (.inr (.inr 0)))] [.inl ((sp_comesM (I 108) (X.2 (i + 1)) (X.2 (i + 2))))] (am_mm D K1 J1 ρ1) _
  refine am_e_ss 5 (q := (641, [(3, .inl (i : Int)), (2, .inr (.inr (.inl (some 107)))), (1, .inr (.inr (.inl (some 0)))), (0, .inr (.inr (.inr 0)))], [.inl ((i : Int) + 1), .inr (.inr (.inr 0)), .inr (.inr (.inl (some 107))), .inl ((sp_comesM (I 108) (X.2 (i + 1)) (X.2 (i + 2))))], (am_mm D K1 J1 ρ1))) rfl ?_
  refine am_e_scr rfl (by omega) (by omega) (by omega) ?_
  show am_E _ _ _ 642 [(3, .inl (i : Int)), (2, .inr (.inr (.inl (some 107)))), (1, .inr (.inr (.inl (some 0)))), (0, .inr (.inr (.inr 0)))] [.inl ((X.2 (i + 1))), .inr (.inr (.inl (some 107))), .inl ((sp_comesM (I 108) (X.2 (i + 1)) (X.2 (i + 2))))] (am_mm D K1 J1 ρ1) _
  refine am_e_ss 4 (q := (646, [(3, .inl (i : Int)), (2, .inr (.inr (.inl (some 107)))), (1, .inr (.inr (.inl (some 0)))), (0, .inr (.inr (.inr 0)))], [.inl ((i : Int) + 2), .inr (.inr (.inr 0)), .inl ((X.2 (i + 1))), .inr (.inr (.inl (some 107))), .inl ((sp_comesM (I 108) (X.2 (i + 1)) (X.2 (i + 2))))], (am_mm D K1 J1 ρ1))) rfl ?_
  refine am_e_scr rfl (by omega) (by omega) (by omega) ?_
  show am_E _ _ _ 647 [(3, .inl (i : Int)), (2, .inr (.inr (.inl (some 107)))), (1, .inr (.inr (.inl (some 0)))), (0, .inr (.inr (.inr 0)))] [.inl ((X.2 (i + 2))), .inl ((X.2 (i + 1))), .inr (.inr (.inl (some 107))), .inl ((sp_comesM (I 108) (X.2 (i + 1)) (X.2 (i + 2))))] (am_mm D K1 J1 ρ1) _
  refine am_e_virtual (Q := fun r => ∃ K2 J2, r = (some (.inl ((sp_comesM (I 108) (X.2 (i + 1)) (X.2 (i + 2))))), (am_mm D K2 J2 ρ1)) ∧ y_m K1 K2 (I 108) (I 109) (I 107 4) (I 107 32) (I 123)) rfl rfl (Nat.le_of_ble_eq_true rfl) rfl rfl (Nat.le_of_ble_eq_true rfl) (Nat.le_of_ble_eq_true rfl) (m_comes _ h hn hx.2.1 (hX _) (hX _)) ?_
  rintro r ⟨K2, J2, rfl, hm⟩
  show am_E _ _ _ 650 [(3, .inl (i : Int)), (2, .inr (.inr (.inl (some 107)))), (1, .inr (.inr (.inl (some 0)))), (0, .inr (.inr (.inr 0)))] [.inl ((sp_comesM (I 108) (X.2 (i + 1)) (X.2 (i + 2)))), .inl ((sp_comesM (I 108) (X.2 (i + 1)) (X.2 (i + 2))))] (am_mm D K2 J2 ρ1) _
  refine am_e_icmpEq rfl ?_
  show am_E _ _ _ 1008 [(3, .inl (i : Int)), (2, .inr (.inr (.inl (some 107)))), (1, .inr (.inr (.inl (some 0)))), (0, .inr (.inr (.inr 0)))] [] (am_mm D K2 J2 ρ1) _
  exact hc _ _ _ _ (y_ask h hx hm)
set_option maxRecDepth 20000 in
theorem y_c_enough {X : Nat × (Nat → Int)} {D : List (Nat × Nat)} {I J : Nat → Nat → Int} {ρ : Nat → Nat → Option Nat} {n i : Nat} {P : am_R → Prop} (hX : ∀ j, -2147483648 ≤ X.2 j ∧ X.2 j < 2147483648) (hi : i + 5 ≤ X.1) (hL : X.1 ≤ 320) (h : y_iv n D I ρ) (hn : n ≤ 64) (hc : ∀ D' I' J' ρ', y_iv (n + 1) D' I' ρ' → am_E X 2000 0 1008 [(3, .inl (i : Int)), (2, .inr (.inr (.inl (some 107)))), (1, .inr (.inr (.inl (some 0)))), (0, .inr (.inr (.inr 0)))] [] (am_mm D' I' J' ρ') P) : am_E X 2000 0 655 [(3, .inl (i : Int)), (2, .inr (.inr (.inl (some 107)))), (1, .inr (.inr (.inl (some 0)))), (0, .inr (.inr (.inr 0)))] [] (am_mm D I J ρ) P := by
  refine am_e_ss 5 (q := (660, [(3, .inl (i : Int)), (2, .inr (.inr (.inl (some 107)))), (1, .inr (.inr (.inl (some 0)))), (0, .inr (.inr (.inr 0)))], [.inl ((i : Int) + 1), .inr (.inr (.inr 0)), .inr (.inr (.inl (some 0)))], (am_mm D I J ρ))) rfl ?_
  refine am_e_scr rfl (by omega) (by omega) (by omega) ?_
  show am_E _ _ _ 661 [(3, .inl (i : Int)), (2, .inr (.inr (.inl (some 107)))), (1, .inr (.inr (.inl (some 0)))), (0, .inr (.inr (.inr 0)))] [.inl ((X.2 (i + 1))), .inr (.inr (.inl (some 0)))] (am_mm D I J ρ) _
  refine am_e_ss 4 (q := (665, [(3, .inl (i : Int)), (2, .inr (.inr (.inl (some 107)))), (1, .inr (.inr (.inl (some 0)))), (0, .inr (.inr (.inr 0)))], [.inl ((i : Int) + 2), .inr (.inr (.inr 0)), .inl ((X.2 (i + 1))), .inr (.inr (.inl (some 0)))], (am_mm D I J ρ))) rfl ?_
  refine am_e_scr rfl (by omega) (by omega) (by omega) ?_
  show am_E _ _ _ 666 [(3, .inl (i : Int)), (2, .inr (.inr (.inl (some 107)))), (1, .inr (.inr (.inl (some 0)))), (0, .inr (.inr (.inr 0)))] [.inl ((X.2 (i + 2))), .inl ((X.2 (i + 1))), .inr (.inr (.inl (some 0)))] (am_mm D I J ρ) _
  refine am_e_ss 4 (q := (670, [(3, .inl (i : Int)), (2, .inr (.inr (.inl (some 107)))), (1, .inr (.inr (.inl (some 0)))), (0, .inr (.inr (.inr 0)))], [.inl ((i : Int) + 3), .inr (.inr (.inr 0)), .inl ((X.2 (i + 2))), .inl ((X.2 (i + 1))), .inr (.inr (.inl (some 0)))], (am_mm D I J ρ))) rfl ?_
  refine am_e_scr rfl (by omega) (by omega) (by omega) ?_
  show am_E _ _ _ 671 [(3, .inl (i : Int)), (2, .inr (.inr (.inl (some 107)))), (1, .inr (.inr (.inl (some 0)))), (0, .inr (.inr (.inr 0)))] [.inl ((X.2 (i + 3))), .inl ((X.2 (i + 2))), .inl ((X.2 (i + 1))), .inr (.inr (.inl (some 0)))] (am_mm D I J ρ) _
  refine am_e_virtual (Q := fun r => ∃ K1 J1 ρ1, r = (some (.inr (.inl (sp_enough (I 108) (X.2 (i + 1)) (X.2 (i + 2)) (X.2 (i + 3))))), (am_mm D K1 J1 ρ1)) ∧ y_x I ρ D K1 ρ1 (I 108) (I 109) (I 107 4) (I 107 32) (I 123)) rfl rfl (Nat.le_of_ble_eq_true rfl) rfl rfl (Nat.le_of_ble_eq_true rfl) (Nat.le_of_ble_eq_true rfl) (x_enough _ h hn (hX _) (hX _) (hX _)) ?_
  rintro r ⟨K1, J1, ρ1, rfl, hx⟩
  show am_E _ _ _ 674 [(3, .inl (i : Int)), (2, .inr (.inr (.inl (some 107)))), (1, .inr (.inr (.inl (some 0)))), (0, .inr (.inr (.inr 0)))] [.inr (.inl (sp_enough (I 108) (X.2 (i + 1)) (X.2 (i + 2)) (X.2 (i + 3))))] (am_mm D K1 J1 ρ1) _
  refine am_e_ss 5 (q := (679, [(3, .inl (i : Int)), (2, .inr (.inr (.inl (some 107)))), (1, .inr (.inr (.inl (some 0)))), (0, .inr (.inr (.inr 0)))], [.inl ((i : Int) + 1), .inr (.inr (.inr 0)), .inr (.inr (.inl (some 107))), .inr (.inl (sp_enough (I 108) (X.2 (i + 1)) (X.2 (i + 2)) (X.2 (i + 3))))], (am_mm D K1 J1 ρ1))) rfl ?_
  refine am_e_scr rfl (by omega) (by omega) (by omega) ?_
  show am_E _ _ _ 680 [(3, .inl (i : Int)), (2, .inr (.inr (.inl (some 107)))), (1, .inr (.inr (.inl (some 0)))), (0, .inr (.inr (.inr 0)))] [.inl ((X.2 (i + 1))), .inr (.inr (.inl (some 107))), .inr (.inl (sp_enough (I 108) (X.2 (i + 1)) (X.2 (i + 2)) (X.2 (i + 3))))] (am_mm D K1 J1 ρ1) _
  refine am_e_ss 4 (q := (684, [(3, .inl (i : Int)), (2, .inr (.inr (.inl (some 107)))), (1, .inr (.inr (.inl (some 0)))), (0, .inr (.inr (.inr 0)))], [.inl ((i : Int) + 2), .inr (.inr (.inr 0)), .inl ((X.2 (i + 1))), .inr (.inr (.inl (some 107))), .inr (.inl (sp_enough (I 108) (X.2 (i + 1)) (X.2 (i + 2)) (X.2 (i + 3))))], (am_mm D K1 J1 ρ1))) rfl ?_
  refine am_e_scr rfl (by omega) (by omega) (by omega) ?_
  show am_E _ _ _ 685 [(3, .inl (i : Int)), (2, .inr (.inr (.inl (some 107)))), (1, .inr (.inr (.inl (some 0)))), (0, .inr (.inr (.inr 0)))] [.inl ((X.2 (i + 2))), .inl ((X.2 (i + 1))), .inr (.inr (.inl (some 107))), .inr (.inl (sp_enough (I 108) (X.2 (i + 1)) (X.2 (i + 2)) (X.2 (i + 3))))] (am_mm D K1 J1 ρ1) _
  refine am_e_ss 4 (q := (689, [(3, .inl (i : Int)), (2, .inr (.inr (.inl (some 107)))), (1, .inr (.inr (.inl (some 0)))), (0, .inr (.inr (.inr 0)))], [.inl ((i : Int) + 3), .inr (.inr (.inr 0)), .inl ((X.2 (i + 2))), .inl ((X.2 (i + 1))), .inr (.inr (.inl (some 107))), .inr (.inl (sp_enough (I 108) (X.2 (i + 1)) (X.2 (i + 2)) (X.2 (i + 3))))], (am_mm D K1 J1 ρ1))) rfl ?_
  refine am_e_scr rfl (by omega) (by omega) (by omega) ?_
  show am_E _ _ _ 690 [(3, .inl (i : Int)), (2, .inr (.inr (.inl (some 107)))), (1, .inr (.inr (.inl (some 0)))), (0, .inr (.inr (.inr 0)))] [.inl ((X.2 (i + 3))), .inl ((X.2 (i + 2))), .inl ((X.2 (i + 1))), .inr (.inr (.inl (some 107))), .inr (.inl (sp_enough (I 108) (X.2 (i + 1)) (X.2 (i + 2)) (X.2 (i + 3))))] (am_mm D K1 J1 ρ1) _
  refine am_e_virtual (Q := fun r => ∃ K2 J2, r = (some (.inr (.inl (sp_enough (I 108) (X.2 (i + 1)) (X.2 (i + 2)) (X.2 (i + 3))))), (am_mm D K2 J2 ρ1)) ∧ y_m K1 K2 (I 108) (I 109) (I 107 4) (I 107 32) (I 123)) rfl rfl (Nat.le_of_ble_eq_true rfl) rfl rfl (Nat.le_of_ble_eq_true rfl) (Nat.le_of_ble_eq_true rfl) (m_enough _ h hn hx.2.1 (hX _) (hX _) (hX _)) ?_
  rintro r ⟨K2, J2, rfl, hm⟩
  show am_E _ _ _ 693 [(3, .inl (i : Int)), (2, .inr (.inr (.inl (some 107)))), (1, .inr (.inr (.inl (some 0)))), (0, .inr (.inr (.inr 0)))] [.inr (.inl (sp_enough (I 108) (X.2 (i + 1)) (X.2 (i + 2)) (X.2 (i + 3)))), .inr (.inl (sp_enough (I 108) (X.2 (i + 1)) (X.2 (i + 2)) (X.2 (i + 3))))] (am_mm D K2 J2 ρ1) _
  refine am_e_lcmpEq rfl ?_
  show am_E _ _ _ 694 [(3, .inl (i : Int)), (2, .inr (.inr (.inl (some 107)))), (1, .inr (.inr (.inl (some 0)))), (0, .inr (.inr (.inr 0)))] [.inl 0] (am_mm D K2 J2 ρ1) _
  refine am_e_s (q := (1008, [(3, .inl (i : Int)), (2, .inr (.inr (.inl (some 107)))), (1, .inr (.inr (.inl (some 0)))), (0, .inr (.inr (.inr 0)))], [], (am_mm D K2 J2 ρ1))) rfl rfl ?_
  exact hc _ _ _ _ (y_ask h hx hm)
set_option maxRecDepth 20000 in
theorem y_c_month {X : Nat × (Nat → Int)} {D : List (Nat × Nat)} {I J : Nat → Nat → Int} {ρ : Nat → Nat → Option Nat} {n i : Nat} {P : am_R → Prop} (hX : ∀ j, -2147483648 ≤ X.2 j ∧ X.2 j < 2147483648) (hi : i + 5 ≤ X.1) (hL : X.1 ≤ 320) (h : y_iv n D I ρ) (hn : n ≤ 64) (hc : ∀ D' I' J' ρ', y_iv (n + 1) D' I' ρ' → am_E X 2000 0 1008 [(3, .inl (i : Int)), (2, .inr (.inr (.inl (some 107)))), (1, .inr (.inr (.inl (some 0)))), (0, .inr (.inr (.inr 0)))] [] (am_mm D' I' J' ρ') P) : am_E X 2000 0 699 [(3, .inl (i : Int)), (2, .inr (.inr (.inl (some 107)))), (1, .inr (.inr (.inl (some 0)))), (0, .inr (.inr (.inr 0)))] [] (am_mm D I J ρ) P := by
  refine am_e_ss 5 (q := (704, [(3, .inl (i : Int)), (2, .inr (.inr (.inl (some 107)))), (1, .inr (.inr (.inl (some 0)))), (0, .inr (.inr (.inr 0)))], [.inl ((i : Int) + 1), .inr (.inr (.inr 0)), .inr (.inr (.inl (some 0)))], (am_mm D I J ρ))) rfl ?_
  refine am_e_scr rfl (by omega) (by omega) (by omega) ?_
  show am_E _ _ _ 705 [(3, .inl (i : Int)), (2, .inr (.inr (.inl (some 107)))), (1, .inr (.inr (.inl (some 0)))), (0, .inr (.inr (.inr 0)))] [.inl ((X.2 (i + 1))), .inr (.inr (.inl (some 0)))] (am_mm D I J ρ) _
  refine am_e_virtual (Q := fun r => ∃ K1 J1 ρ1, r = (some (.inl ((sp_month (I 108) (X.2 (i + 1))).1)), (am_mm D K1 J1 ρ1)) ∧ y_x I ρ D K1 ρ1 (sp_month (I 108) (X.2 (i + 1))).2 (I 109) (I 107 4) (I 107 32) (I 123)) rfl rfl (Nat.le_of_ble_eq_true rfl) rfl rfl (Nat.le_of_ble_eq_true rfl) (Nat.le_of_ble_eq_true rfl) (x_month _ h hn (hX _)) ?_
  rintro r ⟨K1, J1, ρ1, rfl, hx⟩
  show am_E _ _ _ 708 [(3, .inl (i : Int)), (2, .inr (.inr (.inl (some 107)))), (1, .inr (.inr (.inl (some 0)))), (0, .inr (.inr (.inr 0)))] [.inl ((sp_month (I 108) (X.2 (i + 1))).1)] (am_mm D K1 J1 ρ1) _
  refine am_e_ss 5 (q := (713, [(3, .inl (i : Int)), (2, .inr (.inr (.inl (some 107)))), (1, .inr (.inr (.inl (some 0)))), (0, .inr (.inr (.inr 0)))], [.inl ((i : Int) + 1), .inr (.inr (.inr 0)), .inr (.inr (.inl (some 107))), .inl ((sp_month (I 108) (X.2 (i + 1))).1)], (am_mm D K1 J1 ρ1))) rfl ?_
  refine am_e_scr rfl (by omega) (by omega) (by omega) ?_
  show am_E _ _ _ 714 [(3, .inl (i : Int)), (2, .inr (.inr (.inl (some 107)))), (1, .inr (.inr (.inl (some 0)))), (0, .inr (.inr (.inr 0)))] [.inl ((X.2 (i + 1))), .inr (.inr (.inl (some 107))), .inl ((sp_month (I 108) (X.2 (i + 1))).1)] (am_mm D K1 J1 ρ1) _
  refine am_e_virtual (Q := fun r => ∃ K2 J2, r = (some (.inl ((sp_month (I 108) (X.2 (i + 1))).1)), (am_mm D K2 J2 ρ1)) ∧ y_m K1 K2 (sp_month (I 108) (X.2 (i + 1))).2 (I 109) (I 107 4) (I 107 32) (I 123)) rfl rfl (Nat.le_of_ble_eq_true rfl) rfl rfl (Nat.le_of_ble_eq_true rfl) (Nat.le_of_ble_eq_true rfl) (m_month _ h hn hx.2.1 (hX _)) ?_
  rintro r ⟨K2, J2, rfl, hm⟩
  show am_E _ _ _ 717 [(3, .inl (i : Int)), (2, .inr (.inr (.inl (some 107)))), (1, .inr (.inr (.inl (some 0)))), (0, .inr (.inr (.inr 0)))] [.inl ((sp_month (I 108) (X.2 (i + 1))).1), .inl ((sp_month (I 108) (X.2 (i + 1))).1)] (am_mm D K2 J2 ρ1) _
  refine am_e_icmpEq rfl ?_
  show am_E _ _ _ 1008 [(3, .inl (i : Int)), (2, .inr (.inr (.inl (some 107)))), (1, .inr (.inr (.inl (some 0)))), (0, .inr (.inr (.inr 0)))] [] (am_mm D K2 J2 ρ1) _
  exact hc _ _ _ _ (y_chg h hx hm (y_month h.1))
set_option maxRecDepth 20000 in
theorem y_c_by {X : Nat × (Nat → Int)} {D : List (Nat × Nat)} {I J : Nat → Nat → Int} {ρ : Nat → Nat → Option Nat} {n i : Nat} {P : am_R → Prop} (hX : ∀ j, -2147483648 ≤ X.2 j ∧ X.2 j < 2147483648) (hi : i + 5 ≤ X.1) (hL : X.1 ≤ 320) (h : y_iv n D I ρ) (hn : n ≤ 64) (hc : ∀ D' I' J' ρ', y_iv (n + 1) D' I' ρ' → am_E X 2000 0 1008 [(3, .inl (i : Int)), (2, .inr (.inr (.inl (some 107)))), (1, .inr (.inr (.inl (some 0)))), (0, .inr (.inr (.inr 0)))] [] (am_mm D' I' J' ρ') P) : am_E X 2000 0 722 [(3, .inl (i : Int)), (2, .inr (.inr (.inl (some 107)))), (1, .inr (.inr (.inl (some 0)))), (0, .inr (.inr (.inr 0)))] [] (am_mm D I J ρ) P := by
  refine am_e_ss 5 (q := (727, [(3, .inl (i : Int)), (2, .inr (.inr (.inl (some 107)))), (1, .inr (.inr (.inl (some 0)))), (0, .inr (.inr (.inr 0)))], [.inl ((i : Int) + 1), .inr (.inr (.inr 0)), .inr (.inr (.inl (some 0)))], (am_mm D I J ρ))) rfl ?_
  refine am_e_scr rfl (by omega) (by omega) (by omega) ?_
  show am_E _ _ _ 728 [(3, .inl (i : Int)), (2, .inr (.inr (.inl (some 107)))), (1, .inr (.inr (.inl (some 0)))), (0, .inr (.inr (.inr 0)))] [.inl ((X.2 (i + 1))), .inr (.inr (.inl (some 0)))] (am_mm D I J ρ) _
  refine am_e_virtual (Q := fun r => ∃ K1 J1 ρ1, r = (some (.inl ((sp_by (I 108) (X.2 (i + 1))).1)), (am_mm D K1 J1 ρ1)) ∧ y_x I ρ D K1 ρ1 (sp_by (I 108) (X.2 (i + 1))).2 (I 109) (I 107 4) (I 107 32) (I 123)) rfl rfl (Nat.le_of_ble_eq_true rfl) rfl rfl (Nat.le_of_ble_eq_true rfl) (Nat.le_of_ble_eq_true rfl) (x_by _ h hn (hX _)) ?_
  rintro r ⟨K1, J1, ρ1, rfl, hx⟩
  show am_E _ _ _ 731 [(3, .inl (i : Int)), (2, .inr (.inr (.inl (some 107)))), (1, .inr (.inr (.inl (some 0)))), (0, .inr (.inr (.inr 0)))] [.inl ((sp_by (I 108) (X.2 (i + 1))).1)] (am_mm D K1 J1 ρ1) _
  refine am_e_ss 5 (q := (736, [(3, .inl (i : Int)), (2, .inr (.inr (.inl (some 107)))), (1, .inr (.inr (.inl (some 0)))), (0, .inr (.inr (.inr 0)))], [.inl ((i : Int) + 1), .inr (.inr (.inr 0)), .inr (.inr (.inl (some 107))), .inl ((sp_by (I 108) (X.2 (i + 1))).1)], (am_mm D K1 J1 ρ1))) rfl ?_
  refine am_e_scr rfl (by omega) (by omega) (by omega) ?_
  show am_E _ _ _ 737 [(3, .inl (i : Int)), (2, .inr (.inr (.inl (some 107)))), (1, .inr (.inr (.inl (some 0)))), (0, .inr (.inr (.inr 0)))] [.inl ((X.2 (i + 1))), .inr (.inr (.inl (some 107))), .inl ((sp_by (I 108) (X.2 (i + 1))).1)] (am_mm D K1 J1 ρ1) _
  refine am_e_virtual (Q := fun r => ∃ K2 J2, r = (some (.inl ((sp_by (I 108) (X.2 (i + 1))).1)), (am_mm D K2 J2 ρ1)) ∧ y_m K1 K2 (sp_by (I 108) (X.2 (i + 1))).2 (I 109) (I 107 4) (I 107 32) (I 123)) rfl rfl (Nat.le_of_ble_eq_true rfl) rfl rfl (Nat.le_of_ble_eq_true rfl) (Nat.le_of_ble_eq_true rfl) (m_by _ h hn hx.2.1 (hX _)) ?_
  rintro r ⟨K2, J2, rfl, hm⟩
  show am_E _ _ _ 740 [(3, .inl (i : Int)), (2, .inr (.inr (.inl (some 107)))), (1, .inr (.inr (.inl (some 0)))), (0, .inr (.inr (.inr 0)))] [.inl ((sp_by (I 108) (X.2 (i + 1))).1), .inl ((sp_by (I 108) (X.2 (i + 1))).1)] (am_mm D K2 J2 ρ1) _
  refine am_e_icmpEq rfl ?_
  show am_E _ _ _ 1008 [(3, .inl (i : Int)), (2, .inr (.inr (.inl (some 107)))), (1, .inr (.inr (.inl (some 0)))), (0, .inr (.inr (.inr 0)))] [] (am_mm D K2 J2 ρ1) _
  exact hc _ _ _ _ (y_chg h hx hm (y_by h.1))
set_option maxRecDepth 20000 in
theorem y_c_run {X : Nat × (Nat → Int)} {D : List (Nat × Nat)} {I J : Nat → Nat → Int} {ρ : Nat → Nat → Option Nat} {n i : Nat} {P : am_R → Prop} (hX : ∀ j, -2147483648 ≤ X.2 j ∧ X.2 j < 2147483648) (hi : i + 5 ≤ X.1) (hL : X.1 ≤ 320) (h : y_iv n D I ρ) (hn : n ≤ 64) (hc : ∀ D' I' J' ρ', y_iv (n + 1) D' I' ρ' → am_E X 2000 0 1008 [(3, .inl (i : Int)), (2, .inr (.inr (.inl (some 107)))), (1, .inr (.inr (.inl (some 0)))), (0, .inr (.inr (.inr 0)))] [] (am_mm D' I' J' ρ') P) : am_E X 2000 0 745 [(3, .inl (i : Int)), (2, .inr (.inr (.inl (some 107)))), (1, .inr (.inr (.inl (some 0)))), (0, .inr (.inr (.inr 0)))] [] (am_mm D I J ρ) P := by
  refine am_e_ss 5 (q := (750, [(3, .inl (i : Int)), (2, .inr (.inr (.inl (some 107)))), (1, .inr (.inr (.inl (some 0)))), (0, .inr (.inr (.inr 0)))], [.inl ((i : Int) + 1), .inr (.inr (.inr 0)), .inr (.inr (.inl (some 0)))], (am_mm D I J ρ))) rfl ?_
  refine am_e_scr rfl (by omega) (by omega) (by omega) ?_
  show am_E _ _ _ 751 [(3, .inl (i : Int)), (2, .inr (.inr (.inl (some 107)))), (1, .inr (.inr (.inl (some 0)))), (0, .inr (.inr (.inr 0)))] [.inl ((X.2 (i + 1))), .inr (.inr (.inl (some 0)))] (am_mm D I J ρ) _
  refine am_e_ss 4 (q := (755, [(3, .inl (i : Int)), (2, .inr (.inr (.inl (some 107)))), (1, .inr (.inr (.inl (some 0)))), (0, .inr (.inr (.inr 0)))], [.inl ((i : Int) + 2), .inr (.inr (.inr 0)), .inl ((X.2 (i + 1))), .inr (.inr (.inl (some 0)))], (am_mm D I J ρ))) rfl ?_
  refine am_e_scr rfl (by omega) (by omega) (by omega) ?_
  show am_E _ _ _ 756 [(3, .inl (i : Int)), (2, .inr (.inr (.inl (some 107)))), (1, .inr (.inr (.inl (some 0)))), (0, .inr (.inr (.inr 0)))] [.inl ((X.2 (i + 2))), .inl ((X.2 (i + 1))), .inr (.inr (.inl (some 0)))] (am_mm D I J ρ) _
  refine am_e_ss 4 (q := (760, [(3, .inl (i : Int)), (2, .inr (.inr (.inl (some 107)))), (1, .inr (.inr (.inl (some 0)))), (0, .inr (.inr (.inr 0)))], [.inl ((i : Int) + 3), .inr (.inr (.inr 0)), .inl ((X.2 (i + 2))), .inl ((X.2 (i + 1))), .inr (.inr (.inl (some 0)))], (am_mm D I J ρ))) rfl ?_
  refine am_e_scr rfl (by omega) (by omega) (by omega) ?_
  show am_E _ _ _ 761 [(3, .inl (i : Int)), (2, .inr (.inr (.inl (some 107)))), (1, .inr (.inr (.inl (some 0)))), (0, .inr (.inr (.inr 0)))] [.inl ((X.2 (i + 3))), .inl ((X.2 (i + 2))), .inl ((X.2 (i + 1))), .inr (.inr (.inl (some 0)))] (am_mm D I J ρ) _
  refine am_e_virtual (Q := fun r => ∃ K1 J1 ρ1, r = (some (.inl ((sp_run (I 108) (X.2 (i + 1)) (X.2 (i + 2)) (X.2 (i + 3))))), (am_mm D K1 J1 ρ1)) ∧ y_x I ρ D K1 ρ1 (I 108) (I 109) (I 107 4) (I 107 32) (I 123)) rfl rfl (Nat.le_of_ble_eq_true rfl) rfl rfl (Nat.le_of_ble_eq_true rfl) (Nat.le_of_ble_eq_true rfl) (x_run _ h hn (hX _) (hX _) (hX _)) ?_
  rintro r ⟨K1, J1, ρ1, rfl, hx⟩
  show am_E _ _ _ 764 [(3, .inl (i : Int)), (2, .inr (.inr (.inl (some 107)))), (1, .inr (.inr (.inl (some 0)))), (0, .inr (.inr (.inr 0)))] [.inl ((sp_run (I 108) (X.2 (i + 1)) (X.2 (i + 2)) (X.2 (i + 3))))] (am_mm D K1 J1 ρ1) _
  refine am_e_ss 5 (q := (769, [(3, .inl (i : Int)), (2, .inr (.inr (.inl (some 107)))), (1, .inr (.inr (.inl (some 0)))), (0, .inr (.inr (.inr 0)))], [.inl ((i : Int) + 1), .inr (.inr (.inr 0)), .inr (.inr (.inl (some 107))), .inl ((sp_run (I 108) (X.2 (i + 1)) (X.2 (i + 2)) (X.2 (i + 3))))], (am_mm D K1 J1 ρ1))) rfl ?_
  refine am_e_scr rfl (by omega) (by omega) (by omega) ?_
  show am_E _ _ _ 770 [(3, .inl (i : Int)), (2, .inr (.inr (.inl (some 107)))), (1, .inr (.inr (.inl (some 0)))), (0, .inr (.inr (.inr 0)))] [.inl ((X.2 (i + 1))), .inr (.inr (.inl (some 107))), .inl ((sp_run (I 108) (X.2 (i + 1)) (X.2 (i + 2)) (X.2 (i + 3))))] (am_mm D K1 J1 ρ1) _
  refine am_e_ss 4 (q := (774, [(3, .inl (i : Int)), (2, .inr (.inr (.inl (some 107)))), (1, .inr (.inr (.inl (some 0)))), (0, .inr (.inr (.inr 0)))], [.inl ((i : Int) + 2), .inr (.inr (.inr 0)), .inl ((X.2 (i + 1))), .inr (.inr (.inl (some 107))), .inl ((sp_run (I 108) (X.2 (i + 1)) (X.2 (i + 2)) (X.2 (i + 3))))], (am_mm D K1 J1 ρ1))) rfl ?_
  refine am_e_scr rfl (by omega) (by omega) (by omega) ?_
  show am_E _ _ _ 775 [(3, .inl (i : Int)), (2, .inr (.inr (.inl (some 107)))), (1, .inr (.inr (.inl (some 0)))), (0, .inr (.inr (.inr 0)))] [.inl ((X.2 (i + 2))), .inl ((X.2 (i + 1))), .inr (.inr (.inl (some 107))), .inl ((sp_run (I 108) (X.2 (i + 1)) (X.2 (i + 2)) (X.2 (i + 3))))] (am_mm D K1 J1 ρ1) _
  refine am_e_ss 4 (q := (779, [(3, .inl (i : Int)), (2, .inr (.inr (.inl (some 107)))), (1, .inr (.inr (.inl (some 0)))), (0, .inr (.inr (.inr 0)))], [.inl ((i : Int) + 3), .inr (.inr (.inr 0)), .inl ((X.2 (i + 2))), .inl ((X.2 (i + 1))), .inr (.inr (.inl (some 107))), .inl ((sp_run (I 108) (X.2 (i + 1)) (X.2 (i + 2)) (X.2 (i + 3))))], (am_mm D K1 J1 ρ1))) rfl ?_
  refine am_e_scr rfl (by omega) (by omega) (by omega) ?_
  show am_E _ _ _ 780 [(3, .inl (i : Int)), (2, .inr (.inr (.inl (some 107)))), (1, .inr (.inr (.inl (some 0)))), (0, .inr (.inr (.inr 0)))] [.inl ((X.2 (i + 3))), .inl ((X.2 (i + 2))), .inl ((X.2 (i + 1))), .inr (.inr (.inl (some 107))), .inl ((sp_run (I 108) (X.2 (i + 1)) (X.2 (i + 2)) (X.2 (i + 3))))] (am_mm D K1 J1 ρ1) _
  refine am_e_virtual (Q := fun r => ∃ K2 J2, r = (some (.inl ((sp_run (I 108) (X.2 (i + 1)) (X.2 (i + 2)) (X.2 (i + 3))))), (am_mm D K2 J2 ρ1)) ∧ y_m K1 K2 (I 108) (I 109) (I 107 4) (I 107 32) (I 123)) rfl rfl (Nat.le_of_ble_eq_true rfl) rfl rfl (Nat.le_of_ble_eq_true rfl) (Nat.le_of_ble_eq_true rfl) (m_run _ h hn hx.2.1 (hX _) (hX _) (hX _)) ?_
  rintro r ⟨K2, J2, rfl, hm⟩
  show am_E _ _ _ 783 [(3, .inl (i : Int)), (2, .inr (.inr (.inl (some 107)))), (1, .inr (.inr (.inl (some 0)))), (0, .inr (.inr (.inr 0)))] [.inl ((sp_run (I 108) (X.2 (i + 1)) (X.2 (i + 2)) (X.2 (i + 3)))), .inl ((sp_run (I 108) (X.2 (i + 1)) (X.2 (i + 2)) (X.2 (i + 3))))] (am_mm D K2 J2 ρ1) _
  refine am_e_icmpEq rfl ?_
  show am_E _ _ _ 1008 [(3, .inl (i : Int)), (2, .inr (.inr (.inl (some 107)))), (1, .inr (.inr (.inl (some 0)))), (0, .inr (.inr (.inr 0)))] [] (am_mm D K2 J2 ρ1) _
  exact hc _ _ _ _ (y_ask h hx hm)
set_option maxRecDepth 20000 in
theorem y_c_best {X : Nat × (Nat → Int)} {D : List (Nat × Nat)} {I J : Nat → Nat → Int} {ρ : Nat → Nat → Option Nat} {n i : Nat} {P : am_R → Prop} (hX : ∀ j, -2147483648 ≤ X.2 j ∧ X.2 j < 2147483648) (hi : i + 5 ≤ X.1) (hL : X.1 ≤ 320) (h : y_iv n D I ρ) (hn : n ≤ 64) (hc : ∀ D' I' J' ρ', y_iv (n + 1) D' I' ρ' → am_E X 2000 0 1008 [(3, .inl (i : Int)), (2, .inr (.inr (.inl (some 107)))), (1, .inr (.inr (.inl (some 0)))), (0, .inr (.inr (.inr 0)))] [] (am_mm D' I' J' ρ') P) : am_E X 2000 0 788 [(3, .inl (i : Int)), (2, .inr (.inr (.inl (some 107)))), (1, .inr (.inr (.inl (some 0)))), (0, .inr (.inr (.inr 0)))] [] (am_mm D I J ρ) P := by
  refine am_e_ss 1 (q := (789, [(3, .inl (i : Int)), (2, .inr (.inr (.inl (some 107)))), (1, .inr (.inr (.inl (some 0)))), (0, .inr (.inr (.inr 0)))], [.inr (.inr (.inl (some 0)))], (am_mm D I J ρ))) rfl ?_
  refine am_e_virtual (Q := fun r => ∃ K1 J1 ρ1, r = (some (.inl ((sp_best (I 108)))), (am_mm D K1 J1 ρ1)) ∧ y_x I ρ D K1 ρ1 (I 108) (I 109) (I 107 4) (I 107 32) (I 123)) rfl rfl (Nat.le_of_ble_eq_true rfl) rfl rfl (Nat.le_of_ble_eq_true rfl) (Nat.le_of_ble_eq_true rfl) (x_best _ h hn ) ?_
  rintro r ⟨K1, J1, ρ1, rfl, hx⟩
  show am_E _ _ _ 792 [(3, .inl (i : Int)), (2, .inr (.inr (.inl (some 107)))), (1, .inr (.inr (.inl (some 0)))), (0, .inr (.inr (.inr 0)))] [.inl ((sp_best (I 108)))] (am_mm D K1 J1 ρ1) _
  refine am_e_ss 1 (q := (793, [(3, .inl (i : Int)), (2, .inr (.inr (.inl (some 107)))), (1, .inr (.inr (.inl (some 0)))), (0, .inr (.inr (.inr 0)))], [.inr (.inr (.inl (some 107))), .inl ((sp_best (I 108)))], (am_mm D K1 J1 ρ1))) rfl ?_
  refine am_e_virtual (Q := fun r => ∃ K2 J2, r = (some (.inl ((sp_best (I 108)))), (am_mm D K2 J2 ρ1)) ∧ y_m K1 K2 (I 108) (I 109) (I 107 4) (I 107 32) (I 123)) rfl rfl (Nat.le_of_ble_eq_true rfl) rfl rfl (Nat.le_of_ble_eq_true rfl) (Nat.le_of_ble_eq_true rfl) (m_best _ h hn hx.2.1 ) ?_
  rintro r ⟨K2, J2, rfl, hm⟩
  show am_E _ _ _ 796 [(3, .inl (i : Int)), (2, .inr (.inr (.inl (some 107)))), (1, .inr (.inr (.inl (some 0)))), (0, .inr (.inr (.inr 0)))] [.inl ((sp_best (I 108))), .inl ((sp_best (I 108)))] (am_mm D K2 J2 ρ1) _
  refine am_e_icmpEq rfl ?_
  show am_E _ _ _ 1008 [(3, .inl (i : Int)), (2, .inr (.inr (.inl (some 107)))), (1, .inr (.inr (.inl (some 0)))), (0, .inr (.inr (.inr 0)))] [] (am_mm D K2 J2 ρ1) _
  exact hc _ _ _ _ (y_ask h hx hm)
set_option maxRecDepth 20000 in
theorem y_c_row {X : Nat × (Nat → Int)} {D : List (Nat × Nat)} {I J : Nat → Nat → Int} {ρ : Nat → Nat → Option Nat} {n i : Nat} {P : am_R → Prop} (hX : ∀ j, -2147483648 ≤ X.2 j ∧ X.2 j < 2147483648) (hi : i + 5 ≤ X.1) (hL : X.1 ≤ 320) (h : y_iv n D I ρ) (hn : n ≤ 64) (hc : ∀ D' I' J' ρ', y_iv (n + 1) D' I' ρ' → am_E X 2000 0 1008 [(3, .inl (i : Int)), (2, .inr (.inr (.inl (some 107)))), (1, .inr (.inr (.inl (some 0)))), (0, .inr (.inr (.inr 0)))] [] (am_mm D' I' J' ρ') P) : am_E X 2000 0 801 [(3, .inl (i : Int)), (2, .inr (.inr (.inl (some 107)))), (1, .inr (.inr (.inl (some 0)))), (0, .inr (.inr (.inr 0)))] [] (am_mm D I J ρ) P := by
  refine am_e_ss 5 (q := (806, [(3, .inl (i : Int)), (2, .inr (.inr (.inl (some 107)))), (1, .inr (.inr (.inl (some 0)))), (0, .inr (.inr (.inr 0)))], [.inl ((i : Int) + 1), .inr (.inr (.inr 0)), .inr (.inr (.inl (some 0)))], (am_mm D I J ρ))) rfl ?_
  refine am_e_scr rfl (by omega) (by omega) (by omega) ?_
  show am_E _ _ _ 807 [(3, .inl (i : Int)), (2, .inr (.inr (.inl (some 107)))), (1, .inr (.inr (.inl (some 0)))), (0, .inr (.inr (.inr 0)))] [.inl ((X.2 (i + 1))), .inr (.inr (.inl (some 0)))] (am_mm D I J ρ) _
  refine am_e_virtual (Q := fun r => ∃ K1 J1 ρ1, r = (some (.inl ((sp_row5 (I 108) (X.2 (i + 1))))), (am_mm D K1 J1 ρ1)) ∧ y_x I ρ D K1 ρ1 (I 108) (I 109) (I 107 4) (I 107 32) (I 123)) rfl rfl (Nat.le_of_ble_eq_true rfl) rfl rfl (Nat.le_of_ble_eq_true rfl) (Nat.le_of_ble_eq_true rfl) (x_row _ h hn (hX _)) ?_
  rintro r ⟨K1, J1, ρ1, rfl, hx⟩
  show am_E _ _ _ 810 [(3, .inl (i : Int)), (2, .inr (.inr (.inl (some 107)))), (1, .inr (.inr (.inl (some 0)))), (0, .inr (.inr (.inr 0)))] [.inl ((sp_row5 (I 108) (X.2 (i + 1))))] (am_mm D K1 J1 ρ1) _
  refine am_e_ss 5 (q := (815, [(3, .inl (i : Int)), (2, .inr (.inr (.inl (some 107)))), (1, .inr (.inr (.inl (some 0)))), (0, .inr (.inr (.inr 0)))], [.inl ((i : Int) + 1), .inr (.inr (.inr 0)), .inr (.inr (.inl (some 107))), .inl ((sp_row5 (I 108) (X.2 (i + 1))))], (am_mm D K1 J1 ρ1))) rfl ?_
  refine am_e_scr rfl (by omega) (by omega) (by omega) ?_
  show am_E _ _ _ 816 [(3, .inl (i : Int)), (2, .inr (.inr (.inl (some 107)))), (1, .inr (.inr (.inl (some 0)))), (0, .inr (.inr (.inr 0)))] [.inl ((X.2 (i + 1))), .inr (.inr (.inl (some 107))), .inl ((sp_row5 (I 108) (X.2 (i + 1))))] (am_mm D K1 J1 ρ1) _
  refine am_e_virtual (Q := fun r => ∃ K2 J2, r = (some (.inl ((sp_row5 (I 108) (X.2 (i + 1))))), (am_mm D K2 J2 ρ1)) ∧ y_m K1 K2 (I 108) (I 109) (I 107 4) (I 107 32) (I 123)) rfl rfl (Nat.le_of_ble_eq_true rfl) rfl rfl (Nat.le_of_ble_eq_true rfl) (Nat.le_of_ble_eq_true rfl) (m_row _ h hn hx.2.1 (hX _)) ?_
  rintro r ⟨K2, J2, rfl, hm⟩
  show am_E _ _ _ 819 [(3, .inl (i : Int)), (2, .inr (.inr (.inl (some 107)))), (1, .inr (.inr (.inl (some 0)))), (0, .inr (.inr (.inr 0)))] [.inl ((sp_row5 (I 108) (X.2 (i + 1)))), .inl ((sp_row5 (I 108) (X.2 (i + 1))))] (am_mm D K2 J2 ρ1) _
  refine am_e_icmpEq rfl ?_
  show am_E _ _ _ 1008 [(3, .inl (i : Int)), (2, .inr (.inr (.inl (some 107)))), (1, .inr (.inr (.inl (some 0)))), (0, .inr (.inr (.inr 0)))] [] (am_mm D K2 J2 ρ1) _
  exact hc _ _ _ _ (y_ask h hx hm)
set_option maxRecDepth 20000 in
theorem y_c_hand {X : Nat × (Nat → Int)} {D : List (Nat × Nat)} {I J : Nat → Nat → Int} {ρ : Nat → Nat → Option Nat} {n i : Nat} {P : am_R → Prop} (hX : ∀ j, -2147483648 ≤ X.2 j ∧ X.2 j < 2147483648) (hi : i + 5 ≤ X.1) (hL : X.1 ≤ 320) (h : y_iv n D I ρ) (hn : n ≤ 64) (hc : ∀ D' I' J' ρ', y_iv (n + 1) D' I' ρ' → am_E X 2000 0 1008 [(3, .inl (i : Int)), (2, .inr (.inr (.inl (some 107)))), (1, .inr (.inr (.inl (some 0)))), (0, .inr (.inr (.inr 0)))] [] (am_mm D' I' J' ρ') P) : am_E X 2000 0 824 [(3, .inl (i : Int)), (2, .inr (.inr (.inl (some 107)))), (1, .inr (.inr (.inl (some 0)))), (0, .inr (.inr (.inr 0)))] [] (am_mm D I J ρ) P := by
  refine am_e_ss 5 (q := (829, [(3, .inl (i : Int)), (2, .inr (.inr (.inl (some 107)))), (1, .inr (.inr (.inl (some 0)))), (0, .inr (.inr (.inr 0)))], [.inl ((i : Int) + 1), .inr (.inr (.inr 0)), .inr (.inr (.inl (some 0)))], (am_mm D I J ρ))) rfl ?_
  refine am_e_scr rfl (by omega) (by omega) (by omega) ?_
  show am_E _ _ _ 830 [(3, .inl (i : Int)), (2, .inr (.inr (.inl (some 107)))), (1, .inr (.inr (.inl (some 0)))), (0, .inr (.inr (.inr 0)))] [.inl ((X.2 (i + 1))), .inr (.inr (.inl (some 0)))] (am_mm D I J ρ) _
  refine am_e_virtual (Q := fun r => ∃ K1 J1 ρ1, r = (some (.inl ((sp_hand (I 108) (X.2 (i + 1))).1)), (am_mm D K1 J1 ρ1)) ∧ y_x I ρ D K1 ρ1 (sp_hand (I 108) (X.2 (i + 1))).2 (I 109) (I 107 4) (I 107 32) (I 123)) rfl rfl (Nat.le_of_ble_eq_true rfl) rfl rfl (Nat.le_of_ble_eq_true rfl) (Nat.le_of_ble_eq_true rfl) (x_hand _ h hn (hX _)) ?_
  rintro r ⟨K1, J1, ρ1, rfl, hx⟩
  show am_E _ _ _ 833 [(3, .inl (i : Int)), (2, .inr (.inr (.inl (some 107)))), (1, .inr (.inr (.inl (some 0)))), (0, .inr (.inr (.inr 0)))] [.inl ((sp_hand (I 108) (X.2 (i + 1))).1)] (am_mm D K1 J1 ρ1) _
  refine am_e_ss 5 (q := (838, [(3, .inl (i : Int)), (2, .inr (.inr (.inl (some 107)))), (1, .inr (.inr (.inl (some 0)))), (0, .inr (.inr (.inr 0)))], [.inl ((i : Int) + 1), .inr (.inr (.inr 0)), .inr (.inr (.inl (some 107))), .inl ((sp_hand (I 108) (X.2 (i + 1))).1)], (am_mm D K1 J1 ρ1))) rfl ?_
  refine am_e_scr rfl (by omega) (by omega) (by omega) ?_
  show am_E _ _ _ 839 [(3, .inl (i : Int)), (2, .inr (.inr (.inl (some 107)))), (1, .inr (.inr (.inl (some 0)))), (0, .inr (.inr (.inr 0)))] [.inl ((X.2 (i + 1))), .inr (.inr (.inl (some 107))), .inl ((sp_hand (I 108) (X.2 (i + 1))).1)] (am_mm D K1 J1 ρ1) _
  refine am_e_virtual (Q := fun r => ∃ K2 J2, r = (some (.inl ((sp_hand (I 108) (X.2 (i + 1))).1)), (am_mm D K2 J2 ρ1)) ∧ y_m K1 K2 (sp_hand (I 108) (X.2 (i + 1))).2 (I 109) (I 107 4) (I 107 32) (I 123)) rfl rfl (Nat.le_of_ble_eq_true rfl) rfl rfl (Nat.le_of_ble_eq_true rfl) (Nat.le_of_ble_eq_true rfl) (m_hand _ h hn hx.2.1 (hX _)) ?_
  rintro r ⟨K2, J2, rfl, hm⟩
  show am_E _ _ _ 842 [(3, .inl (i : Int)), (2, .inr (.inr (.inl (some 107)))), (1, .inr (.inr (.inl (some 0)))), (0, .inr (.inr (.inr 0)))] [.inl ((sp_hand (I 108) (X.2 (i + 1))).1), .inl ((sp_hand (I 108) (X.2 (i + 1))).1)] (am_mm D K2 J2 ρ1) _
  refine am_e_icmpEq rfl ?_
  show am_E _ _ _ 1008 [(3, .inl (i : Int)), (2, .inr (.inr (.inl (some 107)))), (1, .inr (.inr (.inl (some 0)))), (0, .inr (.inr (.inr 0)))] [] (am_mm D K2 J2 ρ1) _
  exact hc _ _ _ _ (y_chg h hx hm (y_mono (y_hand h.1) (by omega)))
set_option maxRecDepth 20000 in
theorem y_c_looked {X : Nat × (Nat → Int)} {D : List (Nat × Nat)} {I J : Nat → Nat → Int} {ρ : Nat → Nat → Option Nat} {n i : Nat} {P : am_R → Prop} (hX : ∀ j, -2147483648 ≤ X.2 j ∧ X.2 j < 2147483648) (hi : i + 5 ≤ X.1) (hL : X.1 ≤ 320) (h : y_iv n D I ρ) (hn : n ≤ 64) (hc : ∀ D' I' J' ρ', y_iv (n + 1) D' I' ρ' → am_E X 2000 0 1008 [(3, .inl (i : Int)), (2, .inr (.inr (.inl (some 107)))), (1, .inr (.inr (.inl (some 0)))), (0, .inr (.inr (.inr 0)))] [] (am_mm D' I' J' ρ') P) : am_E X 2000 0 847 [(3, .inl (i : Int)), (2, .inr (.inr (.inl (some 107)))), (1, .inr (.inr (.inl (some 0)))), (0, .inr (.inr (.inr 0)))] [] (am_mm D I J ρ) P := by
  refine am_e_ss 1 (q := (848, [(3, .inl (i : Int)), (2, .inr (.inr (.inl (some 107)))), (1, .inr (.inr (.inl (some 0)))), (0, .inr (.inr (.inr 0)))], [.inr (.inr (.inl (some 0)))], (am_mm D I J ρ))) rfl ?_
  refine am_e_virtual (Q := fun r => ∃ K1 J1 ρ1, r = (some (.inl ((sp_looked (I 108)))), (am_mm D K1 J1 ρ1)) ∧ y_x I ρ D K1 ρ1 (I 108) (I 109) (I 107 4) (I 107 32) (I 123)) rfl rfl (Nat.le_of_ble_eq_true rfl) rfl rfl (Nat.le_of_ble_eq_true rfl) (Nat.le_of_ble_eq_true rfl) (x_looked _ h hn ) ?_
  rintro r ⟨K1, J1, ρ1, rfl, hx⟩
  show am_E _ _ _ 851 [(3, .inl (i : Int)), (2, .inr (.inr (.inl (some 107)))), (1, .inr (.inr (.inl (some 0)))), (0, .inr (.inr (.inr 0)))] [.inl ((sp_looked (I 108)))] (am_mm D K1 J1 ρ1) _
  refine am_e_ss 1 (q := (852, [(3, .inl (i : Int)), (2, .inr (.inr (.inl (some 107)))), (1, .inr (.inr (.inl (some 0)))), (0, .inr (.inr (.inr 0)))], [.inr (.inr (.inl (some 107))), .inl ((sp_looked (I 108)))], (am_mm D K1 J1 ρ1))) rfl ?_
  refine am_e_virtual (Q := fun r => ∃ K2 J2, r = (some (.inl ((sp_looked (I 108)))), (am_mm D K2 J2 ρ1)) ∧ y_m K1 K2 (I 108) (I 109) (I 107 4) (I 107 32) (I 123)) rfl rfl (Nat.le_of_ble_eq_true rfl) rfl rfl (Nat.le_of_ble_eq_true rfl) (Nat.le_of_ble_eq_true rfl) (m_looked _ h hn hx.2.1 ) ?_
  rintro r ⟨K2, J2, rfl, hm⟩
  show am_E _ _ _ 855 [(3, .inl (i : Int)), (2, .inr (.inr (.inl (some 107)))), (1, .inr (.inr (.inl (some 0)))), (0, .inr (.inr (.inr 0)))] [.inl ((sp_looked (I 108))), .inl ((sp_looked (I 108)))] (am_mm D K2 J2 ρ1) _
  refine am_e_icmpEq rfl ?_
  show am_E _ _ _ 1008 [(3, .inl (i : Int)), (2, .inr (.inr (.inl (some 107)))), (1, .inr (.inr (.inl (some 0)))), (0, .inr (.inr (.inr 0)))] [] (am_mm D K2 J2 ρ1) _
  exact hc _ _ _ _ (y_ask h hx hm)
set_option maxRecDepth 20000 in
theorem y_c_act {X : Nat × (Nat → Int)} {D : List (Nat × Nat)} {I J : Nat → Nat → Int} {ρ : Nat → Nat → Option Nat} {n i : Nat} {P : am_R → Prop} (hX : ∀ j, -2147483648 ≤ X.2 j ∧ X.2 j < 2147483648) (hi : i + 5 ≤ X.1) (hL : X.1 ≤ 320) (h : y_iv n D I ρ) (hn : n ≤ 64) (hc : ∀ D' I' J' ρ', y_iv (n + 1) D' I' ρ' → am_E X 2000 0 1008 [(3, .inl (i : Int)), (2, .inr (.inr (.inl (some 107)))), (1, .inr (.inr (.inl (some 0)))), (0, .inr (.inr (.inr 0)))] [] (am_mm D' I' J' ρ') P) : am_E X 2000 0 860 [(3, .inl (i : Int)), (2, .inr (.inr (.inl (some 107)))), (1, .inr (.inr (.inl (some 0)))), (0, .inr (.inr (.inr 0)))] [] (am_mm D I J ρ) P := by
  refine am_e_ss 5 (q := (865, [(3, .inl (i : Int)), (2, .inr (.inr (.inl (some 107)))), (1, .inr (.inr (.inl (some 0)))), (0, .inr (.inr (.inr 0)))], [.inl ((i : Int) + 1), .inr (.inr (.inr 0)), .inr (.inr (.inl (some 0)))], (am_mm D I J ρ))) rfl ?_
  refine am_e_scr rfl (by omega) (by omega) (by omega) ?_
  show am_E _ _ _ 866 [(3, .inl (i : Int)), (2, .inr (.inr (.inl (some 107)))), (1, .inr (.inr (.inl (some 0)))), (0, .inr (.inr (.inr 0)))] [.inl ((X.2 (i + 1))), .inr (.inr (.inl (some 0)))] (am_mm D I J ρ) _
  refine am_e_ss 4 (q := (870, [(3, .inl (i : Int)), (2, .inr (.inr (.inl (some 107)))), (1, .inr (.inr (.inl (some 0)))), (0, .inr (.inr (.inr 0)))], [.inl ((i : Int) + 2), .inr (.inr (.inr 0)), .inl ((X.2 (i + 1))), .inr (.inr (.inl (some 0)))], (am_mm D I J ρ))) rfl ?_
  refine am_e_scr rfl (by omega) (by omega) (by omega) ?_
  show am_E _ _ _ 871 [(3, .inl (i : Int)), (2, .inr (.inr (.inl (some 107)))), (1, .inr (.inr (.inl (some 0)))), (0, .inr (.inr (.inr 0)))] [.inl ((X.2 (i + 2))), .inl ((X.2 (i + 1))), .inr (.inr (.inl (some 0)))] (am_mm D I J ρ) _
  refine am_e_ss 4 (q := (875, [(3, .inl (i : Int)), (2, .inr (.inr (.inl (some 107)))), (1, .inr (.inr (.inl (some 0)))), (0, .inr (.inr (.inr 0)))], [.inl ((i : Int) + 3), .inr (.inr (.inr 0)), .inl ((X.2 (i + 2))), .inl ((X.2 (i + 1))), .inr (.inr (.inl (some 0)))], (am_mm D I J ρ))) rfl ?_
  refine am_e_scr rfl (by omega) (by omega) (by omega) ?_
  show am_E _ _ _ 876 [(3, .inl (i : Int)), (2, .inr (.inr (.inl (some 107)))), (1, .inr (.inr (.inl (some 0)))), (0, .inr (.inr (.inr 0)))] [.inl ((X.2 (i + 3))), .inl ((X.2 (i + 2))), .inl ((X.2 (i + 1))), .inr (.inr (.inl (some 0)))] (am_mm D I J ρ) _
  refine am_e_virtual (Q := fun r => ∃ K1 J1 ρ1, r = (some (.inl ((c_actl (I 108) (X.2 (i + 1)) (X.2 (i + 2)) (X.2 (i + 3))).1)), (am_mm D K1 J1 ρ1)) ∧ y_x I ρ D K1 ρ1 (I 108) (I 109) (I 107 4) (((c_actl (I 108) (X.2 (i + 1)) (X.2 (i + 2)) (X.2 (i + 3))).2.length : Nat) : Int) (am_rs (I 123) 0 (c_actl (I 108) (X.2 (i + 1)) (X.2 (i + 2)) (X.2 (i + 3))).2)) rfl rfl (Nat.le_of_ble_eq_true rfl) rfl rfl (Nat.le_of_ble_eq_true rfl) (Nat.le_of_ble_eq_true rfl) (x_act _ h (hX _) (hX _)) ?_
  rintro r ⟨K1, J1, ρ1, rfl, hx⟩
  show am_E _ _ _ 879 [(3, .inl (i : Int)), (2, .inr (.inr (.inl (some 107)))), (1, .inr (.inr (.inl (some 0)))), (0, .inr (.inr (.inr 0)))] [.inl ((c_actl (I 108) (X.2 (i + 1)) (X.2 (i + 2)) (X.2 (i + 3))).1)] (am_mm D K1 J1 ρ1) _
  refine am_e_ss 5 (q := (884, [(3, .inl (i : Int)), (2, .inr (.inr (.inl (some 107)))), (1, .inr (.inr (.inl (some 0)))), (0, .inr (.inr (.inr 0)))], [.inl ((i : Int) + 1), .inr (.inr (.inr 0)), .inr (.inr (.inl (some 107))), .inl ((c_actl (I 108) (X.2 (i + 1)) (X.2 (i + 2)) (X.2 (i + 3))).1)], (am_mm D K1 J1 ρ1))) rfl ?_
  refine am_e_scr rfl (by omega) (by omega) (by omega) ?_
  show am_E _ _ _ 885 [(3, .inl (i : Int)), (2, .inr (.inr (.inl (some 107)))), (1, .inr (.inr (.inl (some 0)))), (0, .inr (.inr (.inr 0)))] [.inl ((X.2 (i + 1))), .inr (.inr (.inl (some 107))), .inl ((c_actl (I 108) (X.2 (i + 1)) (X.2 (i + 2)) (X.2 (i + 3))).1)] (am_mm D K1 J1 ρ1) _
  refine am_e_ss 4 (q := (889, [(3, .inl (i : Int)), (2, .inr (.inr (.inl (some 107)))), (1, .inr (.inr (.inl (some 0)))), (0, .inr (.inr (.inr 0)))], [.inl ((i : Int) + 2), .inr (.inr (.inr 0)), .inl ((X.2 (i + 1))), .inr (.inr (.inl (some 107))), .inl ((c_actl (I 108) (X.2 (i + 1)) (X.2 (i + 2)) (X.2 (i + 3))).1)], (am_mm D K1 J1 ρ1))) rfl ?_
  refine am_e_scr rfl (by omega) (by omega) (by omega) ?_
  show am_E _ _ _ 890 [(3, .inl (i : Int)), (2, .inr (.inr (.inl (some 107)))), (1, .inr (.inr (.inl (some 0)))), (0, .inr (.inr (.inr 0)))] [.inl ((X.2 (i + 2))), .inl ((X.2 (i + 1))), .inr (.inr (.inl (some 107))), .inl ((c_actl (I 108) (X.2 (i + 1)) (X.2 (i + 2)) (X.2 (i + 3))).1)] (am_mm D K1 J1 ρ1) _
  refine am_e_ss 4 (q := (894, [(3, .inl (i : Int)), (2, .inr (.inr (.inl (some 107)))), (1, .inr (.inr (.inl (some 0)))), (0, .inr (.inr (.inr 0)))], [.inl ((i : Int) + 3), .inr (.inr (.inr 0)), .inl ((X.2 (i + 2))), .inl ((X.2 (i + 1))), .inr (.inr (.inl (some 107))), .inl ((c_actl (I 108) (X.2 (i + 1)) (X.2 (i + 2)) (X.2 (i + 3))).1)], (am_mm D K1 J1 ρ1))) rfl ?_
  refine am_e_scr rfl (by omega) (by omega) (by omega) ?_
  show am_E _ _ _ 895 [(3, .inl (i : Int)), (2, .inr (.inr (.inl (some 107)))), (1, .inr (.inr (.inl (some 0)))), (0, .inr (.inr (.inr 0)))] [.inl ((X.2 (i + 3))), .inl ((X.2 (i + 2))), .inl ((X.2 (i + 1))), .inr (.inr (.inl (some 107))), .inl ((c_actl (I 108) (X.2 (i + 1)) (X.2 (i + 2)) (X.2 (i + 3))).1)] (am_mm D K1 J1 ρ1) _
  refine am_e_virtual (Q := fun r => ∃ K2 J2, r = (some (.inl ((c_actl (I 108) (X.2 (i + 1)) (X.2 (i + 2)) (X.2 (i + 3))).1)), (am_mm D K2 J2 ρ1)) ∧ y_m K1 K2 (I 108) (I 109) (I 107 4) (((c_actl (I 108) (X.2 (i + 1)) (X.2 (i + 2)) (X.2 (i + 3))).2.length : Nat) : Int) (am_rs (I 123) 0 (c_actl (I 108) (X.2 (i + 1)) (X.2 (i + 2)) (X.2 (i + 3))).2)) rfl rfl (Nat.le_of_ble_eq_true rfl) rfl rfl (Nat.le_of_ble_eq_true rfl) (Nat.le_of_ble_eq_true rfl) (m_act _ h hx.2.1 (hX _) (hX _)) ?_
  rintro r ⟨K2, J2, rfl, hm⟩
  show am_E _ _ _ 898 [(3, .inl (i : Int)), (2, .inr (.inr (.inl (some 107)))), (1, .inr (.inr (.inl (some 0)))), (0, .inr (.inr (.inr 0)))] [.inl ((c_actl (I 108) (X.2 (i + 1)) (X.2 (i + 2)) (X.2 (i + 3))).1), .inl ((c_actl (I 108) (X.2 (i + 1)) (X.2 (i + 2)) (X.2 (i + 3))).1)] (am_mm D K2 J2 ρ1) _
  refine am_e_icmpEq rfl ?_
  show am_E _ _ _ 1008 [(3, .inl (i : Int)), (2, .inr (.inr (.inl (some 107)))), (1, .inr (.inr (.inl (some 0)))), (0, .inr (.inr (.inr 0)))] [] (am_mm D K2 J2 ρ1) _
  exact hc _ _ _ _ (y_act h hx hm)
set_option maxRecDepth 20000 in
theorem y_c_trace {X : Nat × (Nat → Int)} {D : List (Nat × Nat)} {I J : Nat → Nat → Int} {ρ : Nat → Nat → Option Nat} {n i : Nat} {P : am_R → Prop} (hX : ∀ j, -2147483648 ≤ X.2 j ∧ X.2 j < 2147483648) (hi : i + 5 ≤ X.1) (hL : X.1 ≤ 320) (h : y_iv n D I ρ) (hn : n ≤ 64) (hc : ∀ D' I' J' ρ', y_iv (n + 1) D' I' ρ' → am_E X 2000 0 1008 [(3, .inl (i : Int)), (2, .inr (.inr (.inl (some 107)))), (1, .inr (.inr (.inl (some 0)))), (0, .inr (.inr (.inr 0)))] [] (am_mm D' I' J' ρ') P) : am_E X 2000 0 903 [(3, .inl (i : Int)), (2, .inr (.inr (.inl (some 107)))), (1, .inr (.inr (.inl (some 0)))), (0, .inr (.inr (.inr 0)))] [] (am_mm D I J ρ) P := by
  refine am_e_ss 5 (q := (908, [(3, .inl (i : Int)), (2, .inr (.inr (.inl (some 107)))), (1, .inr (.inr (.inl (some 0)))), (0, .inr (.inr (.inr 0)))], [.inl ((i : Int) + 1), .inr (.inr (.inr 0)), .inr (.inr (.inl (some 0)))], (am_mm D I J ρ))) rfl ?_
  refine am_e_scr rfl (by omega) (by omega) (by omega) ?_
  show am_E _ _ _ 909 [(3, .inl (i : Int)), (2, .inr (.inr (.inl (some 107)))), (1, .inr (.inr (.inl (some 0)))), (0, .inr (.inr (.inr 0)))] [.inl ((X.2 (i + 1))), .inr (.inr (.inl (some 0)))] (am_mm D I J ρ) _
  refine am_e_virtual (Q := fun r => ∃ K1 J1 ρ1, r = (some (.inl ((sp_trace (I 107 32) (I 123) (X.2 (i + 1))))), (am_mm D K1 J1 ρ1)) ∧ y_x I ρ D K1 ρ1 (I 108) (I 109) (I 107 4) (I 107 32) (I 123)) rfl rfl (Nat.le_of_ble_eq_true rfl) rfl rfl (Nat.le_of_ble_eq_true rfl) (Nat.le_of_ble_eq_true rfl) (x_trace _ h hn (hX _)) ?_
  rintro r ⟨K1, J1, ρ1, rfl, hx⟩
  show am_E _ _ _ 912 [(3, .inl (i : Int)), (2, .inr (.inr (.inl (some 107)))), (1, .inr (.inr (.inl (some 0)))), (0, .inr (.inr (.inr 0)))] [.inl ((sp_trace (I 107 32) (I 123) (X.2 (i + 1))))] (am_mm D K1 J1 ρ1) _
  refine am_e_ss 5 (q := (917, [(3, .inl (i : Int)), (2, .inr (.inr (.inl (some 107)))), (1, .inr (.inr (.inl (some 0)))), (0, .inr (.inr (.inr 0)))], [.inl ((i : Int) + 1), .inr (.inr (.inr 0)), .inr (.inr (.inl (some 107))), .inl ((sp_trace (I 107 32) (I 123) (X.2 (i + 1))))], (am_mm D K1 J1 ρ1))) rfl ?_
  refine am_e_scr rfl (by omega) (by omega) (by omega) ?_
  show am_E _ _ _ 918 [(3, .inl (i : Int)), (2, .inr (.inr (.inl (some 107)))), (1, .inr (.inr (.inl (some 0)))), (0, .inr (.inr (.inr 0)))] [.inl ((X.2 (i + 1))), .inr (.inr (.inl (some 107))), .inl ((sp_trace (I 107 32) (I 123) (X.2 (i + 1))))] (am_mm D K1 J1 ρ1) _
  refine am_e_virtual (Q := fun r => ∃ K2 J2, r = (some (.inl ((sp_trace (I 107 32) (I 123) (X.2 (i + 1))))), (am_mm D K2 J2 ρ1)) ∧ y_m K1 K2 (I 108) (I 109) (I 107 4) (I 107 32) (I 123)) rfl rfl (Nat.le_of_ble_eq_true rfl) rfl rfl (Nat.le_of_ble_eq_true rfl) (Nat.le_of_ble_eq_true rfl) (m_trace _ h hn hx.2.1 (hX _)) ?_
  rintro r ⟨K2, J2, rfl, hm⟩
  show am_E _ _ _ 921 [(3, .inl (i : Int)), (2, .inr (.inr (.inl (some 107)))), (1, .inr (.inr (.inl (some 0)))), (0, .inr (.inr (.inr 0)))] [.inl ((sp_trace (I 107 32) (I 123) (X.2 (i + 1)))), .inl ((sp_trace (I 107 32) (I 123) (X.2 (i + 1))))] (am_mm D K2 J2 ρ1) _
  refine am_e_icmpEq rfl ?_
  show am_E _ _ _ 1008 [(3, .inl (i : Int)), (2, .inr (.inr (.inl (some 107)))), (1, .inr (.inr (.inl (some 0)))), (0, .inr (.inr (.inr 0)))] [] (am_mm D K2 J2 ρ1) _
  exact hc _ _ _ _ (y_ask h hx hm)
set_option maxRecDepth 20000 in
theorem y_c_as {X : Nat × (Nat → Int)} {D : List (Nat × Nat)} {I J : Nat → Nat → Int} {ρ : Nat → Nat → Option Nat} {n i : Nat} {P : am_R → Prop} (hX : ∀ j, -2147483648 ≤ X.2 j ∧ X.2 j < 2147483648) (hi : i + 5 ≤ X.1) (hL : X.1 ≤ 320) (h : y_iv n D I ρ) (hn : n ≤ 64) (hc : ∀ D' I' J' ρ', y_iv (n + 1) D' I' ρ' → am_E X 2000 0 1008 [(3, .inl (i : Int)), (2, .inr (.inr (.inl (some 107)))), (1, .inr (.inr (.inl (some 0)))), (0, .inr (.inr (.inr 0)))] [] (am_mm D' I' J' ρ') P) : am_E X 2000 0 926 [(3, .inl (i : Int)), (2, .inr (.inr (.inl (some 107)))), (1, .inr (.inr (.inl (some 0)))), (0, .inr (.inr (.inr 0)))] [] (am_mm D I J ρ) P := by
  refine am_e_ss 5 (q := (931, [(3, .inl (i : Int)), (2, .inr (.inr (.inl (some 107)))), (1, .inr (.inr (.inl (some 0)))), (0, .inr (.inr (.inr 0)))], [.inl ((i : Int) + 1), .inr (.inr (.inr 0)), .inr (.inr (.inl (some 0)))], (am_mm D I J ρ))) rfl ?_
  refine am_e_scr rfl (by omega) (by omega) (by omega) ?_
  show am_E _ _ _ 932 [(3, .inl (i : Int)), (2, .inr (.inr (.inl (some 107)))), (1, .inr (.inr (.inl (some 0)))), (0, .inr (.inr (.inr 0)))] [.inl ((X.2 (i + 1))), .inr (.inr (.inl (some 0)))] (am_mm D I J ρ) _
  refine am_e_ss 4 (q := (936, [(3, .inl (i : Int)), (2, .inr (.inr (.inl (some 107)))), (1, .inr (.inr (.inl (some 0)))), (0, .inr (.inr (.inr 0)))], [.inl ((i : Int) + 2), .inr (.inr (.inr 0)), .inl ((X.2 (i + 1))), .inr (.inr (.inl (some 0)))], (am_mm D I J ρ))) rfl ?_
  refine am_e_scr rfl (by omega) (by omega) (by omega) ?_
  show am_E _ _ _ 937 [(3, .inl (i : Int)), (2, .inr (.inr (.inl (some 107)))), (1, .inr (.inr (.inl (some 0)))), (0, .inr (.inr (.inr 0)))] [.inl ((X.2 (i + 2))), .inl ((X.2 (i + 1))), .inr (.inr (.inl (some 0)))] (am_mm D I J ρ) _
  refine am_e_virtual (Q := fun r => ∃ K1 J1 ρ1, r = (some (.inl ((sp_as (I 108) (X.2 (i + 1)) (X.2 (i + 2))))), (am_mm D K1 J1 ρ1)) ∧ y_x I ρ D K1 ρ1 (I 108) (I 109) (I 107 4) (I 107 32) (I 123)) rfl rfl (Nat.le_of_ble_eq_true rfl) rfl rfl (Nat.le_of_ble_eq_true rfl) (Nat.le_of_ble_eq_true rfl) (x_as _ h hn (hX _) (hX _)) ?_
  rintro r ⟨K1, J1, ρ1, rfl, hx⟩
  show am_E _ _ _ 940 [(3, .inl (i : Int)), (2, .inr (.inr (.inl (some 107)))), (1, .inr (.inr (.inl (some 0)))), (0, .inr (.inr (.inr 0)))] [.inl ((sp_as (I 108) (X.2 (i + 1)) (X.2 (i + 2))))] (am_mm D K1 J1 ρ1) _
  refine am_e_ss 5 (q := (945, [(3, .inl (i : Int)), (2, .inr (.inr (.inl (some 107)))), (1, .inr (.inr (.inl (some 0)))), (0, .inr (.inr (.inr 0)))], [.inl ((i : Int) + 1), .inr (.inr (.inr 0)), .inr (.inr (.inl (some 107))), .inl ((sp_as (I 108) (X.2 (i + 1)) (X.2 (i + 2))))], (am_mm D K1 J1 ρ1))) rfl ?_
  refine am_e_scr rfl (by omega) (by omega) (by omega) ?_
  show am_E _ _ _ 946 [(3, .inl (i : Int)), (2, .inr (.inr (.inl (some 107)))), (1, .inr (.inr (.inl (some 0)))), (0, .inr (.inr (.inr 0)))] [.inl ((X.2 (i + 1))), .inr (.inr (.inl (some 107))), .inl ((sp_as (I 108) (X.2 (i + 1)) (X.2 (i + 2))))] (am_mm D K1 J1 ρ1) _
  refine am_e_ss 4 (q := (950, [(3, .inl (i : Int)), (2, .inr (.inr (.inl (some 107)))), (1, .inr (.inr (.inl (some 0)))), (0, .inr (.inr (.inr 0)))], [.inl ((i : Int) + 2), .inr (.inr (.inr 0)), .inl ((X.2 (i + 1))), .inr (.inr (.inl (some 107))), .inl ((sp_as (I 108) (X.2 (i + 1)) (X.2 (i + 2))))], (am_mm D K1 J1 ρ1))) rfl ?_
  refine am_e_scr rfl (by omega) (by omega) (by omega) ?_
  show am_E _ _ _ 951 [(3, .inl (i : Int)), (2, .inr (.inr (.inl (some 107)))), (1, .inr (.inr (.inl (some 0)))), (0, .inr (.inr (.inr 0)))] [.inl ((X.2 (i + 2))), .inl ((X.2 (i + 1))), .inr (.inr (.inl (some 107))), .inl ((sp_as (I 108) (X.2 (i + 1)) (X.2 (i + 2))))] (am_mm D K1 J1 ρ1) _
  refine am_e_virtual (Q := fun r => ∃ K2 J2, r = (some (.inl ((sp_as (I 108) (X.2 (i + 1)) (X.2 (i + 2))))), (am_mm D K2 J2 ρ1)) ∧ y_m K1 K2 (I 108) (I 109) (I 107 4) (I 107 32) (I 123)) rfl rfl (Nat.le_of_ble_eq_true rfl) rfl rfl (Nat.le_of_ble_eq_true rfl) (Nat.le_of_ble_eq_true rfl) (m_as _ h hn hx.2.1 (hX _) (hX _)) ?_
  rintro r ⟨K2, J2, rfl, hm⟩
  show am_E _ _ _ 954 [(3, .inl (i : Int)), (2, .inr (.inr (.inl (some 107)))), (1, .inr (.inr (.inl (some 0)))), (0, .inr (.inr (.inr 0)))] [.inl ((sp_as (I 108) (X.2 (i + 1)) (X.2 (i + 2)))), .inl ((sp_as (I 108) (X.2 (i + 1)) (X.2 (i + 2))))] (am_mm D K2 J2 ρ1) _
  refine am_e_icmpEq rfl ?_
  show am_E _ _ _ 1008 [(3, .inl (i : Int)), (2, .inr (.inr (.inl (some 107)))), (1, .inr (.inr (.inl (some 0)))), (0, .inr (.inr (.inr 0)))] [] (am_mm D K2 J2 ρ1) _
  exact hc _ _ _ _ (y_ask h hx hm)
set_option maxRecDepth 20000 in
theorem y_c_count {X : Nat × (Nat → Int)} {D : List (Nat × Nat)} {I J : Nat → Nat → Int} {ρ : Nat → Nat → Option Nat} {n i : Nat} {P : am_R → Prop} (hX : ∀ j, -2147483648 ≤ X.2 j ∧ X.2 j < 2147483648) (hi : i + 5 ≤ X.1) (hL : X.1 ≤ 320) (h : y_iv n D I ρ) (hn : n ≤ 64) (hc : ∀ D' I' J' ρ', y_iv (n + 1) D' I' ρ' → am_E X 2000 0 1008 [(3, .inl (i : Int)), (2, .inr (.inr (.inl (some 107)))), (1, .inr (.inr (.inl (some 0)))), (0, .inr (.inr (.inr 0)))] [] (am_mm D' I' J' ρ') P) : am_E X 2000 0 985 [(3, .inl (i : Int)), (2, .inr (.inr (.inl (some 107)))), (1, .inr (.inr (.inl (some 0)))), (0, .inr (.inr (.inr 0)))] [] (am_mm D I J ρ) P := by
  refine am_e_ss 5 (q := (990, [(3, .inl (i : Int)), (2, .inr (.inr (.inl (some 107)))), (1, .inr (.inr (.inl (some 0)))), (0, .inr (.inr (.inr 0)))], [.inl ((i : Int) + 1), .inr (.inr (.inr 0)), .inr (.inr (.inl (some 0)))], (am_mm D I J ρ))) rfl ?_
  refine am_e_scr rfl (by omega) (by omega) (by omega) ?_
  show am_E _ _ _ 991 [(3, .inl (i : Int)), (2, .inr (.inr (.inl (some 107)))), (1, .inr (.inr (.inl (some 0)))), (0, .inr (.inr (.inr 0)))] [.inl ((X.2 (i + 1))), .inr (.inr (.inl (some 0)))] (am_mm D I J ρ) _
  refine am_e_virtual (Q := fun r => ∃ K1 J1 ρ1, r = (some (.inl ((sp_count (I 108) (I 107 32) (X.2 (i + 1))))), (am_mm D K1 J1 ρ1)) ∧ y_x I ρ D K1 ρ1 (I 108) (I 109) (I 107 4) (I 107 32) (I 123)) rfl rfl (Nat.le_of_ble_eq_true rfl) rfl rfl (Nat.le_of_ble_eq_true rfl) (Nat.le_of_ble_eq_true rfl) (x_count _ h hn (hX _)) ?_
  rintro r ⟨K1, J1, ρ1, rfl, hx⟩
  show am_E _ _ _ 994 [(3, .inl (i : Int)), (2, .inr (.inr (.inl (some 107)))), (1, .inr (.inr (.inl (some 0)))), (0, .inr (.inr (.inr 0)))] [.inl ((sp_count (I 108) (I 107 32) (X.2 (i + 1))))] (am_mm D K1 J1 ρ1) _
  refine am_e_ss 5 (q := (999, [(3, .inl (i : Int)), (2, .inr (.inr (.inl (some 107)))), (1, .inr (.inr (.inl (some 0)))), (0, .inr (.inr (.inr 0)))], [.inl ((i : Int) + 1), .inr (.inr (.inr 0)), .inr (.inr (.inl (some 107))), .inl ((sp_count (I 108) (I 107 32) (X.2 (i + 1))))], (am_mm D K1 J1 ρ1))) rfl ?_
  refine am_e_scr rfl (by omega) (by omega) (by omega) ?_
  show am_E _ _ _ 1000 [(3, .inl (i : Int)), (2, .inr (.inr (.inl (some 107)))), (1, .inr (.inr (.inl (some 0)))), (0, .inr (.inr (.inr 0)))] [.inl ((X.2 (i + 1))), .inr (.inr (.inl (some 107))), .inl ((sp_count (I 108) (I 107 32) (X.2 (i + 1))))] (am_mm D K1 J1 ρ1) _
  refine am_e_virtual (Q := fun r => ∃ K2 J2, r = (some (.inl ((sp_count (I 108) (I 107 32) (X.2 (i + 1))))), (am_mm D K2 J2 ρ1)) ∧ y_m K1 K2 (I 108) (I 109) (I 107 4) (I 107 32) (I 123)) rfl rfl (Nat.le_of_ble_eq_true rfl) rfl rfl (Nat.le_of_ble_eq_true rfl) (Nat.le_of_ble_eq_true rfl) (m_count _ h hn hx.2.1 (hX _)) ?_
  rintro r ⟨K2, J2, rfl, hm⟩
  show am_E _ _ _ 1003 [(3, .inl (i : Int)), (2, .inr (.inr (.inl (some 107)))), (1, .inr (.inr (.inl (some 0)))), (0, .inr (.inr (.inr 0)))] [.inl ((sp_count (I 108) (I 107 32) (X.2 (i + 1)))), .inl ((sp_count (I 108) (I 107 32) (X.2 (i + 1))))] (am_mm D K2 J2 ρ1) _
  refine am_e_icmpEq rfl ?_
  show am_E _ _ _ 1008 [(3, .inl (i : Int)), (2, .inr (.inr (.inl (some 107)))), (1, .inr (.inr (.inl (some 0)))), (0, .inr (.inr (.inr 0)))] [] (am_mm D K2 J2 ρ1) _
  exact hc _ _ _ _ (y_ask h hx hm)
set_option maxRecDepth 20000 in
theorem y_c_image {X : Nat × (Nat → Int)} {D : List (Nat × Nat)} {I J : Nat → Nat → Int} {ρ : Nat → Nat → Option Nat} {n i : Nat} {P : am_R → Prop} (hX : ∀ j, -2147483648 ≤ X.2 j ∧ X.2 j < 2147483648) (hi : i + 5 ≤ X.1) (hL : X.1 ≤ 320) (h : y_iv n D I ρ) (hn : n ≤ 64) (hc : ∀ D' I' J' ρ', y_iv (n + 1) D' I' ρ' → am_E X 2000 0 1008 [(3, .inl (i : Int)), (2, .inr (.inr (.inl (some 107)))), (1, .inr (.inr (.inl (some 0)))), (0, .inr (.inr (.inr 0)))] [] (am_mm D' I' J' ρ') P) : am_E X 2000 0 959 [(3, .inl (i : Int)), (2, .inr (.inr (.inl (some 107)))), (1, .inr (.inr (.inl (some 0)))), (0, .inr (.inr (.inr 0)))] [] (am_mm D I J ρ) P := by
  refine am_e_ss 1 (q := (960, [(3, .inl (i : Int)), (2, .inr (.inr (.inl (some 107)))), (1, .inr (.inr (.inl (some 0)))), (0, .inr (.inr (.inr 0)))], [.inr (.inr (.inl (some 0)))], (am_mm D I J ρ))) rfl ?_
  refine am_e_virtual (Q := fun r => ∃ K1 J1 ρ1, r = (some (.inl ((I 108 19))), (am_mm D K1 J1 ρ1)) ∧ y_x I ρ D K1 ρ1 (I 108) (y_T I 108 109) 1 (I 107 32) (I 123)) rfl rfl (Nat.le_of_ble_eq_true rfl) rfl rfl (Nat.le_of_ble_eq_true rfl) (Nat.le_of_ble_eq_true rfl) (x_image _ h ) ?_
  rintro r ⟨K1, J1, ρ1, rfl, hx⟩
  show am_E _ _ _ 963 [(3, .inl (i : Int)), (2, .inr (.inr (.inl (some 107)))), (1, .inr (.inr (.inl (some 0)))), (0, .inr (.inr (.inr 0)))] [.inl ((I 108 19))] (am_mm D K1 J1 ρ1) _
  refine am_e_ss 1 (q := (964, [(3, .inl (i : Int)), (2, .inr (.inr (.inl (some 107)))), (1, .inr (.inr (.inl (some 0)))), (0, .inr (.inr (.inr 0)))], [.inr (.inr (.inl (some 107))), .inl ((I 108 19))], (am_mm D K1 J1 ρ1))) rfl ?_
  refine am_e_virtual (Q := fun r => ∃ K2 J2, r = (some (.inl ((I 108 19))), (am_mm D K2 J2 ρ1)) ∧ y_m K1 K2 (I 108) (y_T I 108 109) 1 (I 107 32) (I 123)) rfl rfl (Nat.le_of_ble_eq_true rfl) rfl rfl (Nat.le_of_ble_eq_true rfl) (Nat.le_of_ble_eq_true rfl) (m_image _ h hx.2.1) ?_
  rintro r ⟨K2, J2, rfl, hm⟩
  show am_E _ _ _ 967 [(3, .inl (i : Int)), (2, .inr (.inr (.inl (some 107)))), (1, .inr (.inr (.inl (some 0)))), (0, .inr (.inr (.inr 0)))] [.inl ((I 108 19)), .inl ((I 108 19))] (am_mm D K2 J2 ρ1) _
  refine am_e_icmpEq rfl ?_
  show am_E _ _ _ 1008 [(3, .inl (i : Int)), (2, .inr (.inr (.inl (some 107)))), (1, .inr (.inr (.inl (some 0)))), (0, .inr (.inr (.inr 0)))] [] (am_mm D K2 J2 ρ1) _
  exact hc _ _ _ _ (y_image h hx hm)
set_option maxRecDepth 20000 in
theorem y_c_undo1 {X : Nat × (Nat → Int)} {D : List (Nat × Nat)} {I J : Nat → Nat → Int} {ρ : Nat → Nat → Option Nat} {n i : Nat} {P : am_R → Prop} (hX : ∀ j, -2147483648 ≤ X.2 j ∧ X.2 j < 2147483648) (hi : i + 5 ≤ X.1) (hL : X.1 ≤ 320) (h : y_iv n D I ρ) (hn : n ≤ 64) (hc : ∀ D' I' J' ρ', y_iv (n + 1) D' I' ρ' → am_E X 2000 0 1008 [(3, .inl (i : Int)), (2, .inr (.inr (.inl (some 107)))), (1, .inr (.inr (.inl (some 0)))), (0, .inr (.inr (.inr 0)))] [] (am_mm D' I' J' ρ') P) (h4 : I 107 4 = 1) : am_E X 2000 0 972 [(3, .inl (i : Int)), (2, .inr (.inr (.inl (some 107)))), (1, .inr (.inr (.inl (some 0)))), (0, .inr (.inr (.inr 0)))] [] (am_mm D I J ρ) P := by
  refine am_e_ss 1 (q := (973, [(3, .inl (i : Int)), (2, .inr (.inr (.inl (some 107)))), (1, .inr (.inr (.inl (some 0)))), (0, .inr (.inr (.inr 0)))], [.inr (.inr (.inl (some 0)))], (am_mm D I J ρ))) rfl ?_
  refine am_e_virtual (Q := fun r => ∃ K1 J1 ρ1, r = (some (.inl ((I 109 19))), (am_mm D K1 J1 ρ1)) ∧ y_x I ρ D K1 ρ1 (y_T I 109 108) (I 109) (I 107 4) (I 107 32) (I 123)) rfl rfl (Nat.le_of_ble_eq_true rfl) rfl rfl (Nat.le_of_ble_eq_true rfl) (Nat.le_of_ble_eq_true rfl) (x_undo1 _ h h4) ?_
  rintro r ⟨K1, J1, ρ1, rfl, hx⟩
  show am_E _ _ _ 976 [(3, .inl (i : Int)), (2, .inr (.inr (.inl (some 107)))), (1, .inr (.inr (.inl (some 0)))), (0, .inr (.inr (.inr 0)))] [.inl ((I 109 19))] (am_mm D K1 J1 ρ1) _
  refine am_e_ss 1 (q := (977, [(3, .inl (i : Int)), (2, .inr (.inr (.inl (some 107)))), (1, .inr (.inr (.inl (some 0)))), (0, .inr (.inr (.inr 0)))], [.inr (.inr (.inl (some 107))), .inl ((I 109 19))], (am_mm D K1 J1 ρ1))) rfl ?_
  refine am_e_virtual (Q := fun r => ∃ K2 J2, r = (some (.inl ((I 109 19))), (am_mm D K2 J2 ρ1)) ∧ y_m K1 K2 (y_T I 109 108) (I 109) (I 107 4) (I 107 32) (I 123)) rfl rfl (Nat.le_of_ble_eq_true rfl) rfl rfl (Nat.le_of_ble_eq_true rfl) (Nat.le_of_ble_eq_true rfl) (m_undo1 _ h h4 hx.2.1) ?_
  rintro r ⟨K2, J2, rfl, hm⟩
  show am_E _ _ _ 980 [(3, .inl (i : Int)), (2, .inr (.inr (.inl (some 107)))), (1, .inr (.inr (.inl (some 0)))), (0, .inr (.inr (.inr 0)))] [.inl ((I 109 19)), .inl ((I 109 19))] (am_mm D K2 J2 ρ1) _
  refine am_e_icmpEq rfl ?_
  show am_E _ _ _ 1008 [(3, .inl (i : Int)), (2, .inr (.inr (.inl (some 107)))), (1, .inr (.inr (.inl (some 0)))), (0, .inr (.inr (.inr 0)))] [] (am_mm D K2 J2 ρ1) _
  exact hc _ _ _ _ (y_undo h h4 hx hm)
set_option maxRecDepth 20000 in
theorem y_c_undo0 {X : Nat × (Nat → Int)} {D : List (Nat × Nat)} {I J : Nat → Nat → Int} {ρ : Nat → Nat → Option Nat} {n i : Nat} {P : am_R → Prop} (hX : ∀ j, -2147483648 ≤ X.2 j ∧ X.2 j < 2147483648) (hi : i + 5 ≤ X.1) (hL : X.1 ≤ 320) (h : y_iv n D I ρ) (hn : n ≤ 64) (hc : ∀ D' I' J' ρ', y_iv (n + 1) D' I' ρ' → am_E X 2000 0 1008 [(3, .inl (i : Int)), (2, .inr (.inr (.inl (some 107)))), (1, .inr (.inr (.inl (some 0)))), (0, .inr (.inr (.inr 0)))] [] (am_mm D' I' J' ρ') P) (h4 : ¬ I 107 4 = 1) : am_E X 2000 0 972 [(3, .inl (i : Int)), (2, .inr (.inr (.inl (some 107)))), (1, .inr (.inr (.inl (some 0)))), (0, .inr (.inr (.inr 0)))] [] (am_mm D I J ρ) P := by
  refine am_e_ss 1 (q := (973, [(3, .inl (i : Int)), (2, .inr (.inr (.inl (some 107)))), (1, .inr (.inr (.inl (some 0)))), (0, .inr (.inr (.inr 0)))], [.inr (.inr (.inl (some 0)))], (am_mm D I J ρ))) rfl ?_
  refine am_e_virtual (Q := fun r => ∃ K1 J1 ρ1, r = (some (.inl ((-3))), (am_mm D K1 J1 ρ1)) ∧ y_x I ρ D K1 ρ1 (I 108) (I 109) (I 107 4) (I 107 32) (I 123)) rfl rfl (Nat.le_of_ble_eq_true rfl) rfl rfl (Nat.le_of_ble_eq_true rfl) (Nat.le_of_ble_eq_true rfl) (x_undo0 _ h h4) ?_
  rintro r ⟨K1, J1, ρ1, rfl, hx⟩
  show am_E _ _ _ 976 [(3, .inl (i : Int)), (2, .inr (.inr (.inl (some 107)))), (1, .inr (.inr (.inl (some 0)))), (0, .inr (.inr (.inr 0)))] [.inl ((-3))] (am_mm D K1 J1 ρ1) _
  refine am_e_ss 1 (q := (977, [(3, .inl (i : Int)), (2, .inr (.inr (.inl (some 107)))), (1, .inr (.inr (.inl (some 0)))), (0, .inr (.inr (.inr 0)))], [.inr (.inr (.inl (some 107))), .inl ((-3))], (am_mm D K1 J1 ρ1))) rfl ?_
  refine am_e_virtual (Q := fun r => ∃ K2 J2, r = (some (.inl ((-3))), (am_mm D K2 J2 ρ1)) ∧ y_m K1 K2 (I 108) (I 109) (I 107 4) (I 107 32) (I 123)) rfl rfl (Nat.le_of_ble_eq_true rfl) rfl rfl (Nat.le_of_ble_eq_true rfl) (Nat.le_of_ble_eq_true rfl) (m_undo0 _ h h4 hx.2.1) ?_
  rintro r ⟨K2, J2, rfl, hm⟩
  show am_E _ _ _ 980 [(3, .inl (i : Int)), (2, .inr (.inr (.inl (some 107)))), (1, .inr (.inr (.inl (some 0)))), (0, .inr (.inr (.inr 0)))] [.inl ((-3)), .inl ((-3))] (am_mm D K2 J2 ρ1) _
  refine am_e_icmpEq rfl ?_
  show am_E _ _ _ 1008 [(3, .inl (i : Int)), (2, .inr (.inr (.inl (some 107)))), (1, .inr (.inr (.inl (some 0)))), (0, .inr (.inr (.inr 0)))] [] (am_mm D K2 J2 ρ1) _
  exact hc _ _ _ _ (y_ask h hx hm)
set_option maxRecDepth 20000 in
theorem y_c_clubN {X : Nat × (Nat → Int)} {D : List (Nat × Nat)} {I J : Nat → Nat → Int} {ρ : Nat → Nat → Option Nat} {n i : Nat} {P : am_R → Prop} (hX : ∀ j, -2147483648 ≤ X.2 j ∧ X.2 j < 2147483648) (hi : i + 5 ≤ X.1) (hL : X.1 ≤ 320) (h : y_iv n D I ρ) (hn : n ≤ 64) (hc : ∀ D' I' J' ρ', y_iv (n + 1) D' I' ρ' → am_E X 2000 0 1008 [(3, .inl (i : Int)), (2, .inr (.inr (.inl (some 107)))), (1, .inr (.inr (.inl (some 0)))), (0, .inr (.inr (.inr 0)))] [] (am_mm D' I' J' ρ') P) (h21 : I 108 21 = 5) : am_E X 2000 0 187 [(3, .inl (i : Int)), (2, .inr (.inr (.inl (some 107)))), (1, .inr (.inr (.inl (some 0)))), (0, .inr (.inr (.inr 0)))] [] (am_mm D I J ρ) P := by
  refine am_e_ss 1 (q := (188, [(3, .inl (i : Int)), (2, .inr (.inr (.inl (some 107)))), (1, .inr (.inr (.inl (some 0)))), (0, .inr (.inr (.inr 0)))], [.inr (.inr (.inl (some 0)))], (am_mm D I J ρ))) rfl ?_
  refine am_e_virtual (Q := fun r => ∃ K1 J1 ρ1, r = (some (.inl ((-4))), (am_mm D K1 J1 ρ1)) ∧ y_x I ρ D K1 ρ1 (I 108) (I 109) (I 107 4) (I 107 32) (I 123)) rfl rfl (Nat.le_of_ble_eq_true rfl) rfl rfl (Nat.le_of_ble_eq_true rfl) (Nat.le_of_ble_eq_true rfl) (x_clubN _ h h21) ?_
  rintro r ⟨K1, J1, ρ1, rfl, hx⟩
  show am_E _ _ _ 191 [(3, .inl (i : Int)), (2, .inr (.inr (.inl (some 107)))), (1, .inr (.inr (.inl (some 0)))), (0, .inr (.inr (.inr 0)))] [.inl ((-4))] (am_mm D K1 J1 ρ1) _
  refine am_e_ss 1 (q := (192, [(3, .inl (i : Int)), (2, .inr (.inr (.inl (some 107)))), (1, .inr (.inr (.inl (some 0)))), (0, .inr (.inr (.inr 0)))], [.inr (.inr (.inl (some 107))), .inl ((-4))], (am_mm D K1 J1 ρ1))) rfl ?_
  refine am_e_virtual (Q := fun r => ∃ K2 J2, r = (some (.inl ((-4))), (am_mm D K2 J2 ρ1)) ∧ y_m K1 K2 (I 108) (I 109) (I 107 4) (I 107 32) (I 123)) rfl rfl (Nat.le_of_ble_eq_true rfl) rfl rfl (Nat.le_of_ble_eq_true rfl) (Nat.le_of_ble_eq_true rfl) (m_clubN _ h hx.2.1 h21) ?_
  rintro r ⟨K2, J2, rfl, hm⟩
  show am_E _ _ _ 195 [(3, .inl (i : Int)), (2, .inr (.inr (.inl (some 107)))), (1, .inr (.inr (.inl (some 0)))), (0, .inr (.inr (.inr 0)))] [.inl ((-4)), .inl ((-4))] (am_mm D K2 J2 ρ1) _
  refine am_e_icmpEq rfl ?_
  show am_E _ _ _ 1008 [(3, .inl (i : Int)), (2, .inr (.inr (.inl (some 107)))), (1, .inr (.inr (.inl (some 0)))), (0, .inr (.inr (.inr 0)))] [] (am_mm D K2 J2 ρ1) _
  exact hc _ _ _ _ (y_ask h hx hm)
set_option maxRecDepth 20000 in
theorem y_c_clubF {X : Nat × (Nat → Int)} {D : List (Nat × Nat)} {I J : Nat → Nat → Int} {ρ : Nat → Nat → Option Nat} {n i : Nat} {P : am_R → Prop} (hX : ∀ j, -2147483648 ≤ X.2 j ∧ X.2 j < 2147483648) (hi : i + 5 ≤ X.1) (hL : X.1 ≤ 320) (h : y_iv n D I ρ) (hn : n ≤ 64) (hc : ∀ D' I' J' ρ', y_iv (n + 1) D' I' ρ' → am_E X 2000 0 1008 [(3, .inl (i : Int)), (2, .inr (.inr (.inl (some 107)))), (1, .inr (.inr (.inl (some 0)))), (0, .inr (.inr (.inr 0)))] [] (am_mm D' I' J' ρ') P) {a q : Nat} (h21 : I 108 21 = (a : Int)) (ha : a < 5) (hP : pt_cs (sp_tx (I 108)) (I 108 23).toNat 10 0 [] = (q, none)) : am_E X 2000 0 187 [(3, .inl (i : Int)), (2, .inr (.inr (.inl (some 107)))), (1, .inr (.inr (.inl (some 0)))), (0, .inr (.inr (.inr 0)))] [] (am_mm D I J ρ) P := by
  obtain ⟨cs, hcs⟩ := y_ps h.2.2.2.2.2.2.1.1
  refine am_e_ss 1 (q := (188, [(3, .inl (i : Int)), (2, .inr (.inr (.inl (some 107)))), (1, .inr (.inr (.inl (some 0)))), (0, .inr (.inr (.inr 0)))], [.inr (.inr (.inl (some 0)))], (am_mm D I J ρ))) rfl ?_
  refine am_e_virtual (Q := fun r => ∃ K1 J1 ρ1, r = (some (.inl ((-10 - (q : Int)))), (am_mm D K1 J1 ρ1)) ∧ ∀ S2, sp_cF (I 108) S2 a → y_x I ρ D K1 ρ1 S2 (I 109) (I 107 4) (I 107 32) (I 123)) rfl rfl (Nat.le_of_ble_eq_true rfl) rfl rfl (Nat.le_of_ble_eq_true rfl) (Nat.le_of_ble_eq_true rfl) (x_clubF _ h h21 ha hP) ?_
  rintro r ⟨K1, J1, ρ1, rfl, hx⟩
  show am_E _ _ _ 191 [(3, .inl (i : Int)), (2, .inr (.inr (.inl (some 107)))), (1, .inr (.inr (.inl (some 0)))), (0, .inr (.inr (.inr 0)))] [.inl ((-10 - (q : Int)))] (am_mm D K1 J1 ρ1) _
  refine am_e_ss 1 (q := (192, [(3, .inl (i : Int)), (2, .inr (.inr (.inl (some 107)))), (1, .inr (.inr (.inl (some 0)))), (0, .inr (.inr (.inr 0)))], [.inr (.inr (.inl (some 107))), .inl ((-10 - (q : Int)))], (am_mm D K1 J1 ρ1))) rfl ?_
  refine am_e_virtual (Q := fun r => ∃ K2 J2, r = (some (.inl ((-10 - (q : Int)))), (am_mm D K2 J2 ρ1)) ∧ y_m K1 K2 (K2 108) (I 109) (I 107 4) (I 107 32) (I 123) ∧ sp_cF (I 108) (K2 108) a) rfl rfl (Nat.le_of_ble_eq_true rfl) rfl rfl (Nat.le_of_ble_eq_true rfl) (Nat.le_of_ble_eq_true rfl) (m_clubF _ h (hx _ sp_Fc_ok).2.1 h21 ha hP) ?_
  rintro r ⟨K2, J2, rfl, ⟨hm, hs⟩⟩
  show am_E _ _ _ 195 [(3, .inl (i : Int)), (2, .inr (.inr (.inl (some 107)))), (1, .inr (.inr (.inl (some 0)))), (0, .inr (.inr (.inr 0)))] [.inl ((-10 - (q : Int))), .inl ((-10 - (q : Int)))] (am_mm D K2 J2 ρ1) _
  refine am_e_icmpEq rfl ?_
  show am_E _ _ _ 1008 [(3, .inl (i : Int)), (2, .inr (.inr (.inl (some 107)))), (1, .inr (.inr (.inl (some 0)))), (0, .inr (.inr (.inr 0)))] [] (am_mm D K2 J2 ρ1) _
  exact hc _ _ _ _ (y_chg h (hx _ hs) hm (y_mono (y_cF h.1 ha h21 hcs hs) (by omega)))
set_option maxRecDepth 20000 in
theorem y_c_clubS {X : Nat × (Nat → Int)} {D : List (Nat × Nat)} {I J : Nat → Nat → Int} {ρ : Nat → Nat → Option Nat} {n i : Nat} {P : am_R → Prop} (hX : ∀ j, -2147483648 ≤ X.2 j ∧ X.2 j < 2147483648) (hi : i + 5 ≤ X.1) (hL : X.1 ≤ 320) (h : y_iv n D I ρ) (hn : n ≤ 64) (hc : ∀ D' I' J' ρ', y_iv (n + 1) D' I' ρ' → am_E X 2000 0 1008 [(3, .inl (i : Int)), (2, .inr (.inr (.inl (some 107)))), (1, .inr (.inr (.inl (some 0)))), (0, .inr (.inr (.inr 0)))] [] (am_mm D' I' J' ρ') P) {a q : Nat} {cs : List ps_C} (h21 : I 108 21 = (a : Int)) (ha : a < 5) (hP : pt_cs (sp_tx (I 108)) (I 108 23).toNat 10 0 [] = (q, some cs)) : am_E X 2000 0 187 [(3, .inl (i : Int)), (2, .inr (.inr (.inl (some 107)))), (1, .inr (.inr (.inl (some 0)))), (0, .inr (.inr (.inr 0)))] [] (am_mm D I J ρ) P := by
  have h23 := h.1.1.2.2.2.2.2.2.2.2.1
  have hw := (pt_wf (sp_tx_ok h.1.1).2.1 (by omega) hP).2
  refine am_e_ss 1 (q := (188, [(3, .inl (i : Int)), (2, .inr (.inr (.inl (some 107)))), (1, .inr (.inr (.inl (some 0)))), (0, .inr (.inr (.inr 0)))], [.inr (.inr (.inl (some 0)))], (am_mm D I J ρ))) rfl ?_
  refine am_e_virtual (Q := fun r => ∃ K1 J1 ρ1, r = (some (.inl ((a : Int))), (am_mm (D ++ k_E) K1 J1 ρ1)) ∧ ∀ S2, sp_cS (I 108) S2 a cs → y_x I ρ (D ++ k_E) K1 ρ1 S2 (I 109) (I 107 4) (I 107 32) (I 123)) rfl rfl (Nat.le_of_ble_eq_true rfl) rfl rfl (Nat.le_of_ble_eq_true rfl) (Nat.le_of_ble_eq_true rfl) (x_clubS _ h h21 ha hP) ?_
  rintro r ⟨K1, J1, ρ1, rfl, hx⟩
  show am_E _ _ _ 191 [(3, .inl (i : Int)), (2, .inr (.inr (.inl (some 107)))), (1, .inr (.inr (.inl (some 0)))), (0, .inr (.inr (.inr 0)))] [.inl ((a : Int))] (am_mm (D ++ k_E) K1 J1 ρ1) _
  refine am_e_ss 1 (q := (192, [(3, .inl (i : Int)), (2, .inr (.inr (.inl (some 107)))), (1, .inr (.inr (.inl (some 0)))), (0, .inr (.inr (.inr 0)))], [.inr (.inr (.inl (some 107))), .inl ((a : Int))], (am_mm (D ++ k_E) K1 J1 ρ1))) rfl ?_
  refine am_e_virtual (Q := fun r => ∃ K2 J2, r = (some (.inl ((a : Int))), (am_mm (D ++ k_E) K2 J2 ρ1)) ∧ y_m K1 K2 (K2 108) (I 109) (I 107 4) (I 107 32) (I 123) ∧ sp_cS (I 108) (K2 108) a cs) rfl rfl (Nat.le_of_ble_eq_true rfl) rfl rfl (Nat.le_of_ble_eq_true rfl) (Nat.le_of_ble_eq_true rfl) (m_clubS _ h (hx _ (sp_Sc_ok hw)).2.1 h21 ha hP) ?_
  rintro r ⟨K2, J2, rfl, ⟨hm, hs⟩⟩
  show am_E _ _ _ 195 [(3, .inl (i : Int)), (2, .inr (.inr (.inl (some 107)))), (1, .inr (.inr (.inl (some 0)))), (0, .inr (.inr (.inr 0)))] [.inl ((a : Int)), .inl ((a : Int))] (am_mm (D ++ k_E) K2 J2 ρ1) _
  refine am_e_icmpEq rfl ?_
  show am_E _ _ _ 1008 [(3, .inl (i : Int)), (2, .inr (.inr (.inl (some 107)))), (1, .inr (.inr (.inl (some 0)))), (0, .inr (.inr (.inr 0)))] [] (am_mm (D ++ k_E) K2 J2 ρ1) _
  exact hc _ _ _ _ (y_fin h (hx _ hs) hm (y_mono (y_cS h.1 ha hw hs) (by omega)) (fun e => y_mono (h.2.2.1 e) (by omega)) (Or.inl rfl) h.2.2.2.2.1 ⟨by decide, by decide⟩)
