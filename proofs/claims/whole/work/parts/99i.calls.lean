/-! THE LAW: each call, the class's half (x_) and the reference's (m_) -/
theorem x_of {X : Nat × (Nat → Int)} {D : List (Nat × Nat)} {I J : Nat → Nat → Int} {ρ : Nat → Nat → Option Nat} {n : Nat} (d : Nat) (h : y_iv n D I ρ) (hn : n ≤ 64) {a1 a2 : Int} (h1 : -2147483648 ≤ a1 ∧ a1 < 2147483648) (h2 : -2147483648 ≤ a2 ∧ a2 < 2147483648) : am_E X (d + 1) 93 0 [(0, .inr (.inr (.inl (some 0)))), (1, .inl a1), (2, .inl a2)] [] (am_mm D I J ρ) (fun r => ∃ K1 J1 ρ1, r = (some (.inl (sp_of (I 108) a1 a2)), am_mm D K1 J1 ρ1) ∧ y_x I ρ D K1 ρ1 (I 108) (I 109) (I 107 4) (I 107 32) (I 123)) := by
  have hok := h.1.1
  have hwf := h.1.2.1
  have hh := h.2.2.2.2.2.2.1.1
  have h99 := h.1.2.2.2
  refine (c_of d hok hwf hh h1 h2).imp ?_
  intro r e
  exact ⟨I, J, ρ, e, y_x0 h⟩
theorem m_of {X : Nat × (Nat → Int)} {D D1 : List (Nat × Nat)} {I K J : Nat → Nat → Int} {ρ ρ1 : Nat → Nat → Option Nat} {n : Nat} (d : Nat) (h : y_iv n D I ρ) (hn : n ≤ 64) (hK : ∀ c i, 107 ≤ c → c < 124 → K c i = I c i) {a1 a2 : Int} (h1 : -2147483648 ≤ a1 ∧ a1 < 2147483648) (h2 : -2147483648 ≤ a2 ∧ a2 < 2147483648) : am_E X (d + 2) 151 0 [(0, .inr (.inr (.inl (some 107)))), (1, .inl a1), (2, .inl a2)] [] (am_mm D1 K J ρ1) (fun r => ∃ K2 J2, r = (some (.inl (sp_of (I 108) a1 a2)), am_mm D1 K2 J2 ρ1) ∧ y_m K K2 (I 108) (I 109) (I 107 4) (I 107 32) (I 123)) := by
  have e8 : K 108 = I 108 := y_row hK (by omega) (by omega)
  have hok : r_ok (K 108) (80050 * (n : Int)) := by rw [e8]; exact h.1.1
  have hwf : sp_wfS (K 108) := by rw [e8]; exact h.1.2.1
  have h99 : K 108 0 ≤ 99 := by rw [e8]; exact h.1.2.2.2
  have h27 : -2147483648 ≤ K 107 27 ∧ K 107 27 < 2147483648 := by rw [hK 107 27 (by omega) (by omega)]; exact h.2.2.2.2.2.1
  refine (r_of d h1 h2 hok).imp ?_
  intro r e
  rw [e8] at e
  exact ⟨K, J, e, y_m0 h hK⟩
theorem x_at {X : Nat × (Nat → Int)} {D : List (Nat × Nat)} {I J : Nat → Nat → Int} {ρ : Nat → Nat → Option Nat} {n : Nat} (d : Nat) (h : y_iv n D I ρ) (hn : n ≤ 64) {a1 a2 : Int} (h1 : -2147483648 ≤ a1 ∧ a1 < 2147483648) (h2 : -2147483648 ≤ a2 ∧ a2 < 2147483648) : am_E X (d + 1) 94 0 [(0, .inr (.inr (.inl (some 0)))), (1, .inl a1), (2, .inl a2)] [] (am_mm D I J ρ) (fun r => ∃ K1 J1 ρ1, r = (some (.inl (sp_at (I 108) a1 a2)), am_mm D K1 J1 ρ1) ∧ y_x I ρ D K1 ρ1 (I 108) (I 109) (I 107 4) (I 107 32) (I 123)) := by
  have hok := h.1.1
  have hwf := h.1.2.1
  have hh := h.2.2.2.2.2.2.1.1
  have h99 := h.1.2.2.2
  refine (c_at d hok hwf hh h1 h2).imp ?_
  intro r e
  exact ⟨I, J, ρ, e, y_x0 h⟩
theorem m_at {X : Nat × (Nat → Int)} {D D1 : List (Nat × Nat)} {I K J : Nat → Nat → Int} {ρ ρ1 : Nat → Nat → Option Nat} {n : Nat} (d : Nat) (h : y_iv n D I ρ) (hn : n ≤ 64) (hK : ∀ c i, 107 ≤ c → c < 124 → K c i = I c i) {a1 a2 : Int} (h1 : -2147483648 ≤ a1 ∧ a1 < 2147483648) (h2 : -2147483648 ≤ a2 ∧ a2 < 2147483648) : am_E X (d + 2) 152 0 [(0, .inr (.inr (.inl (some 107)))), (1, .inl a1), (2, .inl a2)] [] (am_mm D1 K J ρ1) (fun r => ∃ K2 J2, r = (some (.inl (sp_at (I 108) a1 a2)), am_mm D1 K2 J2 ρ1) ∧ y_m K K2 (I 108) (I 109) (I 107 4) (I 107 32) (I 123)) := by
  have e8 : K 108 = I 108 := y_row hK (by omega) (by omega)
  have hok : r_ok (K 108) (80050 * (n : Int)) := by rw [e8]; exact h.1.1
  have hwf : sp_wfS (K 108) := by rw [e8]; exact h.1.2.1
  have h99 : K 108 0 ≤ 99 := by rw [e8]; exact h.1.2.2.2
  have h27 : -2147483648 ≤ K 107 27 ∧ K 107 27 < 2147483648 := by rw [hK 107 27 (by omega) (by omega)]; exact h.2.2.2.2.2.1
  refine (r_at d h1 h2 hok).imp ?_
  intro r e
  rw [e8] at e
  exact ⟨K, J, e, y_m0 h hK⟩
theorem x_told {X : Nat × (Nat → Int)} {D : List (Nat × Nat)} {I J : Nat → Nat → Int} {ρ : Nat → Nat → Option Nat} {n : Nat} (d : Nat) (h : y_iv n D I ρ) (hn : n ≤ 64) {a1 : Int} (h1 : -2147483648 ≤ a1 ∧ a1 < 2147483648) : am_E X d 95 0 [(0, .inr (.inr (.inl (some 0)))), (1, .inl a1)] [] (am_mm D I J ρ) (fun r => ∃ K1 J1 ρ1, r = (some (.inl (sp_told (I 108) a1)), am_mm D K1 J1 ρ1) ∧ y_x I ρ D K1 ρ1 (I 108) (I 109) (I 107 4) (I 107 32) (I 123)) := by
  have hok := h.1.1
  have hwf := h.1.2.1
  have hh := h.2.2.2.2.2.2.1.1
  have h99 := h.1.2.2.2
  refine (c_told d hok hwf hh h1).imp ?_
  intro r e
  exact ⟨I, J, ρ, e, y_x0 h⟩
theorem m_told {X : Nat × (Nat → Int)} {D D1 : List (Nat × Nat)} {I K J : Nat → Nat → Int} {ρ ρ1 : Nat → Nat → Option Nat} {n : Nat} (d : Nat) (h : y_iv n D I ρ) (hn : n ≤ 64) (hK : ∀ c i, 107 ≤ c → c < 124 → K c i = I c i) {a1 : Int} (h1 : -2147483648 ≤ a1 ∧ a1 < 2147483648) : am_E X (d + 2) 156 0 [(0, .inr (.inr (.inl (some 107)))), (1, .inl a1)] [] (am_mm D1 K J ρ1) (fun r => ∃ K2 J2, r = (some (.inl (sp_told (I 108) a1)), am_mm D1 K2 J2 ρ1) ∧ y_m K K2 (I 108) (I 109) (I 107 4) (I 107 32) (I 123)) := by
  have e8 : K 108 = I 108 := y_row hK (by omega) (by omega)
  have hok : r_ok (K 108) (80050 * (n : Int)) := by rw [e8]; exact h.1.1
  have hwf : sp_wfS (K 108) := by rw [e8]; exact h.1.2.1
  have h99 : K 108 0 ≤ 99 := by rw [e8]; exact h.1.2.2.2
  have h27 : -2147483648 ≤ K 107 27 ∧ K 107 27 < 2147483648 := by rw [hK 107 27 (by omega) (by omega)]; exact h.2.2.2.2.2.1
  refine (r_told d h1 hok).imp ?_
  intro r e
  rw [e8] at e
  exact ⟨K, J, e, y_m0 h hK⟩
theorem x_as {X : Nat × (Nat → Int)} {D : List (Nat × Nat)} {I J : Nat → Nat → Int} {ρ : Nat → Nat → Option Nat} {n : Nat} (d : Nat) (h : y_iv n D I ρ) (hn : n ≤ 64) {a1 a2 : Int} (h1 : -2147483648 ≤ a1 ∧ a1 < 2147483648) (h2 : -2147483648 ≤ a2 ∧ a2 < 2147483648) : am_E X (d + 1) 118 0 [(0, .inr (.inr (.inl (some 0)))), (1, .inl a1), (2, .inl a2)] [] (am_mm D I J ρ) (fun r => ∃ K1 J1 ρ1, r = (some (.inl (sp_as (I 108) a1 a2)), am_mm D K1 J1 ρ1) ∧ y_x I ρ D K1 ρ1 (I 108) (I 109) (I 107 4) (I 107 32) (I 123)) := by
  have hok := h.1.1
  have hwf := h.1.2.1
  have hh := h.2.2.2.2.2.2.1.1
  have h99 := h.1.2.2.2
  refine (c_as d hok hwf hh h1 h2).imp ?_
  intro r e
  exact ⟨I, J, ρ, e, y_x0 h⟩
theorem m_as {X : Nat × (Nat → Int)} {D D1 : List (Nat × Nat)} {I K J : Nat → Nat → Int} {ρ ρ1 : Nat → Nat → Option Nat} {n : Nat} (d : Nat) (h : y_iv n D I ρ) (hn : n ≤ 64) (hK : ∀ c i, 107 ≤ c → c < 124 → K c i = I c i) {a1 a2 : Int} (h1 : -2147483648 ≤ a1 ∧ a1 < 2147483648) (h2 : -2147483648 ≤ a2 ∧ a2 < 2147483648) : am_E X (d + 2) 213 0 [(0, .inr (.inr (.inl (some 107)))), (1, .inl a1), (2, .inl a2)] [] (am_mm D1 K J ρ1) (fun r => ∃ K2 J2, r = (some (.inl (sp_as (I 108) a1 a2)), am_mm D1 K2 J2 ρ1) ∧ y_m K K2 (I 108) (I 109) (I 107 4) (I 107 32) (I 123)) := by
  have e8 : K 108 = I 108 := y_row hK (by omega) (by omega)
  have hok : r_ok (K 108) (80050 * (n : Int)) := by rw [e8]; exact h.1.1
  have hwf : sp_wfS (K 108) := by rw [e8]; exact h.1.2.1
  have h99 : K 108 0 ≤ 99 := by rw [e8]; exact h.1.2.2.2
  have h27 : -2147483648 ≤ K 107 27 ∧ K 107 27 < 2147483648 := by rw [hK 107 27 (by omega) (by omega)]; exact h.2.2.2.2.2.1
  refine (r_as d h1 h2 hok (fun g1 g2 => by have := hok.2.2.2.2.2.2.2.2.2.2.1 a1.toNat (by omega); rw [show (26 + a1).toNat = 26 + a1.toNat by omega]; exact this)).imp ?_
  intro r e
  rw [e8] at e
  exact ⟨K, J, e, y_m0 h hK⟩
theorem x_like {X : Nat × (Nat → Int)} {D : List (Nat × Nat)} {I J : Nat → Nat → Int} {ρ : Nat → Nat → Option Nat} {n : Nat} (d : Nat) (h : y_iv n D I ρ) (hn : n ≤ 64) {a1 a2 : Int} (h1 : -2147483648 ≤ a1 ∧ a1 < 2147483648) (h2 : -2147483648 ≤ a2 ∧ a2 < 2147483648) : am_E X (d + 1) 97 0 [(0, .inr (.inr (.inl (some 0)))), (1, .inl a1), (2, .inl a2)] [] (am_mm D I J ρ) (fun r => ∃ K1 J1 ρ1, r = (some (.inl (sp_likeM (I 108) a1 a2)), am_mm D K1 J1 ρ1) ∧ y_x I ρ D K1 ρ1 (I 108) (I 109) (I 107 4) (I 107 32) (I 123)) := by
  have hok := h.1.1
  have hwf := h.1.2.1
  have hh := h.2.2.2.2.2.2.1.1
  have h99 := h.1.2.2.2
  refine (c_like d hok hwf hh h1 h2).imp ?_
  intro r e
  exact ⟨I, J, ρ, e, y_x0 h⟩
theorem m_like {X : Nat × (Nat → Int)} {D D1 : List (Nat × Nat)} {I K J : Nat → Nat → Int} {ρ ρ1 : Nat → Nat → Option Nat} {n : Nat} (d : Nat) (h : y_iv n D I ρ) (hn : n ≤ 64) (hK : ∀ c i, 107 ≤ c → c < 124 → K c i = I c i) {a1 a2 : Int} (h1 : -2147483648 ≤ a1 ∧ a1 < 2147483648) (h2 : -2147483648 ≤ a2 ∧ a2 < 2147483648) : am_E X (d + 2) 160 0 [(0, .inr (.inr (.inl (some 107)))), (1, .inl a1), (2, .inl a2)] [] (am_mm D1 K J ρ1) (fun r => ∃ K2 J2, r = (some (.inl (sp_likeM (I 108) a1 a2)), am_mm D1 K2 J2 ρ1) ∧ y_m K K2 (I 108) (I 109) (I 107 4) (I 107 32) (I 123)) := by
  have e8 : K 108 = I 108 := y_row hK (by omega) (by omega)
  have hok : r_ok (K 108) (80050 * (n : Int)) := by rw [e8]; exact h.1.1
  have hwf : sp_wfS (K 108) := by rw [e8]; exact h.1.2.1
  have h99 : K 108 0 ≤ 99 := by rw [e8]; exact h.1.2.2.2
  have h27 : -2147483648 ≤ K 107 27 ∧ K 107 27 < 2147483648 := by rw [hK 107 27 (by omega) (by omega)]; exact h.2.2.2.2.2.1
  refine (r_like d h1 h2 hok hwf).imp ?_
  rintro r ⟨Q, e⟩
  rw [e8] at e
  exact ⟨_, J, e, y_mt (I := I) hK tL_fx (fun _ => rfl) (fun _ => rfl) (fun _ => rfl) rfl rfl (by rw [show am_wp tL K Q 107 27 = K 107 27 from am_wp_off rfl]; exact h27)⟩
theorem x_reads {X : Nat × (Nat → Int)} {D : List (Nat × Nat)} {I J : Nat → Nat → Int} {ρ : Nat → Nat → Option Nat} {n : Nat} (d : Nat) (h : y_iv n D I ρ) (hn : n ≤ 64) {a1 a2 : Int} (h1 : -2147483648 ≤ a1 ∧ a1 < 2147483648) (h2 : -2147483648 ≤ a2 ∧ a2 < 2147483648) : am_E X (d + 1) 102 0 [(0, .inr (.inr (.inl (some 0)))), (1, .inl a1), (2, .inl a2)] [] (am_mm D I J ρ) (fun r => ∃ K1 J1 ρ1, r = (some (.inl (sp_readsM (I 108) a1 a2)), am_mm D K1 J1 ρ1) ∧ y_x I ρ D K1 ρ1 (I 108) (I 109) (I 107 4) (I 107 32) (I 123)) := by
  have hok := h.1.1
  have hwf := h.1.2.1
  have hh := h.2.2.2.2.2.2.1.1
  have h99 := h.1.2.2.2
  refine (c_reads d hok hwf hh h1 h2).imp ?_
  intro r e
  exact ⟨I, J, ρ, e, y_x0 h⟩
theorem m_reads {X : Nat × (Nat → Int)} {D D1 : List (Nat × Nat)} {I K J : Nat → Nat → Int} {ρ ρ1 : Nat → Nat → Option Nat} {n : Nat} (d : Nat) (h : y_iv n D I ρ) (hn : n ≤ 64) (hK : ∀ c i, 107 ≤ c → c < 124 → K c i = I c i) {a1 a2 : Int} (h1 : -2147483648 ≤ a1 ∧ a1 < 2147483648) (h2 : -2147483648 ≤ a2 ∧ a2 < 2147483648) : am_E X (d + 3) 185 0 [(0, .inr (.inr (.inl (some 107)))), (1, .inl a1), (2, .inl a2)] [] (am_mm D1 K J ρ1) (fun r => ∃ K2 J2, r = (some (.inl (sp_readsM (I 108) a1 a2)), am_mm D1 K2 J2 ρ1) ∧ y_m K K2 (I 108) (I 109) (I 107 4) (I 107 32) (I 123)) := by
  have e8 : K 108 = I 108 := y_row hK (by omega) (by omega)
  have hok : r_ok (K 108) (80050 * (n : Int)) := by rw [e8]; exact h.1.1
  have hwf : sp_wfS (K 108) := by rw [e8]; exact h.1.2.1
  have h99 : K 108 0 ≤ 99 := by rw [e8]; exact h.1.2.2.2
  have h27 : -2147483648 ≤ K 107 27 ∧ K 107 27 < 2147483648 := by rw [hK 107 27 (by omega) (by omega)]; exact h.2.2.2.2.2.1
  refine (r_reads d h1 h2 hok hwf).imp ?_
  rintro r ⟨Q, e⟩
  rw [e8] at e
  exact ⟨_, J, e, y_mt (I := I) hK tL_fx (fun _ => rfl) (fun _ => rfl) (fun _ => rfl) rfl rfl (by rw [show am_wp tL K Q 107 27 = K 107 27 from am_wp_off rfl]; exact h27)⟩
theorem x_comes {X : Nat × (Nat → Int)} {D : List (Nat × Nat)} {I J : Nat → Nat → Int} {ρ : Nat → Nat → Option Nat} {n : Nat} (d : Nat) (h : y_iv n D I ρ) (hn : n ≤ 64) {a1 a2 : Int} (h1 : -2147483648 ≤ a1 ∧ a1 < 2147483648) (h2 : -2147483648 ≤ a2 ∧ a2 < 2147483648) : am_E X (d + 2) 103 0 [(0, .inr (.inr (.inl (some 0)))), (1, .inl a1), (2, .inl a2)] [] (am_mm D I J ρ) (fun r => ∃ K1 J1 ρ1, r = (some (.inl (sp_comesM (I 108) a1 a2)), am_mm D K1 J1 ρ1) ∧ y_x I ρ D K1 ρ1 (I 108) (I 109) (I 107 4) (I 107 32) (I 123)) := by
  have hok := h.1.1
  have hwf := h.1.2.1
  have hh := h.2.2.2.2.2.2.1.1
  have h99 := h.1.2.2.2
  refine (c_comes d hok hwf hh h1 h2).imp ?_
  intro r e
  exact ⟨I, J, ρ, e, y_x0 h⟩
theorem m_comes {X : Nat × (Nat → Int)} {D D1 : List (Nat × Nat)} {I K J : Nat → Nat → Int} {ρ ρ1 : Nat → Nat → Option Nat} {n : Nat} (d : Nat) (h : y_iv n D I ρ) (hn : n ≤ 64) (hK : ∀ c i, 107 ≤ c → c < 124 → K c i = I c i) {a1 a2 : Int} (h1 : -2147483648 ≤ a1 ∧ a1 < 2147483648) (h2 : -2147483648 ≤ a2 ∧ a2 < 2147483648) : am_E X (d + 4) 187 0 [(0, .inr (.inr (.inl (some 107)))), (1, .inl a1), (2, .inl a2)] [] (am_mm D1 K J ρ1) (fun r => ∃ K2 J2, r = (some (.inl (sp_comesM (I 108) a1 a2)), am_mm D1 K2 J2 ρ1) ∧ y_m K K2 (I 108) (I 109) (I 107 4) (I 107 32) (I 123)) := by
  have e8 : K 108 = I 108 := y_row hK (by omega) (by omega)
  have hok : r_ok (K 108) (80050 * (n : Int)) := by rw [e8]; exact h.1.1
  have hwf : sp_wfS (K 108) := by rw [e8]; exact h.1.2.1
  have h99 : K 108 0 ≤ 99 := by rw [e8]; exact h.1.2.2.2
  have h27 : -2147483648 ≤ K 107 27 ∧ K 107 27 < 2147483648 := by rw [hK 107 27 (by omega) (by omega)]; exact h.2.2.2.2.2.1
  refine (r_comes d h1 h2 hok hwf).imp ?_
  rintro r ⟨Q, e⟩
  rw [e8] at e
  exact ⟨_, J, e, y_mt (I := I) hK tL_fx (fun _ => rfl) (fun _ => rfl) (fun _ => rfl) rfl rfl (by rw [show am_wp tL K Q 107 27 = K 107 27 from am_wp_off rfl]; exact h27)⟩
theorem x_count {X : Nat × (Nat → Int)} {D : List (Nat × Nat)} {I J : Nat → Nat → Int} {ρ : Nat → Nat → Option Nat} {n : Nat} (d : Nat) (h : y_iv n D I ρ) (hn : n ≤ 64) {a1 : Int} (h1 : -2147483648 ≤ a1 ∧ a1 < 2147483648) : am_E X d 121 0 [(0, .inr (.inr (.inl (some 0)))), (1, .inl a1)] [] (am_mm D I J ρ) (fun r => ∃ K1 J1 ρ1, r = (some (.inl (sp_count (I 108) (I 107 32) a1)), am_mm D K1 J1 ρ1) ∧ y_x I ρ D K1 ρ1 (I 108) (I 109) (I 107 4) (I 107 32) (I 123)) := by
  have hok := h.1.1
  have hwf := h.1.2.1
  have hh := h.2.2.2.2.2.2.1.1
  have h99 := h.1.2.2.2
  refine (c_count d hok hwf hh h1).imp ?_
  intro r e
  rw [h.2.2.2.2.2.2.1.2.2.1.1] at e
  exact ⟨I, J, ρ, e, y_x0 h⟩
theorem m_count {X : Nat × (Nat → Int)} {D D1 : List (Nat × Nat)} {I K J : Nat → Nat → Int} {ρ ρ1 : Nat → Nat → Option Nat} {n : Nat} (d : Nat) (h : y_iv n D I ρ) (hn : n ≤ 64) (hK : ∀ c i, 107 ≤ c → c < 124 → K c i = I c i) {a1 : Int} (h1 : -2147483648 ≤ a1 ∧ a1 < 2147483648) : am_E X d 216 0 [(0, .inr (.inr (.inl (some 107)))), (1, .inl a1)] [] (am_mm D1 K J ρ1) (fun r => ∃ K2 J2, r = (some (.inl (sp_count (I 108) (I 107 32) a1)), am_mm D1 K2 J2 ρ1) ∧ y_m K K2 (I 108) (I 109) (I 107 4) (I 107 32) (I 123)) := by
  have e8 : K 108 = I 108 := y_row hK (by omega) (by omega)
  have hok : r_ok (K 108) (80050 * (n : Int)) := by rw [e8]; exact h.1.1
  have hwf : sp_wfS (K 108) := by rw [e8]; exact h.1.2.1
  have h99 : K 108 0 ≤ 99 := by rw [e8]; exact h.1.2.2.2
  have h27 : -2147483648 ≤ K 107 27 ∧ K 107 27 < 2147483648 := by rw [hK 107 27 (by omega) (by omega)]; exact h.2.2.2.2.2.1
  refine (r_count d h1 hok).imp ?_
  intro r e
  rw [e8, hK 107 32 (by omega) (by omega)] at e
  exact ⟨K, J, e, y_m0 h hK⟩
theorem x_trace {X : Nat × (Nat → Int)} {D : List (Nat × Nat)} {I J : Nat → Nat → Int} {ρ : Nat → Nat → Option Nat} {n : Nat} (d : Nat) (h : y_iv n D I ρ) (hn : n ≤ 64) {a1 : Int} (h1 : -2147483648 ≤ a1 ∧ a1 < 2147483648) : am_E X d 117 0 [(0, .inr (.inr (.inl (some 0)))), (1, .inl a1)] [] (am_mm D I J ρ) (fun r => ∃ K1 J1 ρ1, r = (some (.inl (sp_trace (I 107 32) (I 123) a1)), am_mm D K1 J1 ρ1) ∧ y_x I ρ D K1 ρ1 (I 108) (I 109) (I 107 4) (I 107 32) (I 123)) := by
  have hok := h.1.1
  have hwf := h.1.2.1
  have hh := h.2.2.2.2.2.2.1.1
  have h99 := h.1.2.2.2
  refine (c_trace d h1 h.2.2.2.2.1 h.2.2.2.2.2.2.1.2.2.1.1 h.2.2.2.2.2.2.1.2.2.1.2).imp ?_
  intro r e
  exact ⟨I, J, ρ, e, y_x0 h⟩
theorem m_trace {X : Nat × (Nat → Int)} {D D1 : List (Nat × Nat)} {I K J : Nat → Nat → Int} {ρ ρ1 : Nat → Nat → Option Nat} {n : Nat} (d : Nat) (h : y_iv n D I ρ) (hn : n ≤ 64) (hK : ∀ c i, 107 ≤ c → c < 124 → K c i = I c i) {a1 : Int} (h1 : -2147483648 ≤ a1 ∧ a1 < 2147483648) : am_E X (d + 1) 212 0 [(0, .inr (.inr (.inl (some 107)))), (1, .inl a1)] [] (am_mm D1 K J ρ1) (fun r => ∃ K2 J2, r = (some (.inl (sp_trace (I 107 32) (I 123) a1)), am_mm D1 K2 J2 ρ1) ∧ y_m K K2 (I 108) (I 109) (I 107 4) (I 107 32) (I 123)) := by
  have e8 : K 108 = I 108 := y_row hK (by omega) (by omega)
  have hok : r_ok (K 108) (80050 * (n : Int)) := by rw [e8]; exact h.1.1
  have hwf : sp_wfS (K 108) := by rw [e8]; exact h.1.2.1
  have h99 : K 108 0 ≤ 99 := by rw [e8]; exact h.1.2.2.2
  have h27 : -2147483648 ≤ K 107 27 ∧ K 107 27 < 2147483648 := by rw [hK 107 27 (by omega) (by omega)]; exact h.2.2.2.2.2.1
  refine (r_trace d h1 (by rw [hK 107 32 (by omega) (by omega)]; have := h.2.2.2.2.1; omega)).imp ?_
  intro r e
  rw [hK 107 32 (by omega) (by omega), y_row hK (c := 123) (by omega) (by omega)] at e
  exact ⟨K, J, e, y_m0 h hK⟩
theorem x_order {X : Nat × (Nat → Int)} {D : List (Nat × Nat)} {I J : Nat → Nat → Int} {ρ : Nat → Nat → Option Nat} {n : Nat} (d : Nat) (h : y_iv n D I ρ) (hn : n ≤ 64) {a1 a2 a3 : Int} (h1 : -2147483648 ≤ a1 ∧ a1 < 2147483648) (h2 : -2147483648 ≤ a2 ∧ a2 < 2147483648) (h3 : -2147483648 ≤ a3 ∧ a3 < 2147483648) : am_E X (d + 5) 98 0 [(0, .inr (.inr (.inl (some 0)))), (1, .inl a1), (2, .inl a2), (3, .inl a3)] [] (am_mm D I J ρ) (fun r => ∃ K1 J1 ρ1, r = (some (.inl (sp_order (I 108) a1 a2 a3)), am_mm D K1 J1 ρ1) ∧ y_x I ρ D K1 ρ1 (I 108) (I 109) (I 107 4) (I 107 32) (I 123)) := by
  have hok := h.1.1
  have hwf := h.1.2.1
  have hh := h.2.2.2.2.2.2.1.1
  have h99 := h.1.2.2.2
  refine (c_order d hok hwf hh h1 h2 h3).imp ?_
  rintro r ⟨Q, ρ2, e, hr⟩
  exact ⟨_, J, ρ2, e, y_xZ h hr⟩
theorem m_order {X : Nat × (Nat → Int)} {D D1 : List (Nat × Nat)} {I K J : Nat → Nat → Int} {ρ ρ1 : Nat → Nat → Option Nat} {n : Nat} (d : Nat) (h : y_iv n D I ρ) (hn : n ≤ 64) (hK : ∀ c i, 107 ≤ c → c < 124 → K c i = I c i) {a1 a2 a3 : Int} (h1 : -2147483648 ≤ a1 ∧ a1 < 2147483648) (h2 : -2147483648 ≤ a2 ∧ a2 < 2147483648) (h3 : -2147483648 ≤ a3 ∧ a3 < 2147483648) : am_E X (d + 4) 168 0 [(0, .inr (.inr (.inl (some 107)))), (1, .inl a1), (2, .inl a2), (3, .inl a3)] [] (am_mm D1 K J ρ1) (fun r => ∃ K2 J2, r = (some (.inl (sp_order (I 108) a1 a2 a3)), am_mm D1 K2 J2 ρ1) ∧ y_m K K2 (I 108) (I 109) (I 107 4) (I 107 32) (I 123)) := by
  have e8 : K 108 = I 108 := y_row hK (by omega) (by omega)
  have hok : r_ok (K 108) (80050 * (n : Int)) := by rw [e8]; exact h.1.1
  have hwf : sp_wfS (K 108) := by rw [e8]; exact h.1.2.1
  have h99 : K 108 0 ≤ 99 := by rw [e8]; exact h.1.2.2.2
  have h27 : -2147483648 ≤ K 107 27 ∧ K 107 27 < 2147483648 := by rw [hK 107 27 (by omega) (by omega)]; exact h.2.2.2.2.2.1
  refine (r_order d h1 h2 h3 hok hwf).imp ?_
  rintro r ⟨Q, e⟩
  rw [e8] at e
  exact ⟨_, J, e, y_mt (I := I) hK tA_fx (fun _ => rfl) (fun _ => rfl) (fun _ => rfl) rfl rfl (by rw [show am_wp tA K Q 107 27 = K 107 27 from am_wp_off rfl]; exact h27)⟩
theorem x_chosen {X : Nat × (Nat → Int)} {D : List (Nat × Nat)} {I J : Nat → Nat → Int} {ρ : Nat → Nat → Option Nat} {n : Nat} (d : Nat) (h : y_iv n D I ρ) (hn : n ≤ 64) {a1 a2 : Int} (h1 : -2147483648 ≤ a1 ∧ a1 < 2147483648) (h2 : -2147483648 ≤ a2 ∧ a2 < 2147483648) : am_E X (d + 5) 99 0 [(0, .inr (.inr (.inl (some 0)))), (1, .inl a1), (2, .inl a2)] [] (am_mm D I J ρ) (fun r => ∃ K1 J1 ρ1, r = (some (.inl (sp_chosen (I 108) a1 a2)), am_mm D K1 J1 ρ1) ∧ y_x I ρ D K1 ρ1 (I 108) (I 109) (I 107 4) (I 107 32) (I 123)) := by
  have hok := h.1.1
  have hwf := h.1.2.1
  have hh := h.2.2.2.2.2.2.1.1
  have h99 := h.1.2.2.2
  refine (c_chosen d hok hwf hh h1 h2).imp ?_
  rintro r ⟨Q, ρ2, e, hr⟩
  exact ⟨_, J, ρ2, e, y_xZ h hr⟩
theorem m_chosen {X : Nat × (Nat → Int)} {D D1 : List (Nat × Nat)} {I K J : Nat → Nat → Int} {ρ ρ1 : Nat → Nat → Option Nat} {n : Nat} (d : Nat) (h : y_iv n D I ρ) (hn : n ≤ 64) (hK : ∀ c i, 107 ≤ c → c < 124 → K c i = I c i) {a1 a2 : Int} (h1 : -2147483648 ≤ a1 ∧ a1 < 2147483648) (h2 : -2147483648 ≤ a2 ∧ a2 < 2147483648) : am_E X (d + 6) 179 0 [(0, .inr (.inr (.inl (some 107)))), (1, .inl a1), (2, .inl a2)] [] (am_mm D1 K J ρ1) (fun r => ∃ K2 J2, r = (some (.inl (sp_chosen (I 108) a1 a2)), am_mm D1 K2 J2 ρ1) ∧ y_m K K2 (I 108) (I 109) (I 107 4) (I 107 32) (I 123)) := by
  have e8 : K 108 = I 108 := y_row hK (by omega) (by omega)
  have hok : r_ok (K 108) (80050 * (n : Int)) := by rw [e8]; exact h.1.1
  have hwf : sp_wfS (K 108) := by rw [e8]; exact h.1.2.1
  have h99 : K 108 0 ≤ 99 := by rw [e8]; exact h.1.2.2.2
  have h27 : -2147483648 ≤ K 107 27 ∧ K 107 27 < 2147483648 := by rw [hK 107 27 (by omega) (by omega)]; exact h.2.2.2.2.2.1
  refine (r_chosen d h1 h2 hok hwf).imp ?_
  rintro r ⟨Q, e⟩
  rw [e8] at e
  exact ⟨_, J, e, y_mt (I := I) hK tA_fx (fun _ => rfl) (fun _ => rfl) (fun _ => rfl) rfl rfl (by rw [show am_wp tA K Q 107 27 = K 107 27 from am_wp_off rfl]; exact h27)⟩
theorem x_gain {X : Nat × (Nat → Int)} {D : List (Nat × Nat)} {I J : Nat → Nat → Int} {ρ : Nat → Nat → Option Nat} {n : Nat} (d : Nat) (h : y_iv n D I ρ) (hn : n ≤ 64) {a1 a2 : Int} (h1 : -2147483648 ≤ a1 ∧ a1 < 2147483648) (h2 : -2147483648 ≤ a2 ∧ a2 < 2147483648) : am_E X (d + 6) 101 0 [(0, .inr (.inr (.inl (some 0)))), (1, .inl a1), (2, .inl a2)] [] (am_mm D I J ρ) (fun r => ∃ K1 J1 ρ1, r = (some (.inl (sp_gain (I 108) a1 a2)), am_mm D K1 J1 ρ1) ∧ y_x I ρ D K1 ρ1 (I 108) (I 109) (I 107 4) (I 107 32) (I 123)) := by
  have hok := h.1.1
  have hwf := h.1.2.1
  have hh := h.2.2.2.2.2.2.1.1
  have h99 := h.1.2.2.2
  refine (c_gain d hok hwf hh h1 h2).imp ?_
  rintro r ⟨Q, ρ2, e, hr⟩
  exact ⟨_, J, ρ2, e, y_xZ h hr⟩
theorem m_gain {X : Nat × (Nat → Int)} {D D1 : List (Nat × Nat)} {I K J : Nat → Nat → Int} {ρ ρ1 : Nat → Nat → Option Nat} {n : Nat} (d : Nat) (h : y_iv n D I ρ) (hn : n ≤ 64) (hK : ∀ c i, 107 ≤ c → c < 124 → K c i = I c i) {a1 a2 : Int} (h1 : -2147483648 ≤ a1 ∧ a1 < 2147483648) (h2 : -2147483648 ≤ a2 ∧ a2 < 2147483648) : am_E X (d + 13) 183 0 [(0, .inr (.inr (.inl (some 107)))), (1, .inl a1), (2, .inl a2)] [] (am_mm D1 K J ρ1) (fun r => ∃ K2 J2, r = (some (.inl (sp_gain (I 108) a1 a2)), am_mm D1 K2 J2 ρ1) ∧ y_m K K2 (I 108) (I 109) (I 107 4) (I 107 32) (I 123)) := by
  have e8 : K 108 = I 108 := y_row hK (by omega) (by omega)
  have hok : r_ok (K 108) (80050 * (n : Int)) := by rw [e8]; exact h.1.1
  have hwf : sp_wfS (K 108) := by rw [e8]; exact h.1.2.1
  have h99 : K 108 0 ≤ 99 := by rw [e8]; exact h.1.2.2.2
  have h27 : -2147483648 ≤ K 107 27 ∧ K 107 27 < 2147483648 := by rw [hK 107 27 (by omega) (by omega)]; exact h.2.2.2.2.2.1
  refine (r_gain d h1 h2 hok hwf).imp ?_
  rintro r ⟨Q, e⟩
  rw [e8] at e
  exact ⟨_, J, e, y_mt (I := I) hK tB_fx (fun _ => rfl) (fun _ => rfl) (fun _ => rfl) rfl rfl (by rw [show am_wp tB K Q 107 27 = K 107 27 from am_wp_off rfl]; exact h27)⟩
theorem x_alone {X : Nat × (Nat → Int)} {D : List (Nat × Nat)} {I J : Nat → Nat → Int} {ρ : Nat → Nat → Option Nat} {n : Nat} (d : Nat) (h : y_iv n D I ρ) (hn : n ≤ 64) {a1 : Int} (h1 : -2147483648 ≤ a1 ∧ a1 < 2147483648) : am_E X (d + 6) 100 0 [(0, .inr (.inr (.inl (some 0)))), (1, .inl a1)] [] (am_mm D I J ρ) (fun r => ∃ K1 J1 ρ1, r = (some (.inl (sp_alone (I 108) a1)), am_mm D K1 J1 ρ1) ∧ y_x I ρ D K1 ρ1 (I 108) (I 109) (I 107 4) (I 107 32) (I 123)) := by
  have hok := h.1.1
  have hwf := h.1.2.1
  have hh := h.2.2.2.2.2.2.1.1
  have h99 := h.1.2.2.2
  refine (c_alone d hok hwf hh h1).imp ?_
  rintro r ⟨Q, ρ2, e, hr⟩
  exact ⟨_, J, ρ2, e, y_xZ h hr⟩
theorem m_alone {X : Nat × (Nat → Int)} {D D1 : List (Nat × Nat)} {I K J : Nat → Nat → Int} {ρ ρ1 : Nat → Nat → Option Nat} {n : Nat} (d : Nat) (h : y_iv n D I ρ) (hn : n ≤ 64) (hK : ∀ c i, 107 ≤ c → c < 124 → K c i = I c i) {a1 : Int} (h1 : -2147483648 ≤ a1 ∧ a1 < 2147483648) : am_E X (d + 13) 182 0 [(0, .inr (.inr (.inl (some 107)))), (1, .inl a1)] [] (am_mm D1 K J ρ1) (fun r => ∃ K2 J2, r = (some (.inl (sp_alone (I 108) a1)), am_mm D1 K2 J2 ρ1) ∧ y_m K K2 (I 108) (I 109) (I 107 4) (I 107 32) (I 123)) := by
  have e8 : K 108 = I 108 := y_row hK (by omega) (by omega)
  have hok : r_ok (K 108) (80050 * (n : Int)) := by rw [e8]; exact h.1.1
  have hwf : sp_wfS (K 108) := by rw [e8]; exact h.1.2.1
  have h99 : K 108 0 ≤ 99 := by rw [e8]; exact h.1.2.2.2
  have h27 : -2147483648 ≤ K 107 27 ∧ K 107 27 < 2147483648 := by rw [hK 107 27 (by omega) (by omega)]; exact h.2.2.2.2.2.1
  refine (r_alone d h1 hok hwf).imp ?_
  rintro r ⟨Q, e⟩
  rw [e8] at e
  exact ⟨_, J, e, y_mt (I := I) hK tB_fx (fun _ => rfl) (fun _ => rfl) (fun _ => rfl) rfl rfl (by rw [show am_wp tB K Q 107 27 = K 107 27 from am_wp_off rfl]; exact h27)⟩
theorem x_looked {X : Nat × (Nat → Int)} {D : List (Nat × Nat)} {I J : Nat → Nat → Int} {ρ : Nat → Nat → Option Nat} {n : Nat} (d : Nat) (h : y_iv n D I ρ) (hn : n ≤ 64)  : am_E X (d + 5) 115 0 [(0, .inr (.inr (.inl (some 0))))] [] (am_mm D I J ρ) (fun r => ∃ K1 J1 ρ1, r = (some (.inl (sp_looked (I 108))), am_mm D K1 J1 ρ1) ∧ y_x I ρ D K1 ρ1 (I 108) (I 109) (I 107 4) (I 107 32) (I 123)) := by
  have hok := h.1.1
  have hwf := h.1.2.1
  have hh := h.2.2.2.2.2.2.1.1
  have h99 := h.1.2.2.2
  refine (c_looked d hok hwf hh ).imp ?_
  rintro r ⟨Q, ρ2, e, hr⟩
  exact ⟨_, J, ρ2, e, y_xZ h hr⟩
theorem m_looked {X : Nat × (Nat → Int)} {D D1 : List (Nat × Nat)} {I K J : Nat → Nat → Int} {ρ ρ1 : Nat → Nat → Option Nat} {n : Nat} (d : Nat) (h : y_iv n D I ρ) (hn : n ≤ 64) (hK : ∀ c i, 107 ≤ c → c < 124 → K c i = I c i)  : am_E X (d + 4) 202 0 [(0, .inr (.inr (.inl (some 107))))] [] (am_mm D1 K J ρ1) (fun r => ∃ K2 J2, r = (some (.inl (sp_looked (I 108))), am_mm D1 K2 J2 ρ1) ∧ y_m K K2 (I 108) (I 109) (I 107 4) (I 107 32) (I 123)) := by
  have e8 : K 108 = I 108 := y_row hK (by omega) (by omega)
  have hok : r_ok (K 108) (80050 * (n : Int)) := by rw [e8]; exact h.1.1
  have hwf : sp_wfS (K 108) := by rw [e8]; exact h.1.2.1
  have h99 : K 108 0 ≤ 99 := by rw [e8]; exact h.1.2.2.2
  have h27 : -2147483648 ≤ K 107 27 ∧ K 107 27 < 2147483648 := by rw [hK 107 27 (by omega) (by omega)]; exact h.2.2.2.2.2.1
  refine (r_looked d  hok hwf).imp ?_
  rintro r ⟨Q, e⟩
  rw [e8] at e
  exact ⟨_, J, e, y_mt (I := I) hK tA_fx (fun _ => rfl) (fun _ => rfl) (fun _ => rfl) rfl rfl (by rw [show am_wp tA K Q 107 27 = K 107 27 from am_wp_off rfl]; exact h27)⟩
theorem x_run {X : Nat × (Nat → Int)} {D : List (Nat × Nat)} {I J : Nat → Nat → Int} {ρ : Nat → Nat → Option Nat} {n : Nat} (d : Nat) (h : y_iv n D I ρ) (hn : n ≤ 64) {a1 a2 a3 : Int} (h1 : -2147483648 ≤ a1 ∧ a1 < 2147483648) (h2 : -2147483648 ≤ a2 ∧ a2 < 2147483648) (h3 : -2147483648 ≤ a3 ∧ a3 < 2147483648) : am_E X (d + 6) 109 0 [(0, .inr (.inr (.inl (some 0)))), (1, .inl a1), (2, .inl a2), (3, .inl a3)] [] (am_mm D I J ρ) (fun r => ∃ K1 J1 ρ1, r = (some (.inl (sp_run (I 108) a1 a2 a3)), am_mm D K1 J1 ρ1) ∧ y_x I ρ D K1 ρ1 (I 108) (I 109) (I 107 4) (I 107 32) (I 123)) := by
  have hok := h.1.1
  have hwf := h.1.2.1
  have hh := h.2.2.2.2.2.2.1.1
  have h99 := h.1.2.2.2
  refine (c_run d hok hwf hh h1 h2 h3 (by omega) (by omega)).imp ?_
  rintro r ⟨Q, ρ2, e, hr⟩
  exact ⟨_, J, ρ2, e, y_xZ h hr⟩
theorem m_run {X : Nat × (Nat → Int)} {D D1 : List (Nat × Nat)} {I K J : Nat → Nat → Int} {ρ ρ1 : Nat → Nat → Option Nat} {n : Nat} (d : Nat) (h : y_iv n D I ρ) (hn : n ≤ 64) (hK : ∀ c i, 107 ≤ c → c < 124 → K c i = I c i) {a1 a2 a3 : Int} (h1 : -2147483648 ≤ a1 ∧ a1 < 2147483648) (h2 : -2147483648 ≤ a2 ∧ a2 < 2147483648) (h3 : -2147483648 ≤ a3 ∧ a3 < 2147483648) : am_E X (d + 7) 195 0 [(0, .inr (.inr (.inl (some 107)))), (1, .inl a1), (2, .inl a2), (3, .inl a3)] [] (am_mm D1 K J ρ1) (fun r => ∃ K2 J2, r = (some (.inl (sp_run (I 108) a1 a2 a3)), am_mm D1 K2 J2 ρ1) ∧ y_m K K2 (I 108) (I 109) (I 107 4) (I 107 32) (I 123)) := by
  have e8 : K 108 = I 108 := y_row hK (by omega) (by omega)
  have hok : r_ok (K 108) (80050 * (n : Int)) := by rw [e8]; exact h.1.1
  have hwf : sp_wfS (K 108) := by rw [e8]; exact h.1.2.1
  have h99 : K 108 0 ≤ 99 := by rw [e8]; exact h.1.2.2.2
  have h27 : -2147483648 ≤ K 107 27 ∧ K 107 27 < 2147483648 := by rw [hK 107 27 (by omega) (by omega)]; exact h.2.2.2.2.2.1
  have fin : ∀ r : am_R, (∃ Q, r = (some (.inl (sp_run (K 108) a1 a2 a3)), am_mm D1 (am_wp tU K Q) J ρ1)) → ∃ K2 J2, r = (some (.inl (sp_run (I 108) a1 a2 a3)), am_mm D1 K2 J2 ρ1) ∧ y_m K K2 (I 108) (I 109) (I 107 4) (I 107 32) (I 123) := by
    rintro r ⟨Q, e⟩
    rw [e8] at e
    exact ⟨_, J, e, y_mt (I := I) hK tU_fx (fun _ => rfl) (fun _ => rfl) (fun _ => rfl) rfl rfl (by rw [show am_wp tU K Q 107 27 = K 107 27 from am_wp_off rfl]; exact h27)⟩
  by_cases hw : -2147483638 ≤ a3
  · exact (r_run d h1 h2 ⟨hw, h3.2⟩ (by omega) (by omega) hok hwf).imp fin
  · exact (r_runW (d + 5) h2 ⟨h3.1, by omega⟩ hok).imp fin
theorem x_best {X : Nat × (Nat → Int)} {D : List (Nat × Nat)} {I J : Nat → Nat → Int} {ρ : Nat → Nat → Option Nat} {n : Nat} (d : Nat) (h : y_iv n D I ρ) (hn : n ≤ 64)  : am_E X (d + 6) 111 0 [(0, .inr (.inr (.inl (some 0))))] [] (am_mm D I J ρ) (fun r => ∃ K1 J1 ρ1, r = (some (.inl (sp_best (I 108))), am_mm D K1 J1 ρ1) ∧ y_x I ρ D K1 ρ1 (I 108) (I 109) (I 107 4) (I 107 32) (I 123)) := by
  have hok := h.1.1
  have hwf := h.1.2.1
  have hh := h.2.2.2.2.2.2.1.1
  have h99 := h.1.2.2.2
  refine (c_best d hok hwf hh (by omega) (by omega)).imp ?_
  rintro r ⟨Q, ρ2, e, hr⟩
  exact ⟨_, J, ρ2, e, y_xZ h hr⟩
theorem x_row {X : Nat × (Nat → Int)} {D : List (Nat × Nat)} {I J : Nat → Nat → Int} {ρ : Nat → Nat → Option Nat} {n : Nat} (d : Nat) (h : y_iv n D I ρ) (hn : n ≤ 64) {a1 : Int} (h1 : -2147483648 ≤ a1 ∧ a1 < 2147483648) : am_E X (d + 5) 112 0 [(0, .inr (.inr (.inl (some 0)))), (1, .inl a1)] [] (am_mm D I J ρ) (fun r => ∃ K1 J1 ρ1, r = (some (.inl (sp_row5 (I 108) a1)), am_mm D K1 J1 ρ1) ∧ y_x I ρ D K1 ρ1 (I 108) (I 109) (I 107 4) (I 107 32) (I 123)) := by
  have hok := h.1.1
  have hwf := h.1.2.1
  have hh := h.2.2.2.2.2.2.1.1
  have h99 := h.1.2.2.2
  refine (c_row d hok hwf hh h1 (by omega) (by omega)).imp ?_
  rintro r ⟨Q, ρ2, e, hr⟩
  exact ⟨_, J, ρ2, e, y_xZ h hr⟩
theorem m_best {X : Nat × (Nat → Int)} {D D1 : List (Nat × Nat)} {I K J : Nat → Nat → Int} {ρ ρ1 : Nat → Nat → Option Nat} {n : Nat} (d : Nat) (h : y_iv n D I ρ) (hn : n ≤ 64) (hK : ∀ c i, 107 ≤ c → c < 124 → K c i = I c i)  : am_E X (d + 7) 198 0 [(0, .inr (.inr (.inl (some 107))))] [] (am_mm D1 K J ρ1) (fun r => ∃ K2 J2, r = (some (.inl (sp_best (I 108))), am_mm D1 K2 J2 ρ1) ∧ y_m K K2 (I 108) (I 109) (I 107 4) (I 107 32) (I 123)) := by
  have e8 : K 108 = I 108 := y_row hK (by omega) (by omega)
  have hok : r_ok (K 108) (80050 * (n : Int)) := by rw [e8]; exact h.1.1
  have hwf : sp_wfS (K 108) := by rw [e8]; exact h.1.2.1
  have h99 : K 108 0 ≤ 99 := by rw [e8]; exact h.1.2.2.2
  have h27 : -2147483648 ≤ K 107 27 ∧ K 107 27 < 2147483648 := by rw [hK 107 27 (by omega) (by omega)]; exact h.2.2.2.2.2.1
  refine (r_best d h27 (by omega) (by omega) hok hwf).imp ?_
  rintro r ⟨Q, e, hb⟩
  rw [e8] at e
  exact ⟨_, J, e, y_mt (I := I) hK tBU_fx (fun _ => rfl) (fun _ => rfl) (fun _ => rfl) rfl rfl (by rw [show am_wp tBU K Q 107 27 = Q 107 27 from if_pos rfl]; exact hb)⟩
theorem m_row {X : Nat × (Nat → Int)} {D D1 : List (Nat × Nat)} {I K J : Nat → Nat → Int} {ρ ρ1 : Nat → Nat → Option Nat} {n : Nat} (d : Nat) (h : y_iv n D I ρ) (hn : n ≤ 64) (hK : ∀ c i, 107 ≤ c → c < 124 → K c i = I c i) {a1 : Int} (h1 : -2147483648 ≤ a1 ∧ a1 < 2147483648) : am_E X (d + 12) 200 0 [(0, .inr (.inr (.inl (some 107)))), (1, .inl a1)] [] (am_mm D1 K J ρ1) (fun r => ∃ K2 J2, r = (some (.inl (sp_row5 (I 108) a1)), am_mm D1 K2 J2 ρ1) ∧ y_m K K2 (I 108) (I 109) (I 107 4) (I 107 32) (I 123)) := by
  have e8 : K 108 = I 108 := y_row hK (by omega) (by omega)
  have hok : r_ok (K 108) (80050 * (n : Int)) := by rw [e8]; exact h.1.1
  have hwf : sp_wfS (K 108) := by rw [e8]; exact h.1.2.1
  have h99 : K 108 0 ≤ 99 := by rw [e8]; exact h.1.2.2.2
  have h27 : -2147483648 ≤ K 107 27 ∧ K 107 27 < 2147483648 := by rw [hK 107 27 (by omega) (by omega)]; exact h.2.2.2.2.2.1
  refine (r_row d h1 h27 (by omega) (by omega) hok hwf).imp ?_
  rintro r ⟨Q, e, hb⟩
  rw [e8] at e
  exact ⟨_, J, e, y_mt (I := I) hK tW_fx (fun _ => rfl) (fun _ => rfl) (fun _ => rfl) rfl rfl (by rw [show am_wp tW K Q 107 27 = Q 107 27 from if_pos rfl]; exact hb)⟩
theorem x_enough {X : Nat × (Nat → Int)} {D : List (Nat × Nat)} {I J : Nat → Nat → Int} {ρ : Nat → Nat → Option Nat} {n : Nat} (d : Nat) (h : y_iv n D I ρ) (hn : n ≤ 64) {a1 a2 a3 : Int} (h1 : -2147483648 ≤ a1 ∧ a1 < 2147483648) (h2 : -2147483648 ≤ a2 ∧ a2 < 2147483648) (h3 : -2147483648 ≤ a3 ∧ a3 < 2147483648) : am_E X (d + 2) 104 0 [(0, .inr (.inr (.inl (some 0)))), (1, .inl a1), (2, .inl a2), (3, .inl a3)] [] (am_mm D I J ρ) (fun r => ∃ K1 J1 ρ1, r = (some (.inr (.inl (sp_enough (I 108) a1 a2 a3))), am_mm D K1 J1 ρ1) ∧ y_x I ρ D K1 ρ1 (I 108) (I 109) (I 107 4) (I 107 32) (I 123)) := by
  have hok := h.1.1
  have hwf := h.1.2.1
  have hh := h.2.2.2.2.2.2.1.1
  have h99 := h.1.2.2.2
  refine (c_enough d hok hwf hh h1 h2 h3).imp ?_
  rintro r ⟨W, e⟩
  exact ⟨I, _, ρ, e, y_x0 h⟩
theorem m_enough {X : Nat × (Nat → Int)} {D D1 : List (Nat × Nat)} {I K J : Nat → Nat → Int} {ρ ρ1 : Nat → Nat → Option Nat} {n : Nat} (d : Nat) (h : y_iv n D I ρ) (hn : n ≤ 64) (hK : ∀ c i, 107 ≤ c → c < 124 → K c i = I c i) {a1 a2 a3 : Int} (h1 : -2147483648 ≤ a1 ∧ a1 < 2147483648) (h2 : -2147483648 ≤ a2 ∧ a2 < 2147483648) (h3 : -2147483648 ≤ a3 ∧ a3 < 2147483648) : am_E X (d + 3) 189 0 [(0, .inr (.inr (.inl (some 107)))), (1, .inl a1), (2, .inl a2), (3, .inl a3)] [] (am_mm D1 K J ρ1) (fun r => ∃ K2 J2, r = (some (.inr (.inl (sp_enough (I 108) a1 a2 a3))), am_mm D1 K2 J2 ρ1) ∧ y_m K K2 (I 108) (I 109) (I 107 4) (I 107 32) (I 123)) := by
  have e8 : K 108 = I 108 := y_row hK (by omega) (by omega)
  have hok : r_ok (K 108) (80050 * (n : Int)) := by rw [e8]; exact h.1.1
  have hwf : sp_wfS (K 108) := by rw [e8]; exact h.1.2.1
  have h99 : K 108 0 ≤ 99 := by rw [e8]; exact h.1.2.2.2
  have h27 : -2147483648 ≤ K 107 27 ∧ K 107 27 < 2147483648 := by rw [hK 107 27 (by omega) (by omega)]; exact h.2.2.2.2.2.1
  refine (r_enough d h1 h2 h3 hok hwf).imp ?_
  rintro r ⟨Q, W, e⟩
  rw [e8] at e
  exact ⟨_, _, e, y_mt (I := I) hK tL_fx (fun _ => rfl) (fun _ => rfl) (fun _ => rfl) rfl rfl (by rw [show am_wp tL K Q 107 27 = K 107 27 from am_wp_off rfl]; exact h27)⟩
theorem x_feed {X : Nat × (Nat → Int)} {D : List (Nat × Nat)} {I J : Nat → Nat → Int} {ρ : Nat → Nat → Option Nat} {n : Nat} (d : Nat) (h : y_iv n D I ρ) (hn : n ≤ 64) {a1 : Int} (h1 : -2147483648 ≤ a1 ∧ a1 < 2147483648) : am_E X d 88 0 [(0, .inr (.inr (.inl (some 0)))), (1, .inl a1)] [] (am_mm D I J ρ) (fun r => ∃ K1 J1 ρ1, r = (some (.inl (sp_feed (I 108) a1).1), am_mm D K1 J1 ρ1) ∧ y_x I ρ D K1 ρ1 (sp_feed (I 108) a1).2 (I 109) (I 107 4) (I 107 32) (I 123)) := by
  have hok := h.1.1
  have hwf := h.1.2.1
  have hh := h.2.2.2.2.2.2.1.1
  have h99 := h.1.2.2.2
  refine (c_feed d hok hwf hh h1).imp ?_
  rintro r ⟨Q, e, hh2⟩
  exact ⟨_, J, ρ, e, y_x1 h (fun c i hc => am_wp_off (uf_fz c i hc)) (fun _ _ _ => rfl) hh2⟩
theorem m_feed {X : Nat × (Nat → Int)} {D D1 : List (Nat × Nat)} {I K J : Nat → Nat → Int} {ρ ρ1 : Nat → Nat → Option Nat} {n : Nat} (d : Nat) (h : y_iv n D I ρ) (hn : n ≤ 64) (hK : ∀ c i, 107 ≤ c → c < 124 → K c i = I c i) {a1 : Int} (h1 : -2147483648 ≤ a1 ∧ a1 < 2147483648) : am_E X (d + 1) 134 0 [(0, .inr (.inr (.inl (some 107)))), (1, .inl a1)] [] (am_mm D1 K J ρ1) (fun r => ∃ K2 J2, r = (some (.inl (sp_feed (I 108) a1).1), am_mm D1 K2 J2 ρ1) ∧ y_m K K2 (sp_feed (I 108) a1).2 (I 109) (I 107 4) (I 107 32) (I 123)) := by
  have e8 : K 108 = I 108 := y_row hK (by omega) (by omega)
  have hok : r_ok (K 108) (80050 * (n : Int)) := by rw [e8]; exact h.1.1
  have hwf : sp_wfS (K 108) := by rw [e8]; exact h.1.2.1
  have h99 : K 108 0 ≤ 99 := by rw [e8]; exact h.1.2.2.2
  have h27 : -2147483648 ≤ K 107 27 ∧ K 107 27 < 2147483648 := by rw [hK 107 27 (by omega) (by omega)]; exact h.2.2.2.2.2.1
  refine (r_feed d h1 hok).imp ?_
  intro r e
  rw [e8] at e
  exact ⟨_, J, e, y_sr h hK⟩
theorem x_hand {X : Nat × (Nat → Int)} {D : List (Nat × Nat)} {I J : Nat → Nat → Int} {ρ : Nat → Nat → Option Nat} {n : Nat} (d : Nat) (h : y_iv n D I ρ) (hn : n ≤ 64) {a1 : Int} (h1 : -2147483648 ≤ a1 ∧ a1 < 2147483648) : am_E X d 114 0 [(0, .inr (.inr (.inl (some 0)))), (1, .inl a1)] [] (am_mm D I J ρ) (fun r => ∃ K1 J1 ρ1, r = (some (.inl (sp_hand (I 108) a1).1), am_mm D K1 J1 ρ1) ∧ y_x I ρ D K1 ρ1 (sp_hand (I 108) a1).2 (I 109) (I 107 4) (I 107 32) (I 123)) := by
  have hok := h.1.1
  have hwf := h.1.2.1
  have hh := h.2.2.2.2.2.2.1.1
  have h99 := h.1.2.2.2
  refine (c_hand d hok hwf hh h1).imp ?_
  rintro r ⟨Q, e, hh2⟩
  exact ⟨_, J, ρ, e, y_x1 h (fun c i hc => am_wp_off (uh_fz c i hc)) (fun _ _ _ => rfl) hh2⟩
theorem m_hand {X : Nat × (Nat → Int)} {D D1 : List (Nat × Nat)} {I K J : Nat → Nat → Int} {ρ ρ1 : Nat → Nat → Option Nat} {n : Nat} (d : Nat) (h : y_iv n D I ρ) (hn : n ≤ 64) (hK : ∀ c i, 107 ≤ c → c < 124 → K c i = I c i) {a1 : Int} (h1 : -2147483648 ≤ a1 ∧ a1 < 2147483648) : am_E X (d + 1) 201 0 [(0, .inr (.inr (.inl (some 107)))), (1, .inl a1)] [] (am_mm D1 K J ρ1) (fun r => ∃ K2 J2, r = (some (.inl (sp_hand (I 108) a1).1), am_mm D1 K2 J2 ρ1) ∧ y_m K K2 (sp_hand (I 108) a1).2 (I 109) (I 107 4) (I 107 32) (I 123)) := by
  have e8 : K 108 = I 108 := y_row hK (by omega) (by omega)
  have hok : r_ok (K 108) (80050 * (n : Int)) := by rw [e8]; exact h.1.1
  have hwf : sp_wfS (K 108) := by rw [e8]; exact h.1.2.1
  have h99 : K 108 0 ≤ 99 := by rw [e8]; exact h.1.2.2.2
  have h27 : -2147483648 ≤ K 107 27 ∧ K 107 27 < 2147483648 := by rw [hK 107 27 (by omega) (by omega)]; exact h.2.2.2.2.2.1
  refine (r_hand d h1 hok).imp ?_
  intro r e
  rw [e8] at e
  exact ⟨_, J, e, y_sr h hK⟩
theorem x_had {X : Nat × (Nat → Int)} {D : List (Nat × Nat)} {I J : Nat → Nat → Int} {ρ : Nat → Nat → Option Nat} {n : Nat} (d : Nat) (h : y_iv n D I ρ) (hn : n ≤ 64) {a1 a2 : Int} (h1 : -2147483648 ≤ a1 ∧ a1 < 2147483648) (h2 : a2 = 0 ∨ a2 = 1) : am_E X (d + 1) 96 0 [(0, .inr (.inr (.inl (some 0)))), (1, .inl a1), (2, .inl a2)] [] (am_mm D I J ρ) (fun r => ∃ K1 J1 ρ1, r = (some (.inl (sp_had (I 108) a1 a2).1), am_mm D K1 J1 ρ1) ∧ y_x I ρ D K1 ρ1 (sp_had (I 108) a1 a2).2 (I 109) (I 107 4) (I 107 32) (I 123)) := by
  have hok := h.1.1
  have hwf := h.1.2.1
  have hh := h.2.2.2.2.2.2.1.1
  have h99 := h.1.2.2.2
  refine (c_had d hok hwf hh h1 h2).imp ?_
  rintro r ⟨Q, e, hh2⟩
  exact ⟨_, J, ρ, e, y_x1 h (fun c i hc => am_wp_off (uH2_fz c i hc)) (fun _ _ _ => rfl) hh2⟩
theorem m_had {X : Nat × (Nat → Int)} {D D1 : List (Nat × Nat)} {I K J : Nat → Nat → Int} {ρ ρ1 : Nat → Nat → Option Nat} {n : Nat} (d : Nat) (h : y_iv n D I ρ) (hn : n ≤ 64) (hK : ∀ c i, 107 ≤ c → c < 124 → K c i = I c i) {a1 a2 : Int} (h1 : -2147483648 ≤ a1 ∧ a1 < 2147483648) (h2 : a2 = 0 ∨ a2 = 1) : am_E X (d + 2) 157 0 [(0, .inr (.inr (.inl (some 107)))), (1, .inl a1), (2, .inl a2)] [] (am_mm D1 K J ρ1) (fun r => ∃ K2 J2, r = (some (.inl (sp_had (I 108) a1 a2).1), am_mm D1 K2 J2 ρ1) ∧ y_m K K2 (sp_had (I 108) a1 a2).2 (I 109) (I 107 4) (I 107 32) (I 123)) := by
  have e8 : K 108 = I 108 := y_row hK (by omega) (by omega)
  have hok : r_ok (K 108) (80050 * (n : Int)) := by rw [e8]; exact h.1.1
  have hwf : sp_wfS (K 108) := by rw [e8]; exact h.1.2.1
  have h99 : K 108 0 ≤ 99 := by rw [e8]; exact h.1.2.2.2
  have h27 : -2147483648 ≤ K 107 27 ∧ K 107 27 < 2147483648 := by rw [hK 107 27 (by omega) (by omega)]; exact h.2.2.2.2.2.1
  refine (r_had d h1 h2 hok).imp ?_
  intro r e
  rw [e8] at e
  exact ⟨_, J, e, y_sr h hK⟩
theorem x_month {X : Nat × (Nat → Int)} {D : List (Nat × Nat)} {I J : Nat → Nat → Int} {ρ : Nat → Nat → Option Nat} {n : Nat} (d : Nat) (h : y_iv n D I ρ) (hn : n ≤ 64) {a1 : Int} (h1 : -2147483648 ≤ a1 ∧ a1 < 2147483648) : am_E X (d + 4) 107 0 [(0, .inr (.inr (.inl (some 0)))), (1, .inl a1)] [] (am_mm D I J ρ) (fun r => ∃ K1 J1 ρ1, r = (some (.inl (sp_month (I 108) a1).1), am_mm D K1 J1 ρ1) ∧ y_x I ρ D K1 ρ1 (sp_month (I 108) a1).2 (I 109) (I 107 4) (I 107 32) (I 123)) := by
  have hok := h.1.1
  have hwf := h.1.2.1
  have hh := h.2.2.2.2.2.2.1.1
  have h99 := h.1.2.2.2
  refine (c_monthC d hok hwf hh h1 (by omega) h99).imp ?_
  rintro r ⟨Q, e, hh2⟩
  exact ⟨_, J, ρ, e, y_x1 h (fun c i hc => am_wp_off (uP2_fz c i hc)) (fun _ _ _ => rfl) hh2⟩
theorem x_by {X : Nat × (Nat → Int)} {D : List (Nat × Nat)} {I J : Nat → Nat → Int} {ρ : Nat → Nat → Option Nat} {n : Nat} (d : Nat) (h : y_iv n D I ρ) (hn : n ≤ 64) {a1 : Int} (h1 : -2147483648 ≤ a1 ∧ a1 < 2147483648) : am_E X (d + 5) 108 0 [(0, .inr (.inr (.inl (some 0)))), (1, .inl a1)] [] (am_mm D I J ρ) (fun r => ∃ K1 J1 ρ1, r = (some (.inl (sp_by (I 108) a1).1), am_mm D K1 J1 ρ1) ∧ y_x I ρ D K1 ρ1 (sp_by (I 108) a1).2 (I 109) (I 107 4) (I 107 32) (I 123)) := by
  have hok := h.1.1
  have hwf := h.1.2.1
  have hh := h.2.2.2.2.2.2.1.1
  have h99 := h.1.2.2.2
  refine (c_by d hok hwf hh h1 (by omega) h99).imp ?_
  rintro r ⟨Q, ρ2, e, hr, hh2⟩
  exact ⟨_, J, ρ2, e, y_x1 h (fun c i hc => am_wp_off (uB2_fz c i hc)) hr hh2⟩
theorem m_month {X : Nat × (Nat → Int)} {D D1 : List (Nat × Nat)} {I K J : Nat → Nat → Int} {ρ ρ1 : Nat → Nat → Option Nat} {n : Nat} (d : Nat) (h : y_iv n D I ρ) (hn : n ≤ 64) (hK : ∀ c i, 107 ≤ c → c < 124 → K c i = I c i) {a1 : Int} (h1 : -2147483648 ≤ a1 ∧ a1 < 2147483648) : am_E X (d + 5) 191 0 [(0, .inr (.inr (.inl (some 107)))), (1, .inl a1)] [] (am_mm D1 K J ρ1) (fun r => ∃ K2 J2, r = (some (.inl (sp_month (I 108) a1).1), am_mm D1 K2 J2 ρ1) ∧ y_m K K2 (sp_month (I 108) a1).2 (I 109) (I 107 4) (I 107 32) (I 123)) := by
  have e8 : K 108 = I 108 := y_row hK (by omega) (by omega)
  have hok : r_ok (K 108) (80050 * (n : Int)) := by rw [e8]; exact h.1.1
  have hwf : sp_wfS (K 108) := by rw [e8]; exact h.1.2.1
  have h99 : K 108 0 ≤ 99 := by rw [e8]; exact h.1.2.2.2
  have h27 : -2147483648 ≤ K 107 27 ∧ K 107 27 < 2147483648 := by rw [hK 107 27 (by omega) (by omega)]; exact h.2.2.2.2.2.1
  refine (r_month d h1 (by omega) hok hwf).imp ?_
  rintro r ⟨Q, e, hQ⟩
  rw [e8] at e hQ
  exact ⟨_, J, e, y_mS (I := I) hK tG_fx (fun _ => rfl) (fun _ => rfl) (fun _ => rfl) rfl rfl (by rw [show am_wp tG K Q 107 27 = K 107 27 from am_wp_off rfl]; exact h27) hQ⟩
theorem m_by {X : Nat × (Nat → Int)} {D D1 : List (Nat × Nat)} {I K J : Nat → Nat → Int} {ρ ρ1 : Nat → Nat → Option Nat} {n : Nat} (d : Nat) (h : y_iv n D I ρ) (hn : n ≤ 64) (hK : ∀ c i, 107 ≤ c → c < 124 → K c i = I c i) {a1 : Int} (h1 : -2147483648 ≤ a1 ∧ a1 < 2147483648) : am_E X (d + 6) 192 0 [(0, .inr (.inr (.inl (some 107)))), (1, .inl a1)] [] (am_mm D1 K J ρ1) (fun r => ∃ K2 J2, r = (some (.inl (sp_by (I 108) a1).1), am_mm D1 K2 J2 ρ1) ∧ y_m K K2 (sp_by (I 108) a1).2 (I 109) (I 107 4) (I 107 32) (I 123)) := by
  have e8 : K 108 = I 108 := y_row hK (by omega) (by omega)
  have hok : r_ok (K 108) (80050 * (n : Int)) := by rw [e8]; exact h.1.1
  have hwf : sp_wfS (K 108) := by rw [e8]; exact h.1.2.1
  have h99 : K 108 0 ≤ 99 := by rw [e8]; exact h.1.2.2.2
  have h27 : -2147483648 ≤ K 107 27 ∧ K 107 27 < 2147483648 := by rw [hK 107 27 (by omega) (by omega)]; exact h.2.2.2.2.2.1
  refine (r_by d h1 (by omega) hok hwf).imp ?_
  rintro r ⟨Q, e, hQ⟩
  rw [e8] at e hQ
  exact ⟨_, J, e, y_mS (I := I) hK tV_fx (fun _ => rfl) (fun _ => rfl) (fun _ => rfl) rfl rfl (by rw [show am_wp tV K Q 107 27 = K 107 27 from am_wp_off rfl]; exact h27) hQ⟩
theorem x_book {X : Nat × (Nat → Int)} {D : List (Nat × Nat)} {I J : Nat → Nat → Int} {ρ : Nat → Nat → Option Nat} {n : Nat} (d : Nat) (h : y_iv n D I ρ) (hn : n ≤ 64) {a1 a2 a3 a4 : Int} (h1 : -2147483648 ≤ a1 ∧ a1 < 2147483648) (h2 : -2147483648 ≤ a2 ∧ a2 < 2147483648) (h3 : -2147483648 ≤ a3 ∧ a3 < 2147483648) (h4 : -2147483648 ≤ a4 ∧ a4 < 2147483648) : am_E X (d + 6) 92 0 [(0, .inr (.inr (.inl (some 0)))), (1, .inl a1), (2, .inl a2), (3, .inl a3), (4, .inl a4)] [] (am_mm D I J ρ) (fun r => ∃ K1 J1 ρ1, r = (some (.inl (sp_book (I 108) a1 a2 a3 a4).1), am_mm D K1 J1 ρ1) ∧ y_x I ρ D K1 ρ1 (sp_book (I 108) a1 a2 a3 a4).2 (I 109) (I 107 4) (I 107 32) (I 123)) := by
  have hok := h.1.1
  have hwf := h.1.2.1
  have hh := h.2.2.2.2.2.2.1.1
  have h99 := h.1.2.2.2
  refine (c_book d hok hwf hh h1 h2 h3 h4).imp ?_
  rintro r ⟨Q, e, hf, hh2⟩
  exact ⟨_, J, ρ, e, y_x1 h hf (fun _ _ _ => rfl) hh2⟩
theorem m_book {X : Nat × (Nat → Int)} {D D1 : List (Nat × Nat)} {I K J : Nat → Nat → Int} {ρ ρ1 : Nat → Nat → Option Nat} {n : Nat} (d : Nat) (h : y_iv n D I ρ) (hn : n ≤ 64) (hK : ∀ c i, 107 ≤ c → c < 124 → K c i = I c i) {a1 a2 a3 a4 : Int} (h1 : -2147483648 ≤ a1 ∧ a1 < 2147483648) (h2 : -2147483648 ≤ a2 ∧ a2 < 2147483648) (h3 : -2147483648 ≤ a3 ∧ a3 < 2147483648) (h4 : -2147483648 ≤ a4 ∧ a4 < 2147483648) : am_E X (d + 2) 150 0 [(0, .inr (.inr (.inl (some 107)))), (1, .inl a1), (2, .inl a2), (3, .inl a3), (4, .inl a4)] [] (am_mm D1 K J ρ1) (fun r => ∃ K2 J2, r = (some (.inl (sp_book (I 108) a1 a2 a3 a4).1), am_mm D1 K2 J2 ρ1) ∧ y_m K K2 (sp_book (I 108) a1 a2 a3 a4).2 (I 109) (I 107 4) (I 107 32) (I 123)) := by
  have e8 : K 108 = I 108 := y_row hK (by omega) (by omega)
  have hok : r_ok (K 108) (80050 * (n : Int)) := by rw [e8]; exact h.1.1
  have hwf : sp_wfS (K 108) := by rw [e8]; exact h.1.2.1
  have h99 : K 108 0 ≤ 99 := by rw [e8]; exact h.1.2.2.2
  have h27 : -2147483648 ≤ K 107 27 ∧ K 107 27 < 2147483648 := by rw [hK 107 27 (by omega) (by omega)]; exact h.2.2.2.2.2.1
  refine (r_book d h1 h2 h3 h4 hok).imp ?_
  intro r e
  rw [e8] at e
  exact ⟨_, J, e, y_sr h hK⟩
theorem m_member {X : Nat × (Nat → Int)} {D D1 : List (Nat × Nat)} {I K J : Nat → Nat → Int} {ρ ρ1 : Nat → Nat → Option Nat} {n : Nat} (d : Nat) (h : y_iv n D I ρ) (hn : n ≤ 64) (hK : ∀ c i, 107 ≤ c → c < 124 → K c i = I c i) {a1 a2 : Int} (h1 : -2147483648 ≤ a1 ∧ a1 < 2147483648) (h2 : -2147483648 ≤ a2 ∧ a2 < 2147483648) : am_E X (d + 1) 149 0 [(0, .inr (.inr (.inl (some 107)))), (1, .inl a1), (2, .inl a2)] [] (am_mm D1 K J ρ1) (fun r => ∃ K2 J2, r = (some (.inl (sp_member (I 108) a1 a2).1), am_mm D1 K2 J2 ρ1) ∧ y_m K K2 (sp_member (I 108) a1 a2).2 (I 109) (I 107 4) (I 107 32) (I 123)) := by
  have e8 : K 108 = I 108 := y_row hK (by omega) (by omega)
  have hok : r_ok (K 108) (80050 * (n : Int)) := by rw [e8]; exact h.1.1
  have hwf : sp_wfS (K 108) := by rw [e8]; exact h.1.2.1
  have h99 : K 108 0 ≤ 99 := by rw [e8]; exact h.1.2.2.2
  have h27 : -2147483648 ≤ K 107 27 ∧ K 107 27 < 2147483648 := by rw [hK 107 27 (by omega) (by omega)]; exact h.2.2.2.2.2.1
  refine (r_member d h1 h2 hok).imp ?_
  intro r e
  rw [e8] at e
  exact ⟨_, J, e, y_sr h hK⟩
