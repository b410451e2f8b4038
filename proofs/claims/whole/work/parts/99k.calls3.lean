/-! THE LAW: club -/
theorem c_rel_sub {D : List (Nat × Nat)} {I : Nat → Nat → Int} {ρ : Nat → Nat → Option Nat} {S S' T : Nat → Int} {B hi ran : Int} {row : Nat → Int} (hok : r_ok S B) (h : c_rel D I ρ S T hi ran row) (hlo : ∀ i, i < 168 → S' i = S i) (hps : ∀ cs, ps_rel S cs → ps_rel S' cs) (hcm : sp_come S' = sp_come S) : c_rel D I ρ S' T hi ran row := by
  obtain ⟨r1, r2, r4, hse, r6⟩ := h
  obtain ⟨cc, i1, i2, i3⟩ := r1.2.2.2.2.2.2
  have hl := am_lt_at i2.1.2.2.2.2
  have g := c_hall_sp (E := []) (K := I) (ρ' := ρ) (S' := S') (c := 124 + D.length + 200) (Or.inl rfl) hok r1 (fun i a _ => hlo i a) (Or.inl (hlo 23 (by omega))) hps hcm (by omega) (fun _ _ _ _ _ _ => rfl) (by rw [hlo 23 (by omega)]; exact r1.1.2.2.2.1) (fun _ _ _ _ _ _ => rfl) (fun e hx => by have := Option.some.inj (i1.symm.trans hx); omega) (fun m k hm hx => by
    obtain ⟨k3, c0, g1, g2, g3⟩ := hse 4 m (Or.inl rfl) hm
    have := Option.some.inj (g1.symm.trans hx)
    have := am_lt_at g2
    omega)
  rw [List.append_nil] at g
  exact ⟨g, r2, r4, hse, r6⟩
theorem ps_rel_two {A C : Nat → Int} {cs cs' : List ps_C} (h1 : ps_rel A cs) (h2 : ps_rel C cs) (h : ps_rel A cs') : ps_rel C cs' := by
  obtain ⟨a1, a2, a3⟩ := h1
  obtain ⟨b1, b2, b3⟩ := h2
  obtain ⟨c1, c2, c3⟩ := h
  have e : (ps_fl cs').length = (ps_fl cs).length := by omega
  refine ⟨by omega, fun k hk => ?_, c3⟩
  rw [b2 k (by omega), ← a2 k (by omega)]
  exact c2 k hk
def sp_Fc (S : Nat → Int) (a : Nat) : Nat → Int := am_u1 (am_u1 (am_u1 S 23 0) (168 + a) 5) (173 + a) 0
theorem sp_Fc_ok {S : Nat → Int} {a : Nat} : sp_cF S (sp_Fc S a) a := by
  unfold sp_Fc
  refine ⟨?_, ?_, ?_, fun i hi => ?_⟩
  · rw [am_u1_ne (by omega), am_u1_ne (by omega), am_u1_at]
  · rw [am_u1_ne (by omega), am_u1_at]; omega
  · rw [am_u1_at]; omega
  · rw [am_u1_ne (by omega), am_u1_ne (by omega), am_u1_ne (by omega)]
def sp_Sc (S : Nat → Int) (a : Nat) (cs : List ps_C) : Nat → Int := fun i => if i = 21 then (a : Int) + 1 else if i = 24 then (a : Int) else if i = 23 then 0 else if i = 168 + a then pt_cm cs else if i = 173 + a then ((ps_fl cs).length : Int) else if 178 + 140 * a ≤ i ∧ i < 318 + 140 * a then (ps_fl cs).getD (i - (178 + 140 * a)) 0 else S i
theorem sp_Sc_ok {S : Nat → Int} {a : Nat} {cs : List ps_C} (hw : ps_wf cs) : sp_cS S (sp_Sc S a cs) a cs := by
  have hfl := ps_fl_le (cs := cs)
  have hw1 := hw.1
  have hw3 := hw.2.2
  unfold sp_Sc
  refine ⟨if_pos rfl, (if_neg (by omega)).trans (if_pos rfl), (if_neg (by omega)).trans ((if_neg (by omega)).trans (if_pos rfl)), ?_, ?_, fun i hi => ?_, fun i hi => ?_⟩
  · dsimp only
    rw [if_neg (by omega), if_neg (by omega), if_neg (by omega), if_pos rfl]
  · dsimp only
    rw [if_neg (by omega), if_neg (by omega), if_neg (by omega), if_neg (by omega), if_pos rfl]
  · dsimp only
    rw [if_neg (by omega), if_neg (by omega), if_neg (by omega), if_neg (by omega), if_neg (by omega), if_pos (by omega), show 178 + 140 * a + i - (178 + 140 * a) = i by omega]
  · dsimp only
    rw [if_neg (by omega), if_neg (by omega), if_neg (by omega), if_neg (by omega), if_neg (by omega), if_neg (by omega)]
theorem sp_cF_two {S A C : Nat → Int} {a : Nat} (h1 : sp_cF S A a) (h2 : sp_cF S C a) : sp_cF A C a ∧ ∀ i, i < 168 → C i = A i := by
  obtain ⟨a1, a2, a3, a4⟩ := h1
  obtain ⟨b1, b2, b3, b4⟩ := h2
  refine ⟨⟨b1, b2, b3, fun i hi => (b4 i hi).trans (a4 i hi).symm⟩, fun i hi => ?_⟩
  by_cases e : i = 23
  · rw [e, a1, b1]
  · exact (b4 i (by omega)).trans (a4 i (by omega)).symm
theorem sp_cS_two {S A C : Nat → Int} {a : Nat} {cs : List ps_C} (h1 : sp_cS S A a cs) (h2 : sp_cS S C a cs) : ∀ i, i < 168 → C i = A i := by
  obtain ⟨a1, a2, a3, a4, a5, a6, a7⟩ := h1
  obtain ⟨b1, b2, b3, b4, b5, b6, b7⟩ := h2
  intro i hi
  by_cases e : i = 21
  · rw [e, a1, b1]
  by_cases e2 : i = 23
  · rw [e2, a3, b3]
  by_cases e3 : i = 24
  · rw [e3, a2, b2]
  exact (b7 i (by omega)).trans (a7 i (by omega)).symm
theorem y_cF {S S' : Nat → Int} {B : Int} {a : Nat} {cs : List ps_C} (h : y_ok S B) (ha : a < 5) (h21 : S 21 = (a : Int)) (hr : ps_rel S cs) (hF : sp_cF S S' a) : y_ok S' B := by
  have h24 := h.2.2.1
  refine ⟨sp_cF_ok h.1 ha hF, ps_wfS (ps_rel_F ha (r_ok_24 h.1) (by omega) hF hr), ?_, ?_⟩
  · rw [hF.2.2.2 24 (by omega), hF.2.2.2 21 (by omega)]; exact h24
  · rw [hF.2.2.2 0 (by omega)]; exact h.2.2.2
theorem y_cS {S S' : Nat → Int} {B : Int} {a : Nat} {cs : List ps_C} (h : y_ok S B) (ha : a < 5) (hw : ps_wf cs) (hS : sp_cS S S' a cs) : y_ok S' B := by
  obtain ⟨g1, g2, g3⟩ := sp_cS_ok h.1 ha hw hS
  obtain ⟨a1, a2, a3, a4, a5, a6, a7⟩ := hS
  exact ⟨g1, ps_wfS g2, by omega, by rw [a7 0 (by omega)]; exact h.2.2.2⟩
theorem x_clubN {X : Nat × (Nat → Int)} {D : List (Nat × Nat)} {I J : Nat → Nat → Int} {ρ : Nat → Nat → Option Nat} {n : Nat} (d : Nat) (h : y_iv n D I ρ) (h21 : I 108 21 = 5) : am_E X d 89 0 [(0, .inr (.inr (.inl (some 0))))] [] (am_mm D I J ρ) (fun r => ∃ K1 J1 ρ1, r = (some (.inl (-4)), am_mm D K1 J1 ρ1) ∧ y_x I ρ D K1 ρ1 (I 108) (I 109) (I 107 4) (I 107 32) (I 123)) := by
  refine (c_clubN d h.2.2.2.2.2.2.1 h21).imp ?_
  intro r e
  exact ⟨I, J, ρ, e, y_x0 h⟩
theorem m_clubN {X : Nat × (Nat → Int)} {D D1 : List (Nat × Nat)} {I K J : Nat → Nat → Int} {ρ ρ1 : Nat → Nat → Option Nat} {n : Nat} (d : Nat) (h : y_iv n D I ρ) (hK : ∀ c i, 107 ≤ c → c < 124 → K c i = I c i) (h21 : I 108 21 = 5) : am_E X d 147 0 [(0, .inr (.inr (.inl (some 107))))] [] (am_mm D1 K J ρ1) (fun r => ∃ K2 J2, r = (some (.inl (-4)), am_mm D1 K2 J2 ρ1) ∧ y_m K K2 (I 108) (I 109) (I 107 4) (I 107 32) (I 123)) := by
  refine (r_club5 d ((hK 108 21 (by omega) (by omega)).trans h21)).imp ?_
  intro r e
  exact ⟨K, J, e, y_m0 h hK⟩
theorem x_clubF {X : Nat × (Nat → Int)} {D : List (Nat × Nat)} {I J : Nat → Nat → Int} {ρ : Nat → Nat → Option Nat} {n : Nat} (d : Nat) (h : y_iv n D I ρ) {a q : Nat} (h21 : I 108 21 = (a : Int)) (ha : a < 5) (hP : pt_cs (sp_tx (I 108)) (I 108 23).toNat 10 0 [] = (q, none)) : am_E X (d + 20) 89 0 [(0, .inr (.inr (.inl (some 0))))] [] (am_mm D I J ρ) (fun r => ∃ K1 J1 ρ1, r = (some (.inl (-10 - (q : Int))), am_mm D K1 J1 ρ1) ∧ ∀ S2, sp_cF (I 108) S2 a → y_x I ρ D K1 ρ1 S2 (I 109) (I 107 4) (I 107 32) (I 123)) := by
  have h24 := h.1.2.2.1
  refine (c_clubF d h.1.1 (fun e => (h.2.2.1 e).1) h.2.2.2.2.2.2.1 h21 ha (by omega) sp_Fc_ok hP).imp ?_
  rintro r ⟨K1, ρ1, e, hr, h35, hf⟩
  refine ⟨K1, J, ρ1, e, fun S2 h2 => ⟨?_, hf, fun _ => h35⟩⟩
  obtain ⟨g1, g2⟩ := sp_cF_two sp_Fc_ok h2
  have hok2 := sp_cF_ok h.1.1 ha (sp_Fc_ok (S := I 108) (a := a))
  have e24 : sp_Fc (I 108) a 24 = I 108 24 := (sp_Fc_ok (S := I 108) (a := a)).2.2.2 24 (by omega)
  exact c_rel_sub hok2 hr g2 (fun cs => ps_rel_F ha (r_ok_24 hok2) (by omega) g1) (sp_come_F ha (r_ok_24 hok2) (by omega) g1)
theorem x_clubS {X : Nat × (Nat → Int)} {D : List (Nat × Nat)} {I J : Nat → Nat → Int} {ρ : Nat → Nat → Option Nat} {n : Nat} (d : Nat) (h : y_iv n D I ρ) {a q : Nat} {cs : List ps_C} (h21 : I 108 21 = (a : Int)) (ha : a < 5) (hP : pt_cs (sp_tx (I 108)) (I 108 23).toNat 10 0 [] = (q, some cs)) : am_E X (d + 20) 89 0 [(0, .inr (.inr (.inl (some 0))))] [] (am_mm D I J ρ) (fun r => ∃ K1 J1 ρ1, r = (some (.inl (a : Int)), am_mm (D ++ k_E) K1 J1 ρ1) ∧ ∀ S2, sp_cS (I 108) S2 a cs → y_x I ρ (D ++ k_E) K1 ρ1 S2 (I 109) (I 107 4) (I 107 32) (I 123)) := by
  have h23 := h.1.1.2.2.2.2.2.2.2.2.1
  have hw := (pt_wf (sp_tx_ok h.1.1).2.1 (by omega) hP).2
  have himg : ∀ e, ρ 35 5 = some e → e + 5 ≤ 124 + D.length := by
    intro e he
    by_cases h4 : I 107 4 = 1
    · obtain ⟨c, i1, i2, i3⟩ := (h.2.2.2.2.2.2.1.2.1.2 h4).2.2.2.2.2.2
      have := am_lt_at i2.1.2.2.2.2
      have := Option.some.inj (i1.symm.trans he)
      omega
    · have := Option.some.inj ((h.2.2.2.1 h4).symm.trans he)
      omega
  refine (c_clubS d h.1.1 (fun e => (h.2.2.1 e).1) h.2.2.2.2.2.2.1 h21 ha (sp_Sc_ok hw) himg hP).imp ?_
  rintro r ⟨K1, J1, ρ1, e, hr, h35, hf⟩
  refine ⟨K1, J1, ρ1, e, fun S2 h2 => ⟨?_, hf, fun _ => h35⟩⟩
  obtain ⟨k1, k2, k3⟩ := sp_cS_ok h.1.1 ha hw (sp_Sc_ok (S := I 108) (a := a) hw)
  obtain ⟨l1, l2, l3⟩ := sp_cS_ok h.1.1 ha hw h2
  exact c_rel_sub k1 hr (sp_cS_two (sp_Sc_ok hw) h2) (fun cs' => ps_rel_two k2 l2) (l3.trans k3.symm)
theorem m_club0 {X : Nat × (Nat → Int)} {D D1 : List (Nat × Nat)} {I K J : Nat → Nat → Int} {ρ ρ1 : Nat → Nat → Option Nat} {n : Nat} (d : Nat) (h : y_iv n D I ρ) (hK : ∀ c i, 107 ≤ c → c < 124 → K c i = I c i) {a : Nat} (h21 : I 108 21 = (a : Int)) (ha : a < 5) : am_E X (d + 26) 147 0 [(0, .inr (.inr (.inl (some 107))))] [] (am_mm D1 K J ρ1) (fun r => ∃ v K2, r = (some (.inl v), am_mm D1 K2 J ρ1) ∧ r_cend (r_i0 K a (I 108 23).toNat) K2 a v (pt_cs (sp_tx (I 108)) (I 108 23).toNat 10 0 [])) := by
  obtain ⟨t1, t2, t3⟩ := sp_tx_ok h.1.1
  have h23 := h.1.1.2.2.2.2.2.2.2.2.1
  exact r_club d (hs := sp_tx (I 108)) (z := (I 108 23).toNat) ((hK 108 21 (by omega) (by omega)).trans h21) ((hK 108 23 (by omega) (by omega)).trans (by omega)) ha (by omega) (fun i hi => (hK 108 (68 + i) (by omega) (by omega)).trans (t1 i hi)) t2 t3
theorem m_clubF {X : Nat × (Nat → Int)} {D D1 : List (Nat × Nat)} {I K J : Nat → Nat → Int} {ρ ρ1 : Nat → Nat → Option Nat} {n : Nat} (d : Nat) (h : y_iv n D I ρ) (hK : ∀ c i, 107 ≤ c → c < 124 → K c i = I c i) {a q : Nat} (h21 : I 108 21 = (a : Int)) (ha : a < 5) (hP : pt_cs (sp_tx (I 108)) (I 108 23).toNat 10 0 [] = (q, none)) : am_E X (d + 26) 147 0 [(0, .inr (.inr (.inl (some 107))))] [] (am_mm D1 K J ρ1) (fun r => ∃ K2 J2, r = (some (.inl (-10 - (q : Int))), am_mm D1 K2 J2 ρ1) ∧ y_m K K2 (K2 108) (I 109) (I 107 4) (I 107 32) (I 123) ∧ sp_cF (I 108) (K2 108) a) := by
  refine (m_club0 d h hK h21 ha).imp ?_
  rintro r ⟨v, K2, e, hc⟩
  rw [hP] at hc
  obtain ⟨c1, c2, c3, c4⟩ := hc
  rw [c1] at e
  have o : ∀ c i, ¬ (c = 107 ∧ (i = 5 ∨ i = 7)) → ¬ (c = 108 ∧ i = 23) → r_i0 K a (I 108 23).toNat c i = K c i := fun c i h1 h2 => (am_up_ne2 (by omega)).trans ((am_up_ne2 (by omega)).trans (am_up_ne2 (by omega)))
  refine ⟨K2, J, e, ⟨fun c i hc => ?_, rfl, funext (fun i => ?_), ?_, ?_, funext (fun i => ?_), ?_⟩, ?_, c4, c3, fun i hi => ?_⟩
  · unfold c_fx at hc
    exact (c2 c i ⟨by omega, by omega⟩).trans (o c i (by omega) (by omega))
  · exact ((c2 109 i ⟨by omega, by omega⟩).trans (o 109 i (by omega) (by omega))).trans (hK 109 i (by omega) (by omega))
  · exact ((c2 107 4 ⟨by omega, by omega⟩).trans (o 107 4 (by omega) (by omega))).trans (hK 107 4 (by omega) (by omega))
  · exact ((c2 107 32 ⟨by omega, by omega⟩).trans (o 107 32 (by omega) (by omega))).trans (hK 107 32 (by omega) (by omega))
  · exact ((c2 123 i ⟨by omega, by omega⟩).trans (o 123 i (by omega) (by omega))).trans (hK 123 i (by omega) (by omega))
  · rw [((c2 107 27 ⟨by omega, by omega⟩).trans (o 107 27 (by omega) (by omega))).trans (hK 107 27 (by omega) (by omega))]; exact h.2.2.2.2.2.1
  · exact (c2 108 23 ⟨by omega, by omega⟩).trans am_up_at2
  · exact ((c2 108 i ⟨by omega, by omega⟩).trans (o 108 i (by omega) (by omega))).trans (hK 108 i (by omega) (by omega))
theorem m_clubS {X : Nat × (Nat → Int)} {D D1 : List (Nat × Nat)} {I K J : Nat → Nat → Int} {ρ ρ1 : Nat → Nat → Option Nat} {n : Nat} (d : Nat) (h : y_iv n D I ρ) (hK : ∀ c i, 107 ≤ c → c < 124 → K c i = I c i) {a q : Nat} {cs : List ps_C} (h21 : I 108 21 = (a : Int)) (ha : a < 5) (hP : pt_cs (sp_tx (I 108)) (I 108 23).toNat 10 0 [] = (q, some cs)) : am_E X (d + 26) 147 0 [(0, .inr (.inr (.inl (some 107))))] [] (am_mm D1 K J ρ1) (fun r => ∃ K2 J2, r = (some (.inl (a : Int)), am_mm D1 K2 J2 ρ1) ∧ y_m K K2 (K2 108) (I 109) (I 107 4) (I 107 32) (I 123) ∧ sp_cS (I 108) (K2 108) a cs) := by
  refine (m_club0 d h hK h21 ha).imp ?_
  rintro r ⟨v, K2, e, hc⟩
  rw [hP] at hc
  obtain ⟨c1, c2, c3, c4, c5, c6, c7⟩ := hc
  rw [c1] at e
  have o : ∀ c i, ¬ (c = 107 ∧ (i = 5 ∨ i = 7)) → ¬ (c = 108 ∧ i = 23) → r_i0 K a (I 108 23).toNat c i = K c i := fun c i h1 h2 => (am_up_ne2 (by omega)).trans ((am_up_ne2 (by omega)).trans (am_up_ne2 (by omega)))
  refine ⟨K2, J, e, ⟨fun c i hc => ?_, rfl, funext (fun i => ?_), ?_, ?_, funext (fun i => ?_), ?_⟩, c3, c4, ?_, c5, c6, c7, fun i hi => ?_⟩
  · unfold c_fx at hc
    exact (c2 c i ⟨by omega, by omega⟩ (by omega)).trans (o c i (by omega) (by omega))
  · exact ((c2 109 i ⟨by omega, by omega⟩ (by omega)).trans (o 109 i (by omega) (by omega))).trans (hK 109 i (by omega) (by omega))
  · exact ((c2 107 4 ⟨by omega, by omega⟩ (by omega)).trans (o 107 4 (by omega) (by omega))).trans (hK 107 4 (by omega) (by omega))
  · exact ((c2 107 32 ⟨by omega, by omega⟩ (by omega)).trans (o 107 32 (by omega) (by omega))).trans (hK 107 32 (by omega) (by omega))
  · exact ((c2 123 i ⟨by omega, by omega⟩ (by omega)).trans (o 123 i (by omega) (by omega))).trans (hK 123 i (by omega) (by omega))
  · rw [((c2 107 27 ⟨by omega, by omega⟩ (by omega)).trans (o 107 27 (by omega) (by omega))).trans (hK 107 27 (by omega) (by omega))]; exact h.2.2.2.2.2.1
  · exact (c2 108 23 ⟨by omega, by omega⟩ (by omega)).trans am_up_at2
  · exact ((c2 108 i ⟨by omega, by omega⟩ (by omega)).trans (o 108 i (by omega) (by omega))).trans (hK 108 i (by omega) (by omega))
