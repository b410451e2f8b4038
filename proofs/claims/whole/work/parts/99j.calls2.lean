/-! THE LAW: member, club, image, undo, act -/
theorem x_member {X : Nat × (Nat → Int)} {D : List (Nat × Nat)} {I J : Nat → Nat → Int} {ρ : Nat → Nat → Option Nat} {n : Nat} (d : Nat) (h : y_iv n D I ρ) {a1 a2 : Int} (h1 : -2147483648 ≤ a1 ∧ a1 < 2147483648) (h2 : -2147483648 ≤ a2 ∧ a2 < 2147483648) : am_E X (d + 6) 90 0 [(0, .inr (.inr (.inl (some 0)))), (1, .inl a1), (2, .inl a2)] [] (am_mm D I J ρ) (fun r => ∃ E K1 J1 ρ1, r = (some (.inl (sp_member (I 108) a1 a2).1), am_mm (D ++ E) K1 J1 ρ1) ∧ y_x I ρ (D ++ E) K1 ρ1 (sp_member (I 108) a1 a2).2 (I 109) (I 107 4) (I 107 32) (I 123) ∧ E.length ≤ 5 ∧ (E.map (fun q => q.2)).sum ≤ 140) := by
  refine (c_member d h.1.1 h.1.2.1 (fun e => (h.2.2.1 e).1) h.2.2.2.2.2.2.1 h1 h2).imp ?_
  rintro r ⟨E, K1, J1, ρ1, e, hE, hr, h35, hf⟩
  refine ⟨E, K1, J1, ρ1, e, ⟨hr, hf, fun _ => h35⟩, ?_⟩
  rcases hE with rfl | rfl
  · exact ⟨by simp, by simp⟩
  · exact ⟨by simp, by simp⟩
def y_T (I : Nat → Nat → Int) (a b : Nat) : Nat → Int := fun i => if i < 878 then I a i else I b i
theorem y_T_eq {I : Nat → Nat → Int} {a b i : Nat} (h : i < 878) : y_T I a b i = I a i := if_pos h
theorem y_ps {D : List (Nat × Nat)} {I : Nat → Nat → Int} {ρ : Nat → Nat → Option Nat} {o : Nat} {S : Nat → Int} (h : c_hall D I ρ o S) : ∃ cs, ps_rel S cs := by
  obtain ⟨c, i1, i2, i3, i4, cs, i5, i6⟩ := h.2.2.2.2.2.2
  exact ⟨cs, i6⟩
theorem x_image {X : Nat × (Nat → Int)} {D : List (Nat × Nat)} {I J : Nat → Nat → Int} {ρ : Nat → Nat → Option Nat} {n : Nat} (d : Nat) (h : y_iv n D I ρ) : am_E X (d + 3) 119 0 [(0, .inr (.inr (.inl (some 0))))] [] (am_mm D I J ρ) (fun r => ∃ K1 J1 ρ1, r = (some (.inl (I 108 19)), am_mm D K1 J1 ρ1) ∧ y_x I ρ D K1 ρ1 (I 108) (y_T I 108 109) 1 (I 107 32) (I 123)) := by
  refine (c_image d h.1.1 (fun e => (h.2.2.1 e).1) h.2.1 h.2.2.2.2.2.2.1).imp ?_
  rintro r ⟨K1, ρ1, e, hr, hf⟩
  refine ⟨K1, J, ρ1, e, ?_, hf, fun e => absurd rfl e⟩
  obtain ⟨r1, ⟨r2, r3⟩, r4, r5, r6⟩ := hr
  exact ⟨r1, ⟨r2, fun e => c_hall_eq (Or.inr rfl) h.1.1 r5 (r3 e) (fun i hi => y_T_eq hi)⟩, r4, r5, r6⟩
theorem m_image {X : Nat × (Nat → Int)} {D D1 : List (Nat × Nat)} {I K J : Nat → Nat → Int} {ρ ρ1 : Nat → Nat → Option Nat} {n : Nat} (d : Nat) (h : y_iv n D I ρ) (hK : ∀ c i, 107 ≤ c → c < 124 → K c i = I c i) : am_E X d 214 0 [(0, .inr (.inr (.inl (some 107))))] [] (am_mm D1 K J ρ1) (fun r => ∃ K2 J2, r = (some (.inl (I 108 19)), am_mm D1 K2 J2 ρ1) ∧ y_m K K2 (I 108) (y_T I 108 109) 1 (I 107 32) (I 123)) := by
  have h27 : -2147483648 ≤ K 107 27 ∧ K 107 27 < 2147483648 := by rw [hK 107 27 (by omega) (by omega)]; exact h.2.2.2.2.2.1
  refine (r_image d).imp ?_
  intro r e
  have e19 : am_cpI K 109 108 878 108 19 = I 108 19 := (if_neg (by omega)).trans (hK 108 19 (by omega) (by omega))
  rw [e19] at e
  refine ⟨_, J, e, fun c i hc => ?_, funext (fun i => ?_), funext (fun i => ?_), am_up_at2, ?_, funext (fun i => ?_), ?_⟩
  · unfold c_fx at hc
    exact (am_up_ne2 (by omega)).trans (if_neg (by omega))
  · exact (am_up_ne2 (by omega)).trans ((if_neg (by omega)).trans (hK 108 i (by omega) (by omega)))
  · rw [am_up_ne2 (by omega)]
    unfold y_T am_cpI
    by_cases hi : i < 878
    · rw [if_pos ⟨rfl, hi⟩, if_pos hi]; exact hK 108 i (by omega) (by omega)
    · rw [if_neg (fun f => hi f.2), if_neg hi]; exact hK 109 i (by omega) (by omega)
  · exact (am_up_ne2 (by omega)).trans ((if_neg (by omega)).trans (hK 107 32 (by omega) (by omega)))
  · exact (am_up_ne2 (by omega)).trans ((if_neg (by omega)).trans (hK 123 i (by omega) (by omega)))
  · rw [show am_up (am_cpI K 109 108 878) 107 4 1 107 27 = K 107 27 from (am_up_ne2 (by omega)).trans (if_neg (by omega))]; exact h27
theorem y_image {D : List (Nat × Nat)} {I K1 K2 : Nat → Nat → Int} {ρ ρ1 : Nat → Nat → Option Nat} {n : Nat} (h : y_iv n D I ρ) (hx : y_x I ρ D K1 ρ1 (I 108) (y_T I 108 109) 1 (I 107 32) (I 123)) (hm : y_m K1 K2 (I 108) (y_T I 108 109) 1 (I 107 32) (I 123)) : y_iv (n + 1) D K2 ρ1 := by
  obtain ⟨cs, hcs⟩ := y_ps h.2.2.2.2.2.2.1.1
  exact y_fin0 h hx hm (y_mono h.1 (by omega)) (fun _ => y_mono (y_eq (fun i hi => y_T_eq hi) hcs h.1) (by omega)) (Or.inr rfl) h.2.2.2.2.1
theorem x_undo1 {X : Nat × (Nat → Int)} {D : List (Nat × Nat)} {I J : Nat → Nat → Int} {ρ : Nat → Nat → Option Nat} {n : Nat} (d : Nat) (h : y_iv n D I ρ) (h4 : I 107 4 = 1) : am_E X (d + 3) 120 0 [(0, .inr (.inr (.inl (some 0))))] [] (am_mm D I J ρ) (fun r => ∃ K1 J1 ρ1, r = (some (.inl (I 109 19)), am_mm D K1 J1 ρ1) ∧ y_x I ρ D K1 ρ1 (y_T I 109 108) (I 109) (I 107 4) (I 107 32) (I 123)) := by
  refine (c_undo d h.1.1 (fun e => (h.2.2.1 e).1) h.2.1 h.2.2.2.2.2.2.1).imp ?_
  rintro r ⟨K1, ρ1, e, hr, hq, hf⟩
  rw [if_pos h4] at e hr
  refine ⟨K1, J, ρ1, e, ?_, hf, fun e => absurd h4 e⟩
  obtain ⟨r1, r3, r4, r5, r6⟩ := hr
  exact ⟨c_hall_eq (Or.inl rfl) (h.2.2.1 h4).1 r5 r1 (fun i hi => y_T_eq hi), r3, r4, r5, r6⟩
theorem m_undo1 {X : Nat × (Nat → Int)} {D D1 : List (Nat × Nat)} {I K J : Nat → Nat → Int} {ρ ρ1 : Nat → Nat → Option Nat} {n : Nat} (d : Nat) (h : y_iv n D I ρ) (h4 : I 107 4 = 1) (hK : ∀ c i, 107 ≤ c → c < 124 → K c i = I c i) : am_E X d 215 0 [(0, .inr (.inr (.inl (some 107))))] [] (am_mm D1 K J ρ1) (fun r => ∃ K2 J2, r = (some (.inl (I 109 19)), am_mm D1 K2 J2 ρ1) ∧ y_m K K2 (y_T I 109 108) (I 109) (I 107 4) (I 107 32) (I 123)) := by
  have h27 : -2147483648 ≤ K 107 27 ∧ K 107 27 < 2147483648 := by rw [hK 107 27 (by omega) (by omega)]; exact h.2.2.2.2.2.1
  refine (r_undo1 d ((hK 107 4 (by omega) (by omega)).trans h4)).imp ?_
  intro r e
  have e19 : am_cpI K 108 109 878 108 19 = I 109 19 := (if_pos ⟨rfl, by omega⟩).trans (hK 109 19 (by omega) (by omega))
  rw [e19] at e
  refine ⟨_, J, e, fun c i hc => ?_, funext (fun i => ?_), funext (fun i => ?_), ?_, ?_, funext (fun i => ?_), ?_⟩
  · unfold c_fx at hc
    exact if_neg (by omega)
  · unfold y_T am_cpI
    by_cases hi : i < 878
    · rw [if_pos ⟨rfl, hi⟩, if_pos hi]; exact hK 109 i (by omega) (by omega)
    · rw [if_neg (fun f => hi f.2), if_neg hi]; exact hK 108 i (by omega) (by omega)
  · exact (if_neg (by omega)).trans (hK 109 i (by omega) (by omega))
  · exact (if_neg (by omega)).trans (hK 107 4 (by omega) (by omega))
  · exact (if_neg (by omega)).trans (hK 107 32 (by omega) (by omega))
  · exact (if_neg (by omega)).trans (hK 123 i (by omega) (by omega))
  · rw [show am_cpI K 108 109 878 107 27 = K 107 27 from if_neg (by omega)]; exact h27
theorem y_undo {D : List (Nat × Nat)} {I K1 K2 : Nat → Nat → Int} {ρ ρ1 : Nat → Nat → Option Nat} {n : Nat} (h : y_iv n D I ρ) (h4 : I 107 4 = 1) (hx : y_x I ρ D K1 ρ1 (y_T I 109 108) (I 109) (I 107 4) (I 107 32) (I 123)) (hm : y_m K1 K2 (y_T I 109 108) (I 109) (I 107 4) (I 107 32) (I 123)) : y_iv (n + 1) D K2 ρ1 := by
  obtain ⟨cs, hcs⟩ := y_ps (h.2.2.2.2.2.2.1.2.1.2 h4)
  exact y_chg h hx hm (y_mono (y_eq (fun i hi => y_T_eq hi) hcs (h.2.2.1 h4)) (by omega))
theorem x_undo0 {X : Nat × (Nat → Int)} {D : List (Nat × Nat)} {I J : Nat → Nat → Int} {ρ : Nat → Nat → Option Nat} {n : Nat} (d : Nat) (h : y_iv n D I ρ) (h4 : ¬ I 107 4 = 1) : am_E X (d + 3) 120 0 [(0, .inr (.inr (.inl (some 0))))] [] (am_mm D I J ρ) (fun r => ∃ K1 J1 ρ1, r = (some (.inl (-3)), am_mm D K1 J1 ρ1) ∧ y_x I ρ D K1 ρ1 (I 108) (I 109) (I 107 4) (I 107 32) (I 123)) := by
  refine (c_undo d h.1.1 (fun e => (h.2.2.1 e).1) h.2.1 h.2.2.2.2.2.2.1).imp ?_
  rintro r ⟨K1, ρ1, e, hr, hq, hf⟩
  rw [if_neg h4] at e hr
  exact ⟨K1, J, ρ1, e, hr, hf, fun _ => by rw [hq h4]⟩
theorem m_undo0 {X : Nat × (Nat → Int)} {D D1 : List (Nat × Nat)} {I K J : Nat → Nat → Int} {ρ ρ1 : Nat → Nat → Option Nat} {n : Nat} (d : Nat) (h : y_iv n D I ρ) (h4 : ¬ I 107 4 = 1) (hK : ∀ c i, 107 ≤ c → c < 124 → K c i = I c i) : am_E X d 215 0 [(0, .inr (.inr (.inl (some 107))))] [] (am_mm D1 K J ρ1) (fun r => ∃ K2 J2, r = (some (.inl (-3)), am_mm D1 K2 J2 ρ1) ∧ y_m K K2 (I 108) (I 109) (I 107 4) (I 107 32) (I 123)) := by
  have h40 : I 107 4 = 0 := by rcases h.2.1 with e | e; exact e; exact absurd e h4
  refine (r_undo0 d ((hK 107 4 (by omega) (by omega)).trans h40)).imp ?_
  intro r e
  exact ⟨K, J, e, y_m0 h hK⟩
theorem c_hall_99 {D : List (Nat × Nat)} {I K : Nat → Nat → Int} {ρ : Nat → Nat → Option Nat} {o : Nat} {S : Nat → Int} {B : Int} (hok : r_ok S B) (ho : o = 0 ∨ o = 34) (h : c_hall D I ρ o S) (hk : ∀ c i, c ≠ 99 → K c i = I c i) : c_hall D K ρ o S := by
  have h19 := r_ok_19 hok
  obtain ⟨⟨a1, a2, a3, a4, a5⟩, ⟨b1, b2, b3, b4⟩, ⟨d1, d2⟩, e1, f1, g1, c, i1, ⟨i2, i3, i4, cs, i5, i6⟩⟩ := h
  have hf : ∀ c, c ≠ 99 → ∀ i, K c i = I c i := fun c hc i => hk c i hc
  refine ⟨⟨?_, ?_, ?_, ?_, ?_⟩, ⟨?_, ?_, ?_, ?_⟩, ⟨?_, ?_⟩, ?_, ?_, ?_, c, i1, i2, i3, (hf c (by omega) 0).trans i4, cs, c_cs_cg i5 (fun j i hj => hf _ (by omega) i), i6⟩
  · exact (hf _ (by omega) _).trans a1
  · exact (hf _ (by omega) _).trans a2
  · exact (hf _ (by omega) _).trans a3
  · exact (hf _ (by omega) _).trans a4
  · exact (hf _ (by omega) _).trans a5
  · exact (hf _ (by omega) _).trans b1
  · exact (hf _ (by omega) _).trans b2
  · exact (hf _ (by omega) _).trans b3
  · exact fun m hm => (hf _ (by omega) _).trans (b4 m hm)
  · exact fun i hi => (hf _ (by omega) _).trans (d1 i hi)
  · exact fun i hi => (hf _ (by omega) _).trans (d2 i hi)
  · exact fun b hb => ⟨(hf _ (by omega) _).trans (e1 b hb).1, (hf _ (by omega) _).trans (e1 b hb).2.1, (hf _ (by omega) _).trans (e1 b hb).2.2.1, (hf _ (by omega) _).trans (e1 b hb).2.2.2⟩
  · exact fun m b hm hb => ⟨(hf _ (by omega) _).trans (f1 m b hm hb).1, (hf _ (by omega) _).trans (f1 m b hm hb).2⟩
  · intro m hm
    obtain ⟨k, j1, j2, j3, j4, j5, j6⟩ := g1 m hm
    exact ⟨k, j1, j2, j3, (hf k (by omega) 0).trans j4, (hf k (by omega) 1).trans j5, (hf k (by omega) 2).trans j6⟩
theorem c_actl_len {S : Nat → Int} {m a x : Int} : (c_actl S m a x).2.length ≤ 8 := by
  unfold c_actl sp_act
  have h1 := sp_wish_len (S (26 + m).toNat) m x
  have h2 := sp_rd_len (S (26 + m).toNat) m (S (32 + m).toNat) x
  have h3 := sp_tk_len (S (26 + m).toNat) m (S (32 + m).toNat) x
  (repeat' split) <;> first | omega | (show 0 ≤ 8; omega)
theorem x_act {X : Nat × (Nat → Int)} {D : List (Nat × Nat)} {I J : Nat → Nat → Int} {ρ : Nat → Nat → Option Nat} {n : Nat} (d : Nat) (h : y_iv n D I ρ) {a1 a2 a3 : Int} (h1 : -2147483648 ≤ a1 ∧ a1 < 2147483648) (h2 : -2147483648 ≤ a2 ∧ a2 < 2147483648) : am_E X (d + 7) 116 0 [(0, .inr (.inr (.inl (some 0)))), (1, .inl a1), (2, .inl a2), (3, .inl a3)] [] (am_mm D I J ρ) (fun r => ∃ K1 J1 ρ1, r = (some (.inl (c_actl (I 108) a1 a2 a3).1), am_mm D K1 J1 ρ1) ∧ y_x I ρ D K1 ρ1 (I 108) (I 109) (I 107 4) ((((c_actl (I 108) a1 a2 a3).2.length : Nat)) : Int) (am_rs (I 123) 0 (c_actl (I 108) a1 a2 a3).2)) := by
  refine (c_act d h.1.1 h.1.2.1 h.2.2.2.2.2.2.1.1 h1 h2).imp ?_
  intro r e
  generalize hl : (c_actl (I 108) a1 a2 a3).2 = l at e ⊢
  have hne : ∀ c i, c ≠ 99 → c_bg (am_up I 99 0 0) 0 l c i = I c i := fun c i hc => (if_neg hc).trans (am_up_ne2 (Or.inl hc))
  refine ⟨_, J, ρ, e, ?_, fun c i a b => hne c i (by omega), fun _ => rfl⟩
  obtain ⟨r1, ⟨r2, r3⟩, r4, r5, r6⟩ := h.2.2.2.2.2.2.1
  refine ⟨c_hall_99 h.1.1 (Or.inl rfl) r1 hne, ⟨(hne 0 8 (by omega)).trans r2, fun e => c_hall_99 (h.2.2.1 e).1 (Or.inr rfl) (r3 e) hne⟩, ⟨?_, fun i hi hr => ?_⟩, r5, r6⟩
  · show ((0 + l.length : Nat) : Int) = _
    rw [Nat.zero_add]
  · have e1 := am_rs_get (l := l) (r := am_up I 99 0 0 99) (n := 1 + 0) (i := i) (by omega)
    have e2 := am_rs_get (l := l) (r := I 123) (n := 0) (i := i) (by omega)
    rw [Nat.zero_add] at e2
    rw [e2, ← e1]
    show (if 99 = 99 then (if 1 + i = 0 then _ else am_rs (am_up I 99 0 0 99) (1 + 0) l (1 + i)) else _) = _
    rw [if_pos rfl, if_neg (by omega)]
theorem m_act {X : Nat × (Nat → Int)} {D D1 : List (Nat × Nat)} {I K J : Nat → Nat → Int} {ρ ρ1 : Nat → Nat → Option Nat} {n : Nat} (d : Nat) (h : y_iv n D I ρ) (hK : ∀ c i, 107 ≤ c → c < 124 → K c i = I c i) {a1 a2 a3 : Int} (h1 : -2147483648 ≤ a1 ∧ a1 < 2147483648) (h2 : -2147483648 ≤ a2 ∧ a2 < 2147483648) : am_E X (d + 8) 211 0 [(0, .inr (.inr (.inl (some 107)))), (1, .inl a1), (2, .inl a2), (3, .inl a3)] [] (am_mm D1 K J ρ1) (fun r => ∃ K2 J2, r = (some (.inl (c_actl (I 108) a1 a2 a3).1), am_mm D1 K2 J2 ρ1) ∧ y_m K K2 (I 108) (I 109) (I 107 4) ((((c_actl (I 108) a1 a2 a3).2.length : Nat)) : Int) (am_rs (I 123) 0 (c_actl (I 108) a1 a2 a3).2)) := by
  have e8 : K 108 = I 108 := y_row hK (by omega) (by omega)
  have hok : r_ok (K 108) (80050 * (n : Int)) := by rw [e8]; exact h.1.1
  have h27 : -2147483648 ≤ K 107 27 ∧ K 107 27 < 2147483648 := by rw [hK 107 27 (by omega) (by omega)]; exact h.2.2.2.2.2.1
  by_cases hv : (0 ≤ a1 ∧ a1 ≤ I 108 19 - 1) ∧ (0 ≤ a2 ∧ a2 ≤ 2)
  · have el : c_actl (I 108) a1 a2 a3 = sp_act (I 108 (26 + a1).toNat) a1 (I 108 (32 + a1).toNat) a2 a3 := if_pos hv
    rw [el]
    refine (r_act1 d (by rw [e8]; exact hv.1) hv.2 hok).imp ?_
    intro r e
    rw [e8] at e
    generalize (sp_act (I 108 (26 + a1).toNat) a1 (I 108 (32 + a1).toNat) a2 a3).2 = l at e ⊢
    have ha : ∀ c i, c ≠ 107 → sp_actI K a1 a2 c i = K c i := fun c i hc => (am_up_ne2 (Or.inl hc)).trans ((am_up_ne2 (Or.inl hc)).trans ((am_up_ne2 (Or.inl hc)).trans (am_up_ne2 (Or.inl hc))))
    have h7 : ∀ i, i ≠ 32 → i ≠ 33 → i ≠ 34 → i ≠ 35 → am_tq (sp_actI K a1 a2) 0 l 107 i = K 107 i := fun i q1 q2 q3 q4 => (am_tq_fld q1).trans ((am_up_ne2 (by omega)).trans ((am_up_ne2 (by omega)).trans ((am_up_ne2 (by omega)).trans (am_up_ne2 (by omega)))))
    have hn : ∀ c i, c ≠ 123 → c ≠ 107 → am_tq (sp_actI K a1 a2) 0 l c i = K c i := fun c i q1 q2 => (congrFun (am_tq_ne q1 q2) i).trans (ha c i q2)
    refine ⟨_, J, e, fun c i hc => ?_, funext (fun i => ?_), funext (fun i => ?_), ?_, ?_, ?_, ?_⟩
    · unfold c_fx at hc; exact hn c i (by omega) (by omega)
    · exact (hn 108 i (by omega) (by omega)).trans (hK 108 i (by omega) (by omega))
    · exact (hn 109 i (by omega) (by omega)).trans (hK 109 i (by omega) (by omega))
    · exact (h7 4 (by omega) (by omega) (by omega) (by omega)).trans (hK 107 4 (by omega) (by omega))
    · rw [am_tq_ran, Nat.zero_add]
    · rw [am_tq_123, show sp_actI K a1 a2 123 = I 123 from funext (fun i => (ha 123 i (by omega)).trans (hK 123 i (by omega) (by omega)))]
    · rw [h7 27 (by omega) (by omega) (by omega) (by omega)]; exact h27
  · have el : c_actl (I 108) a1 a2 a3 = (0, []) := if_neg hv
    rw [el]
    refine (r_act0 d h1 h2 (by rw [e8]; exact hv) hok).imp ?_
    intro r e
    refine ⟨_, J, e, fun c i hc => ?_, funext (fun i => ?_), funext (fun i => ?_), ?_, am_up_at2, funext (fun i => ?_), ?_⟩
    · unfold c_fx at hc; exact am_up_ne2 (by omega)
    · exact (am_up_ne2 (by omega)).trans (hK 108 i (by omega) (by omega))
    · exact (am_up_ne2 (by omega)).trans (hK 109 i (by omega) (by omega))
    · exact (am_up_ne2 (by omega)).trans (hK 107 4 (by omega) (by omega))
    · exact (am_up_ne2 (by omega)).trans (hK 123 i (by omega) (by omega))
    · rw [am_up_ne2 (by omega)]; exact h27
theorem y_act {D : List (Nat × Nat)} {I K1 K2 : Nat → Nat → Int} {ρ ρ1 : Nat → Nat → Option Nat} {n : Nat} {a1 a2 a3 : Int} (h : y_iv n D I ρ) (hx : y_x I ρ D K1 ρ1 (I 108) (I 109) (I 107 4) ((((c_actl (I 108) a1 a2 a3).2.length : Nat)) : Int) (am_rs (I 123) 0 (c_actl (I 108) a1 a2 a3).2)) (hm : y_m K1 K2 (I 108) (I 109) (I 107 4) ((((c_actl (I 108) a1 a2 a3).2.length : Nat)) : Int) (am_rs (I 123) 0 (c_actl (I 108) a1 a2 a3).2)) : y_iv (n + 1) D K2 ρ1 := y_fin0 h hx hm (y_mono h.1 (by omega)) (fun e => y_mono (h.2.2.1 e) (by omega)) (Or.inl rfl) (by have := c_actl_len (S := I 108) (m := a1) (a := a2) (x := a3); omega)
