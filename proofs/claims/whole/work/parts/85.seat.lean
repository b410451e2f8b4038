/-! THE CLASS: the hall behind a new member -/
def sp_mb (S : Nat → Int) (n : Nat) (kd v : Int) : Nat → Int := am_u1 (am_u1 (am_u1 (am_u1 (am_u1 S (26 + n) kd) (32 + n) v) (1 + n) 0) (7 + n) 0) 19 ((n : Int) + 1)
theorem sp_mb_at {S : Nat → Int} {n : Nat} {kd v : Int} (hn : n < 6) : sp_mb S n kd v (26 + n) = kd ∧ sp_mb S n kd v (32 + n) = v ∧ sp_mb S n kd v (1 + n) = 0 ∧ sp_mb S n kd v (7 + n) = 0 ∧ sp_mb S n kd v 19 = (n : Int) + 1 ∧ ∀ i, (i ≠ 26 + n ∧ i ≠ 32 + n ∧ i ≠ 1 + n ∧ i ≠ 7 + n ∧ i ≠ 19) → sp_mb S n kd v i = S i := by
  unfold sp_mb am_u1
  refine ⟨?_, ?_, ?_, ?_, ?_, ?_⟩
  · (repeat' split) <;> first | rfl | (exfalso; omega)
  · (repeat' split) <;> first | rfl | (exfalso; omega)
  · (repeat' split) <;> first | rfl | (exfalso; omega)
  · (repeat' split) <;> first | rfl | (exfalso; omega)
  · (repeat' split) <;> first | rfl | (exfalso; omega)
  · intro i hi
    (repeat' split) <;> first | rfl | (exfalso; omega)
theorem sp_mb_ok {S : Nat → Int} {B : Int} {n : Nat} {kd v : Int} (hok : r_ok S B) (hn : n < 6) (hk : 0 ≤ kd ∧ kd ≤ 6) (hv : 0 ≤ v ∧ v ≤ 9) : r_ok (sp_mb S n kd v) B := by
  have hB := r_ok_B hok
  obtain ⟨q1, q2, q3, q4, q5, hO⟩ := sp_mb_at (S := S) (kd := kd) (v := v) hn
  obtain ⟨o0, oG, oH, oD, o19, o20, o21, o22, o23, o24, oK, oV, oP, oM, oS, oY, oHd, oT, oC, oN⟩ := hok
  refine ⟨by rw [hO 0 (by omega)]; exact o0, fun m hm => ?_, fun m hm => ?_, fun b hb => by rw [hO (13 + b) (by omega)]; exact oD b hb, by rw [q5]; omega, by rw [hO 20 (by omega)]; exact o20, by rw [hO 21 (by omega)]; exact o21, by rw [hO 22 (by omega)]; exact o22, by rw [hO 23 (by omega)]; exact o23, by rw [hO 24 (by omega)]; exact o24, fun m hm => ?_, fun m hm => ?_, fun b hb => by rw [hO (38 + b) (by omega)]; exact oP b hb, fun b hb => by rw [hO (44 + b) (by omega)]; exact oM b hb, fun b hb => by rw [hO (50 + b) (by omega)]; exact oS b hb, fun b hb => by rw [hO (56 + b) (by omega)]; exact oY b hb, fun h hh => by rw [hO (62 + h) (by omega)]; exact oHd h hh, fun i hi => by rw [hO (68 + i) (by omega)]; exact oT i hi, fun c hc => by rw [hO (168 + c) (by omega)]; exact oC c hc, fun c hc => by rw [hO (173 + c) (by omega)]; exact oN c hc⟩
  · by_cases e : m = n
    · rw [e, q3]; omega
    · rw [hO (1 + m) (by omega)]; exact oG m hm
  · by_cases e : m = n
    · rw [e, q4]; exact Or.inl rfl
    · rw [hO (7 + m) (by omega)]; exact oH m hm
  · by_cases e : m = n
    · rw [e, q1]; exact hk
    · rw [hO (26 + m) (by omega)]; exact oK m hm
  · by_cases e : m = n
    · rw [e, q2]; exact hv
    · rw [hO (32 + m) (by omega)]; exact oV m hm
theorem c_mb_hall {D : List (Nat × Nat)} {I M K : Nat → Nat → Int} {ρ ρ' : Nat → Nat → Option Nat} {S : Nat → Int} {B : Int} {n N : Nat} {kd v : Int} (hok : r_ok S B) (hn : S 19 = (n : Int)) (hn6 : n < 6) (hkd : 0 ≤ kd ∧ kd ≤ 6) (hh : c_hall D I ρ 0 S) (hM : ∀ c j, ¬ (c = 2 ∧ j = 1) → ¬ (c = 3 ∧ j = n) → ¬ (c = 1 ∧ j = 2) → M c j = I c j) (h12 : M 1 2 = (n : Int) + 1) (h21 : M 2 1 = am_bits (fun x => if x = n then true else sp_hp S x) 6) (h3 : M 3 n = 0) (hr : ρ' 4 n = some N) (hro : ∀ k j, ¬ (k = 4 ∧ j = n) → ρ' k j = ρ k j) (hN : 124 ≤ N) (hNk : (am_S ++ D)[N]? = some (am_kc kd.toNat, 3)) (hN0 : M N 0 = kd) (hN1 : M N 1 = (n : Int)) (hN2 : M N 2 = v) : c_mdt D M ρ' (sp_mb S n kd v) ∧ ((∀ c j, c_lor c → K c j = M c j) → c_lo K 0 (sp_mb S n kd v) → c_hall D K ρ' 0 (sp_mb S n kd v)) := by
  obtain ⟨q1, q2, q3, q4, q5, hO⟩ := sp_mb_at (S := S) (kd := kd) (v := v) hn6
  have h24 := r_ok_24 hok
  have h19 := r_ok_19 hok
  obtain ⟨⟨a1, a2, a3, a4, a5⟩, ⟨b1, b2, b3, b4⟩, ⟨d1, d2⟩, e1, f1, g1, c, i1, ⟨i2, i3, i4, cs, i5, i6⟩⟩ := hh
  generalize hS : sp_mb S n kd v = S' at *
  have h2 : ∀ i, (i = 24 ∨ 168 ≤ i) → S' i = S i := fun i hi => hO i (by omega)
  have hcl : c_clb D M ρ' 1 S' := ⟨c, (hro 1 5 (by omega)).trans i1, c_clk_cg i2 (fun j => hro c j (by omega)), i3, by rw [(sp_s2 h24 h2).2.1]; exact (hM c 0 (by omega) (by omega) (by omega)).trans i4, cs, c_cs_cg i5 (fun j i hj => hM _ _ (by omega) (by omega) (by omega)), ps_rel_s2 h24 h2 i6⟩
  have hbk : ∀ b, b < (S' 20).toNat → M (6 + b) 0 = S' (38 + b) ∧ M (6 + b) 1 = S' (44 + b) ∧ M (6 + b) 2 = S' (50 + b) ∧ M (6 + b) 3 = S' (56 + b) := by
    intro b hb
    rw [hO 20 (by omega)] at hb
    have h4 := e1 b hb
    rw [hO (38 + b) (by omega), hO (44 + b) (by omega), hO (50 + b) (by omega), hO (56 + b) (by omega)]
    have hx : ∀ j, M (6 + b) j = I (6 + 0 + b) j := fun j => hM (6 + b) j (by omega) (by omega) (by omega)
    exact ⟨(hx 0).trans h4.1, (hx 1).trans h4.2.1, (hx 2).trans h4.2.2.1, (hx 3).trans h4.2.2.2⟩
  have hme : c_mems D M ρ' 4 S' := by
    intro m hm
    rw [q5] at hm
    by_cases e : m = n
    · subst e
      exact ⟨N, hr, hN, by rw [q1]; exact hNk, by rw [q1]; exact hN0, hN1, by rw [q2]; exact hN2⟩
    · obtain ⟨k, j1, j2, j3, j4, j5, j6⟩ := g1 m (by omega)
      have hx : ∀ j, M k j = I k j := fun j => hM k j (by omega) (by omega) (by omega)
      exact ⟨k, (hro 4 m (by omega)).trans j1, j2, by rw [hO (26 + m) (by omega)]; exact j3, by rw [hO (26 + m) (by omega)]; exact (hx 0).trans j4, (hx 1).trans j5, by rw [hO (32 + m) (by omega)]; exact (hx 2).trans j6⟩
  have hmd : c_mdt D M ρ' S' := ⟨by rw [q5]; exact h12, by rw [hO 20 (by omega)]; exact (hM 1 4 (by omega) (by omega) (by omega)).trans a2, hbk, hme, hcl⟩
  refine ⟨hmd, fun hK hlo => ?_⟩
  have hf : ∀ c, c_lor c → ∀ j, K c j = M c j := fun c hc j => hK c j hc
  have hKI : ∀ c j, c_lor c → ¬ (c = 2 ∧ j = 1) → ¬ (c = 3 ∧ j = n) → ¬ (c = 1 ∧ j = 2) → K c j = I c j := fun c j h0 h1 h2 h3 => (hK c j h0).trans (hM c j h1 h2 h3)
  have hl : ∀ c, c < 20 → c_lor c := fun c hc => by unfold c_lor; omega
  refine ⟨⟨?_, ?_, ?_, ?_, ?_⟩, ⟨?_, ?_, ?_, ?_⟩, ⟨?_, ?_⟩, ?_, hlo, ?_, ?_⟩
  · rw [q5]; exact (hf 1 (hl _ (by omega)) 2).trans h12
  · rw [hO 20 (by omega)]; exact (hKI 1 4 (hl _ (by omega)) (by omega) (by omega) (by omega)).trans a2
  · rw [hO 21 (by omega)]; exact (hKI 1 6 (hl _ (by omega)) (by omega) (by omega) (by omega)).trans a3
  · rw [hO 23 (by omega)]; exact (hKI 1 8 (hl _ (by omega)) (by omega) (by omega) (by omega)).trans a4
  · rw [hO 22 (by omega)]; exact (hKI 1 10 (hl _ (by omega)) (by omega) (by omega) (by omega)).trans a5
  · rw [hO 0 (by omega)]; exact (hKI 2 0 (hl _ (by omega)) (by omega) (by omega) (by omega)).trans b1
  · refine ((hf 2 (hl _ (by omega)) 1).trans h21).trans (am_bits_cg 6 (fun x hx => ?_))
    unfold sp_hp
    rw [q5]
    by_cases e : x = n
    · subst e; rw [if_pos rfl, q4, decide_eq_true (show x < ((x : Int) + 1).toNat by omega)]; rfl
    · rw [if_neg e, hO (7 + x) (by omega), hn]
      by_cases e2 : x < n
      · rw [decide_eq_true (show x < ((n : Int)).toNat by omega), decide_eq_true (show x < ((n : Int) + 1).toNat by omega)]
      · rw [decide_eq_false (show ¬ x < ((n : Int)).toNat by omega), decide_eq_false (show ¬ x < ((n : Int) + 1).toNat by omega)]
  · refine ((hKI 2 2 (hl _ (by omega)) (by omega) (by omega) (by omega)).trans b3).trans (am_bits_cg 6 (fun x hx => ?_))
    unfold sp_dp
    rw [hO 20 (by omega), hO (13 + x) (by omega)]
  · intro m hm
    rw [q5] at hm
    by_cases e : m = n
    · subst e; rw [q3]; exact (hf 3 (hl _ (by omega)) m).trans h3
    · rw [hO (1 + m) (by omega)]
      exact (hKI 3 m (hl _ (by omega)) (by omega) (by omega) (by omega)).trans (b4 m (by omega))
  · intro i hi
    rw [hO 23 (by omega)] at hi
    rw [hO (68 + i) (by omega)]
    exact (hKI 17 i (hl _ (by omega)) (by omega) (by omega) (by omega)).trans (d1 i hi)
  · intro i hi
    rw [hO 22 (by omega)] at hi
    rw [hO (62 + i) (by omega)]
    exact (hKI 18 i (hl _ (by omega)) (by omega) (by omega) (by omega)).trans (d2 i hi)
  · intro b hb
    have h4 := hbk b hb
    have hx : ∀ j, K (6 + 0 + b) j = M (6 + b) j := fun j => hf (6 + b) (by rw [hO 20 (by omega)] at hb; unfold c_lor; omega) j
    exact ⟨(hx 0).trans h4.1, (hx 1).trans h4.2.1, (hx 2).trans h4.2.2.1, (hx 3).trans h4.2.2.2⟩
  · intro m hm
    obtain ⟨k, j1, j2, j3, j4, j5, j6⟩ := hme m hm
    have hx := hf k (by unfold c_lor; omega)
    exact ⟨k, j1, j2, j3, (hx 0).trans j4, (hx 1).trans j5, (hx 2).trans j6⟩
  · obtain ⟨c, i1, i2, i3, i4, cs, i5, i6⟩ := hcl
    exact ⟨c, i1, i2, i3, (hf c (by unfold c_lor; omega) 0).trans i4, cs, c_cs_cg i5 (fun j i hj => hf _ (by unfold c_lor; omega) i), i6⟩
/-- a cell more -/
theorem am_lt_at {D : List (Nat × Nat)} {k : Nat} {s : Nat × Nat} (h : (am_S ++ D)[k]? = some s) : k < 124 + D.length := by
  have := (List.getElem?_eq_some_iff.mp h).1
  rw [List.length_append, am_S_124] at this
  exact this
section
variable {D E : List (Nat × Nat)} {I K : Nat → Nat → Int} {ρ ρ' : Nat → Nat → Option Nat} {S T : Nat → Int} {B : Int}
theorem c_clk_new {c : Nat} (h : c_clk D ρ c) (hr : ∀ k j, k < 124 + D.length → ρ' k j = ρ k j) : c_clk (D ++ E) ρ' c := by
  obtain ⟨⟨s0, s1, s2, s3, s4⟩, h2⟩ := h
  have := c_clk_cg (ρ' := ρ') ⟨⟨s0, s1, s2, s3, s4⟩, h2⟩ (fun j => hr c j (am_lt_at s0))
  exact ⟨⟨am_old_at s0, am_old_at s1, am_old_at s2, am_old_at s3, am_old_at s4⟩, this.2⟩
theorem c_hall_new {o : Nat} (hok : r_ok S B) (ho : o = 0 ∨ o = 34) (h : c_hall D I ρ o S) (hk : ∀ c j, c < 124 + D.length → K c j = I c j) (hr : ∀ k j, k < 124 + D.length → ρ' k j = ρ k j) : c_hall (D ++ E) K ρ' o S := by
  have h19 := r_ok_19 hok
  obtain ⟨⟨a1, a2, a3, a4, a5⟩, ⟨b1, b2, b3, b4⟩, ⟨d1, d2⟩, e1, f1, g1, c, i1, ⟨i2, i3, i4, cs, i5, i6⟩⟩ := h
  have hf : ∀ c, c < 124 → ∀ j, K c j = I c j := fun c hc j => hk c j (by omega)
  have hc4 := am_lt_at i2.1.2.2.2.2
  refine ⟨⟨?_, ?_, ?_, ?_, ?_⟩, ⟨?_, ?_, ?_, ?_⟩, ⟨?_, ?_⟩, ?_, ?_, ?_, c, (hr _ _ (by omega)).trans i1, c_clk_new i2 hr, i3, (hk c 0 (by omega)).trans i4, cs, c_cs_cg i5 (fun j i hj => hk _ _ (by omega)), i6⟩
  · exact (hf _ (by omega) _).trans a1
  · exact (hf _ (by omega) _).trans a2
  · exact (hf _ (by omega) _).trans a3
  · exact (hf _ (by omega) _).trans a4
  · exact (hf _ (by omega) _).trans a5
  · exact (hf _ (by omega) _).trans b1
  · exact (hf _ (by omega) _).trans b2
  · exact (hf _ (by omega) _).trans b3
  · exact fun m hm => (hf _ (by omega) _).trans (b4 m hm)
  · exact fun i hi => (hf _ (by omega) _).trans (d1 i hi)
  · exact fun i hi => (hf _ (by omega) _).trans (d2 i hi)
  · exact fun b hb => ⟨(hf _ (by omega) _).trans (e1 b hb).1, (hf _ (by omega) _).trans (e1 b hb).2.1, (hf _ (by omega) _).trans (e1 b hb).2.2.1, (hf _ (by omega) _).trans (e1 b hb).2.2.2⟩
  · exact fun m b hm hb => ⟨(hf _ (by omega) _).trans (f1 m b hm hb).1, (hf _ (by omega) _).trans (f1 m b hm hb).2⟩
  · intro m hm
    obtain ⟨k, j1, j2, j3, j4, j5, j6⟩ := g1 m hm
    have hkl := am_lt_at j3
    exact ⟨k, (hr _ _ (by omega)).trans j1, j2, am_old_at j3, (hk k _ hkl).trans j4, (hk k _ hkl).trans j5, (hk k _ hkl).trans j6⟩
end
