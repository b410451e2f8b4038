/-! THE CLASS AND THE REFERENCE: what ties them behind club -/
section
variable {D E : List (Nat × Nat)} {I M K : Nat → Nat → Int} {ρ ρ' : Nat → Nat → Option Nat} {S S' T : Nat → Int} {B : Int} {c a : Nat} {cs : List ps_C}
theorem sp_fa_lo {m b : Int} (hlo : ∀ i, i < 168 → i ≠ 21 → i ≠ 23 → i ≠ 24 → S' i = S i) (hm : 0 ≤ m ∧ m < 6) (hb : 0 ≤ b ∧ b < 6) : sp_fa S' m b = sp_fa S m b := by
  funext i
  unfold sp_fa
  rw [hlo (26 + m).toNat (by omega) (by omega) (by omega) (by omega), hlo (38 + b).toNat (by omega) (by omega) (by omega) (by omega), hlo (44 + b).toNat (by omega) (by omega) (by omega) (by omega), hlo (50 + b).toNat (by omega) (by omega) (by omega) (by omega)]
theorem sp_like_ps {m b : Int} (h : ps_rel S cs) (h' : ps_rel S' cs) (hlo : ∀ i, i < 168 → i ≠ 21 → i ≠ 23 → i ≠ 24 → S' i = S i) (hm : 0 ≤ m ∧ m < 6) (hb : 0 ≤ b ∧ b < 6) : sp_like S' m b = sp_like S m b ∧ sp_odds S' m b = sp_odds S m b := by
  have e1 := ps_lk (m := m) (b := b) h
  have e2 := ps_lk (m := m) (b := b) h'
  rw [sp_fa_lo hlo hm hb] at e2
  have l1 : sp_lk S' m b = sp_lk S m b := e2.1.trans e1.1.symm
  have l2 : sp_rd' S' m b = sp_rd' S m b := e2.2.trans e1.2.symm
  have g : ∀ i : Nat, i < 168 → 25 < i → S' i = S i := fun i h1 h2 => hlo i h1 (by omega) (by omega) (by omega)
  have hL : sp_like S' m b = sp_like S m b := by
    unfold sp_like
    rw [l1, g (26 + m).toNat (by omega) (by omega), g (56 + b).toNat (by omega) (by omega), g (32 + m).toNat (by omega) (by omega), g (38 + b).toNat (by omega) (by omega)]
  refine ⟨hL, ?_⟩
  unfold sp_odds sp_odd2 sp_odd1
  rw [l2, hL, g (26 + m).toNat (by omega) (by omega), g (56 + b).toNat (by omega) (by omega)]
/-- a hall where the spare club's cells, and the tape's size, have changed -/
theorem c_hall_sp {o : Nat} (ho : o = 0 ∨ o = 34) (hok : r_ok S B) (h : c_hall D I ρ o S) (hlo : ∀ i, i < 168 → i ≠ 23 → S' i = S i) (h23 : S' 23 = S 23 ∨ S' 23 = 0) (hps : ∀ cs, ps_rel S cs → ps_rel S' cs) (hcm : sp_come S' = sp_come S) (hc : c = 102 ∨ 124 ≤ c) (hk : ∀ k j, (o < k ∨ (12 ≤ k ∧ k < 17)) → k < 124 + D.length → k_p2 c k → ¬ (k = 1 ∧ j = 8) → K k j = I k j) (h18 : K (1 + o) 8 = S' 23) (hr : ∀ k j, k < 124 + D.length → ¬ (k = c ∧ j = 8) → ¬ (k = 0 ∧ j = 7) → ¬ (k = 1 ∧ j = 5 ∧ o = 34) → ρ' k j = ρ k j) (hse : ∀ e, ρ (1 + o) 5 = some e → e + 5 ≤ c ∨ c + 5 ≤ e) (hsm : ∀ m k, m < 6 → ρ (4 + o) m = some k → k < c ∨ c + 5 ≤ k) : c_hall (D ++ E) K ρ' o S' := by
  have h19 := r_ok_19 hok
  have hokx := hok
  obtain ⟨o0, oG, oH, oD, o19, o20, o21, o22, o23, o24, oK, oV, oP, oM, oS, oY, oHd, oT, oC, oN⟩ := hokx
  obtain ⟨⟨a1, a2, a3, a4, a5⟩, ⟨b1, b2, b3, b4⟩, ⟨d1, d2⟩, e1, f1, g1, cc, i1, ⟨i2, i3, i4, cs, i5, i6⟩⟩ := h
  have hf : ∀ k, o < k → k < 34 + o → ∀ j, ¬ (k = 1 ∧ j = 8) → K k j = I k j := fun k h1 h2 j h3 => hk k j (Or.inl h1) (by omega) (by unfold k_p2; omega) h3
  have e : ∀ i, i < 168 → i ≠ 23 → S' i = S i := hlo
  have hcc := hse cc i1
  have hcl := am_lt_at i2.1.2.2.2.2
  have hkc : ∀ j i, j < 5 → K (cc + j) i = I (cc + j) i := fun j i hj => hk _ _ (by omega) (by omega) (by unfold k_p2; omega) (by omega)
  refine ⟨⟨?_, ?_, ?_, h18, ?_⟩, ⟨?_, ?_, ?_, ?_⟩, ⟨?_, ?_⟩, ?_, ?_, ?_, cc, (hr _ _ (by omega) (by omega) (by omega) (by omega)).trans i1, ?_, i3, ?_, cs, c_cs_cg i5 hkc, hps cs i6⟩
  · rw [e 19 (by omega) (by omega)]; exact (hf _ (by omega) (by omega) _ (by omega)).trans a1
  · rw [e 20 (by omega) (by omega)]; exact (hf _ (by omega) (by omega) _ (by omega)).trans a2
  · rw [e 21 (by omega) (by omega)]; exact (hf _ (by omega) (by omega) _ (by omega)).trans a3
  · rw [e 22 (by omega) (by omega)]; exact (hf _ (by omega) (by omega) _ (by omega)).trans a5
  · rw [e 0 (by omega) (by omega)]; exact (hf _ (by omega) (by omega) _ (by omega)).trans b1
  · refine ((hf _ (by omega) (by omega) _ (by omega)).trans b2).trans (am_bits_cg 6 (fun x hx => ?_))
    unfold sp_hp
    rw [e 19 (by omega) (by omega), e (7 + x) (by omega) (by omega)]
  · refine ((hf _ (by omega) (by omega) _ (by omega)).trans b3).trans (am_bits_cg 6 (fun x hx => ?_))
    unfold sp_dp
    rw [e 20 (by omega) (by omega), e (13 + x) (by omega) (by omega)]
  · intro m hm
    rw [e 19 (by omega) (by omega)] at hm
    rw [e (1 + m) (by omega) (by omega)]
    exact (hf _ (by omega) (by omega) _ (by omega)).trans (b4 m hm)
  · intro i hi
    rcases h23 with h23 | h23
    · rw [h23] at hi
      rw [e (68 + i) (by omega) (by omega)]
      exact (hf _ (by omega) (by omega) _ (by omega)).trans (d1 i hi)
    · rw [h23] at hi; exact absurd hi (Nat.not_lt_zero _)
  · intro i hi
    rw [e 22 (by omega) (by omega)] at hi
    rw [e (62 + i) (by omega) (by omega)]
    exact (hf _ (by omega) (by omega) _ (by omega)).trans (d2 i hi)
  · intro b hb
    rw [e 20 (by omega) (by omega)] at hb
    have h4 := e1 b hb
    rw [e (38 + b) (by omega) (by omega), e (44 + b) (by omega) (by omega), e (50 + b) (by omega) (by omega), e (56 + b) (by omega) (by omega)]
    have hx : ∀ j, K (6 + o + b) j = I (6 + o + b) j := fun j => hf _ (by omega) (by omega) j (by omega)
    exact ⟨(hx 0).trans h4.1, (hx 1).trans h4.2.1, (hx 2).trans h4.2.2.1, (hx 3).trans h4.2.2.2⟩
  · intro m b hm hb
    rw [e 19 (by omega) (by omega)] at hm
    rw [e 20 (by omega) (by omega)] at hb
    have h4 := f1 m b hm hb
    obtain ⟨q1, q2⟩ := sp_like_ps (m := (m : Int)) (b := (b : Int)) i6 (hps cs i6) (fun i h1 _ h2 _ => e i h1 h2) (by omega) (by omega)
    rw [q1, q2]
    exact ⟨(hf _ (by omega) (by omega) _ (by omega)).trans h4.1, (hf _ (by omega) (by omega) _ (by omega)).trans h4.2⟩
  · intro m hm
    rw [e 19 (by omega) (by omega)] at hm
    obtain ⟨k, j1, j2, j3, j4, j5, j6⟩ := g1 m hm
    have hkl := am_lt_at j3
    have hks := hsm m k (by omega) j1
    have hx : ∀ j, K k j = I k j := fun j => hk k j (by omega) hkl (by unfold k_p2; omega) (by omega)
    rw [e (26 + m) (by omega) (by omega), e (32 + m) (by omega) (by omega)]
    exact ⟨k, (hr _ _ (by omega) (by omega) (by omega) (by omega)).trans j1, j2, am_old_at j3, (hx 0).trans j4, (hx 1).trans j5, (hx 2).trans j6⟩
  · obtain ⟨⟨s0, s1, s2, s3, s4⟩, t⟩ := i2
    have := c_clk_cg (ρ' := ρ') ⟨⟨s0, s1, s2, s3, s4⟩, t⟩ (fun j => hr cc j (by omega) (by omega) (by omega) (by omega))
    exact ⟨⟨am_old_at s0, am_old_at s1, am_old_at s2, am_old_at s3, am_old_at s4⟩, this.2⟩
  · rw [hcm]; exact (hkc 0 0 (by omega)).trans i4
theorem ps_rel_F (ha : a < 5) (h24 : -1 ≤ S 24) (h24a : S 24 < (a : Int)) (h : sp_cF S S' a) (hr : ps_rel S cs) : ps_rel S' cs := by
  obtain ⟨h1, h2, h3⟩ := hr
  obtain ⟨f1, f2, f3, f4⟩ := h
  have hfl := ps_fl_le (cs := cs)
  have hw1 := h3.1
  have hw3 := h3.2.2
  have e24 : S' 24 = S 24 := f4 24 (by omega)
  have em : sp_many S' = sp_many S := by
    unfold sp_many
    rw [e24]
    by_cases e : S 24 = -1
    · rw [if_pos e, if_pos e]
    · rw [if_neg e, if_neg e]; exact f4 _ (by omega)
  refine ⟨em.trans h1, fun k hk => ?_, h3⟩
  rw [← h2 k hk]
  by_cases e : S 24 = -1
  · exfalso
    unfold sp_many at h1
    rw [if_pos e] at h1
    omega
  · unfold sp_stp
    rw [e24]
    exact f4 _ (by omega)
theorem sp_come_F (ha : a < 5) (h24 : -1 ≤ S 24) (h24a : S 24 < (a : Int)) (h : sp_cF S S' a) : sp_come S' = sp_come S := by
  obtain ⟨f1, f2, f3, f4⟩ := h
  have e24 : S' 24 = S 24 := f4 24 (by omega)
  unfold sp_come
  rw [e24]
  by_cases e : S 24 = -1
  · rw [if_pos e, if_pos e]
  · rw [if_neg e, if_neg e]; exact f4 _ (by omega)
/-- a FAULT -/
theorem c_rel_F {hi ran : Int} {row : Nat → Int} (hok : r_ok S B) (hokT : hi = 1 → r_ok T B) (h : c_rel D I ρ S T hi ran row) (ha : a < 5) (h24a : S 24 < (a : Int)) (hF : sp_cF S S' a) (hsp : ρ 0 7 = some c) (hk : ∀ k j, k_p2 c k → ¬ (k = 1 ∧ j = 8) → K k j = I k j) (h18 : K 1 8 = 0) (hr : ρ' = am_up ρ c 8 (some 17)) : c_rel D K ρ' S' T hi ran row := by
  obtain ⟨h1, ⟨h2, h3⟩, ⟨h4, h5⟩, h6, c', s1, s2, s3, s4, s5⟩ := h
  have ec : c' = c := Option.some.inj (s1.symm.trans hsp)
  subst ec
  have hro : ∀ k j, ¬ (k = c' ∧ j = 8) → ρ' k j = ρ k j := fun k j e => by rw [hr]; exact if_neg e
  have h24 := r_ok_24 hok
  have g0 := c_hall_sp (E := []) (K := K) (ρ' := ρ') (S' := S') (c := c') (Or.inl rfl) hok h1 (fun i a1 a2 => hF.2.2.2 i (by omega)) (Or.inr hF.1) (fun cs => ps_rel_F ha h24 h24a hF) (sp_come_F ha h24 h24a hF) s3 (fun k j _ _ a1 a2 => hk k j a1 a2) (by rw [hF.1]; exact h18) (fun k j _ a1 _ _ => hro k j a1) (fun e he => s4 e (Or.inl he)) (fun m k hm hk => s5 4 m k (Or.inl rfl) hm hk)
  rw [List.append_nil] at g0
  have hx : ∀ k j, k_p2 c' k → k ≠ 1 → K k j = I k j := fun k j a1 a2 => hk k j a1 (fun e => a2 e.1)
  refine ⟨g0, ⟨(hx 0 8 (by unfold k_p2; omega) (by omega)).trans h2, fun e => ?_⟩, ⟨(hx 99 0 (by unfold k_p2; omega) (by omega)).trans h4, fun i hi hr2 => (hx 99 _ (by unfold k_p2; omega) (by omega)).trans (h5 i hi hr2)⟩, ?_, c', (hro 0 7 (by omega)).trans s1, ?_, s3, ?_, ?_⟩
  · have g3 := h3 e
    have g := c_hall_sp (E := []) (K := K) (ρ' := ρ') (S' := T) (c := c') (Or.inr rfl) (hokT e) g3 (fun _ _ _ => rfl) (Or.inl rfl) (fun _ h => h) rfl s3 (fun k j _ _ a1 a2 => hk k j a1 a2) ((hx 35 8 (by unfold k_p2; omega) (by omega)).trans g3.1.2.2.2.1) (fun k j _ a1 _ _ => hro k j a1) (fun e he => s4 e (Or.inr he)) (fun m k hm hk => s5 38 m k (Or.inr rfl) hm hk)
    rw [List.append_nil] at g
    exact g
  · intro a m ha hm
    obtain ⟨k, c0, g1, g2⟩ := h6 a m ha hm
    exact ⟨k, c0, (hro a m (by omega)).trans g1, g2⟩
  · rw [hr]; exact (k_sh_up s2 (am_mut_8 s3)).1
  · intro e he
    rw [hro 1 5 (by omega), hro 35 5 (by omega)] at he
    exact s4 e he
  · intro a m k ha hm hk2
    rw [hro a m (by omega)] at hk2
    exact s5 a m k ha hm hk2
/-- a club that was read: what measureAll leans on, and the hall behind it -/
theorem c_cl_hall (hok : r_ok S B) (h : c_hall D I ρ 0 S) (hS : sp_cS S S' a cs) (ha : a < 5) (hw : ps_wf cs) (hc : c = 102 ∨ 124 ≤ c) (hM : ∀ k j, k < 124 + D.length → k_p2 c k → ¬ (k = 1 ∧ (j = 8 ∨ j = 6)) → M k j = I k j) (h18 : M 1 8 = 0) (h16 : M 1 6 = (a : Int) + 1) (hclk : c_clk (D ++ E) ρ' c) (h0 : M c 0 = pt_cm cs) (hcs : c_cs M c cs) (hr5 : ρ' 1 5 = some c) (hr : ∀ k j, k < 124 + D.length → ¬ (k = c ∧ j = 8) → ¬ (k = 0 ∧ j = 7) → ¬ (k = 1 ∧ j = 5) → ρ' k j = ρ k j) (hsm : ∀ m k, m < 6 → ρ 4 m = some k → k < c ∨ c + 5 ≤ k) : c_mdt (D ++ E) M ρ' S' ∧ ((∀ c j, c_lor c → K c j = M c j) → c_lo K 0 S' → c_hall (D ++ E) K ρ' 0 S') := by
  have h19 := r_ok_19 hok
  obtain ⟨hok', hps, hcm⟩ := sp_cS_ok hok ha hw hS
  have hokx := hok
  obtain ⟨o0, oG, oH, oD, o19, o20, o21, o22, o23, o24, oK, oV, oP, oM, oS, oY, oHd, oT, oC, oN⟩ := hokx
  obtain ⟨⟨a1, a2, a3, a4, a5⟩, ⟨b1, b2, b3, b4⟩, ⟨d1, d2⟩, e1, f1, g1, cc, i1, i2⟩ := h
  obtain ⟨q21, q24, q23, q168, q173, q178, hO⟩ := hS
  have e : ∀ i, i < 168 → i ≠ 21 → i ≠ 23 → i ≠ 24 → S' i = S i := fun i x1 x2 x3 x4 => hO i (by omega)
  have hf : ∀ k, k < 34 → ∀ j, ¬ (k = 1 ∧ (j = 8 ∨ j = 6)) → M k j = I k j := fun k h2 j h3 => hM k j (by omega) (by unfold k_p2; omega) h3
  have hclb : c_clb (D ++ E) M ρ' 1 S' := ⟨c, hr5, hclk, by omega, by rw [hcm]; exact h0, cs, hcs, hps⟩
  have hbk : ∀ b, b < (S' 20).toNat → M (6 + b) 0 = S' (38 + b) ∧ M (6 + b) 1 = S' (44 + b) ∧ M (6 + b) 2 = S' (50 + b) ∧ M (6 + b) 3 = S' (56 + b) := by
    intro b hb
    rw [e 20 (by omega) (by omega) (by omega) (by omega)] at hb
    have h4 := e1 b hb
    rw [e (38 + b) (by omega) (by omega) (by omega) (by omega), e (44 + b) (by omega) (by omega) (by omega) (by omega), e (50 + b) (by omega) (by omega) (by omega) (by omega), e (56 + b) (by omega) (by omega) (by omega) (by omega)]
    have hx : ∀ j, M (6 + b) j = I (6 + 0 + b) j := fun j => hf (6 + b) (by omega) j (by omega)
    exact ⟨(hx 0).trans h4.1, (hx 1).trans h4.2.1, (hx 2).trans h4.2.2.1, (hx 3).trans h4.2.2.2⟩
  have hme : c_mems (D ++ E) M ρ' 4 S' := by
    intro m hm
    rw [e 19 (by omega) (by omega) (by omega) (by omega)] at hm
    obtain ⟨k, j1, j2, j3, j4, j5, j6⟩ := g1 m hm
    have hkl := am_lt_at j3
    have hks := hsm m k (by omega) j1
    have hx : ∀ j, M k j = I k j := fun j => hM k j hkl (by unfold k_p2; omega) (by omega)
    rw [e (26 + m) (by omega) (by omega) (by omega) (by omega), e (32 + m) (by omega) (by omega) (by omega) (by omega)]
    exact ⟨k, (hr _ _ (by omega) (by omega) (by omega) (by omega)).trans j1, j2, am_old_at j3, (hx 0).trans j4, (hx 1).trans j5, (hx 2).trans j6⟩
  refine ⟨⟨?_, ?_, hbk, hme, hclb⟩, fun hK hlo2 => ?_⟩
  · rw [e 19 (by omega) (by omega) (by omega) (by omega)]; exact (hf 1 (by omega) 2 (by omega)).trans a1
  · rw [e 20 (by omega) (by omega) (by omega) (by omega)]; exact (hf 1 (by omega) 4 (by omega)).trans a2
  have hl : ∀ k, k < 20 → c_lor k := fun k hk => by unfold c_lor; omega
  have hKI : ∀ k j, k < 20 → ¬ (k = 1 ∧ (j = 8 ∨ j = 6)) → K k j = I k j := fun k j h1 h2 => (hK k j (hl k h1)).trans (hf k (by omega) j h2)
  refine ⟨⟨?_, ?_, ?_, ?_, ?_⟩, ⟨?_, ?_, ?_, ?_⟩, ⟨?_, ?_⟩, ?_, hlo2, ?_, ?_⟩
  · rw [e 19 (by omega) (by omega) (by omega) (by omega)]; exact (hKI 1 2 (by omega) (by omega)).trans a1
  · rw [e 20 (by omega) (by omega) (by omega) (by omega)]; exact (hKI 1 4 (by omega) (by omega)).trans a2
  · rw [q21]; exact (hK 1 6 (hl 1 (by omega))).trans h16
  · rw [q23]; exact (hK 1 8 (hl 1 (by omega))).trans h18
  · rw [e 22 (by omega) (by omega) (by omega) (by omega)]; exact (hKI 1 10 (by omega) (by omega)).trans a5
  · rw [e 0 (by omega) (by omega) (by omega) (by omega)]; exact (hKI 2 0 (by omega) (by omega)).trans b1
  · refine ((hKI 2 1 (by omega) (by omega)).trans b2).trans (am_bits_cg 6 (fun x hx => ?_))
    unfold sp_hp
    rw [e 19 (by omega) (by omega) (by omega) (by omega), e (7 + x) (by omega) (by omega) (by omega) (by omega)]
  · refine ((hKI 2 2 (by omega) (by omega)).trans b3).trans (am_bits_cg 6 (fun x hx => ?_))
    unfold sp_dp
    rw [e 20 (by omega) (by omega) (by omega) (by omega), e (13 + x) (by omega) (by omega) (by omega) (by omega)]
  · intro m hm
    rw [e 19 (by omega) (by omega) (by omega) (by omega)] at hm
    rw [e (1 + m) (by omega) (by omega) (by omega) (by omega)]
    exact (hKI 3 m (by omega) (by omega)).trans (b4 m hm)
  · intro i hi
    rw [q23] at hi; exact absurd hi (Nat.not_lt_zero _)
  · intro i hi
    rw [e 22 (by omega) (by omega) (by omega) (by omega)] at hi
    rw [e (62 + i) (by omega) (by omega) (by omega) (by omega)]
    exact (hKI 18 i (by omega) (by omega)).trans (d2 i hi)
  · intro b hb
    have h4 := hbk b hb
    rw [e 20 (by omega) (by omega) (by omega) (by omega)] at hb
    have hx : ∀ j, K (6 + 0 + b) j = M (6 + b) j := fun j => hK (6 + b) j (hl _ (by omega))
    exact ⟨(hx 0).trans h4.1, (hx 1).trans h4.2.1, (hx 2).trans h4.2.2.1, (hx 3).trans h4.2.2.2⟩
  · intro m hm
    obtain ⟨k, j1, j2, j3, j4, j5, j6⟩ := hme m hm
    have hx : ∀ j, K k j = M k j := fun j => hK k j (by unfold c_lor; omega)
    exact ⟨k, j1, j2, j3, (hx 0).trans j4, (hx 1).trans j5, (hx 2).trans j6⟩
  · obtain ⟨c2, i1, i2, i3, i4, cs2, i5, i6⟩ := hclb
    exact ⟨c2, i1, i2, i3, (hK c2 0 (by unfold c_lor; omega)).trans i4, cs2, c_cs_cg i5 (fun j i hj => hK _ _ (by unfold c_lor; omega)), i6⟩
theorem c_rel_S {hi ran : Int} {row : Nat → Int} {k : Nat} (hokT : hi = 1 → r_ok T B) (h : c_rel D I ρ S T hi ran row) (hsp : ρ 0 7 = some c) (himg : ∀ e, ρ 35 5 = some e → e + 5 ≤ 124 + D.length) (hk : k = 124 + D.length) (hM : ∀ k j, k < 124 + D.length → k_p2 c k → c_lor k → ¬ (k = 1 ∧ (j = 8 ∨ j = 6)) → K k j = I k j) (hclk : c_clk (D ++ E) ρ' k) (hr7 : ρ' 0 7 = some k) (hr5 : ρ' 1 5 = some c) (hr : ∀ k j, k < 124 + D.length → ¬ (k = c ∧ j = 8) → ¬ (k = 0 ∧ j = 7) → ¬ (k = 1 ∧ j = 5) → ρ' k j = ρ k j) (hh : c_hall (D ++ E) K ρ' 0 S') : c_rel (D ++ E) K ρ' S' T hi ran row := by
  obtain ⟨h1, ⟨h2, h3⟩, ⟨h4, h5⟩, h6, c', s1, s2, s3, s4, s5⟩ := h
  have ec : c' = c := Option.some.inj (s1.symm.trans hsp)
  subst ec
  have hcl := am_lt_at s2.1.2.2.2.2
  have hx : ∀ k j, k < 124 + D.length → k_p2 c' k → c_lor k → k ≠ 1 → K k j = I k j := fun k j a1 a2 a3 a4 => hM k j a1 a2 a3 (fun e => a4 e.1)
  refine ⟨hh, ⟨(hx 0 8 (by omega) (by unfold k_p2; omega) (by unfold c_lor; omega) (by omega)).trans h2, fun e => ?_⟩, ⟨(hx 99 0 (by omega) (by unfold k_p2; omega) (by unfold c_lor; omega) (by omega)).trans h4, fun i hi hr2 => (hx 99 _ (by omega) (by unfold k_p2; omega) (by unfold c_lor; omega) (by omega)).trans (h5 i hi hr2)⟩, ?_, k, hr7, hclk, by omega, ?_, ?_⟩
  · have g3 := h3 e
    exact c_hall_sp (c := c') (Or.inr rfl) (hokT e) g3 (fun _ _ _ => rfl) (Or.inl rfl) (fun _ h => h) rfl s3 (fun k j a0 a1 a2 a3 => hx k j a1 a2 (by unfold c_lor; omega) (by omega)) ((hx 35 8 (by omega) (by unfold k_p2; omega) (by unfold c_lor; omega) (by omega)).trans g3.1.2.2.2.1) (fun k j a1 a2 a3 a4 => hr k j a1 a2 a3 (fun e => a4 ⟨e.1, e.2, rfl⟩)) (fun e he => s4 e (Or.inr he)) (fun m k hm hk => s5 38 m k (Or.inr rfl) hm hk)
  · intro a m ha hm
    obtain ⟨k, c0, g1, g2, g3⟩ := h6 a m ha hm
    exact ⟨k, c0, (hr a m (by omega) (by omega) (by omega) (by omega)).trans g1, am_old_at g2, g3⟩
  · intro e he
    rw [hr5, hr 35 5 (by omega) (by omega) (by omega) (by omega)] at he
    rcases he with he | he
    · have := Option.some.inj he; omega
    · have := himg e he; omega
  · intro a m k2 ha hm hk2
    rw [hr a m (by omega) (by omega) (by omega) (by omega)] at hk2
    obtain ⟨k3, c0, g1, g2, g3⟩ := h6 a m ha hm
    have e3 : k3 = k2 := Option.some.inj (g1.symm.trans hk2)
    have := am_lt_at g2
    omega
end
