/-! THE CLASS: calls that change the hall -/
def c_fw (c : Nat) : Prop := (5 ≤ c ∧ c < 17) ∨ (19 ≤ c ∧ c < 35) ∨ (46 ≤ c ∧ c < 51) ∨ (102 ≤ c ∧ c < 107) ∨ 124 ≤ c
section
variable {D : List (Nat × Nat)} {I K : Nat → Nat → Int} {ρ ρ' : Nat → Nat → Option Nat} {S S' T : Nat → Int} {B : Int}
theorem c_club_w {c : Nat} (h : c_club D I ρ c S) (hk : ∀ c i, c_fw c → K c i = I c i) (hr : ∀ k j, k ≠ 71 → ρ' k j = ρ k j) : c_club D K ρ' c S := by
  obtain ⟨h1, h2, h3, cs, ⟨g1, g2, g3⟩, h5⟩ := h
  have hf : ∀ j, j < 5 → c_fw (c + j) := by
    intro j hj
    unfold c_fw
    omega
  have k0 : ∀ i, K c i = I c i := fun i => hk c i (hf 0 (by omega))
  refine ⟨c_clk_cg h1 (fun j => hr c j (by omega)), h2, (k0 0).trans h3, cs, ⟨(k0 2).trans g1, ?_, ?_⟩, h5⟩
  · intro i hi
    have := g2 i hi
    exact ⟨(hk _ i (hf 1 (by omega))).trans this.1, (hk _ i (hf 2 (by omega))).trans this.2.1, (hk _ i (hf 3 (by omega))).trans this.2.2⟩
  · intro k hk2
    exact (hk _ k (hf 4 (by omega))).trans (g3 k hk2)
theorem c_hall_w (hok : r_ok S B) (h : c_hall D I ρ 0 S) (hst : c_st S S') (hk : ∀ c i, c_fw c → K c i = I c i) (hr : ∀ k j, k ≠ 71 → ρ' k j = ρ k j) (ha : K 1 2 = S' 19 ∧ K 1 4 = S' 20 ∧ K 1 6 = S' 21 ∧ K 1 8 = S' 23 ∧ K 1 10 = S' 22) (hro : c_roll K 2 3 S') (htp : ∀ i, i < (S' 23).toNat → K 17 i = S' (68 + i)) (hhn : ∀ i, i < (S' 22).toNat → K 18 i = S' (62 + i)) : c_hall D K ρ' 0 S' := by
  have h19 := r_ok_19 hok
  obtain ⟨⟨a1, a2, a3, a4, a5⟩, ⟨b1, b2, b3, b4⟩, ⟨d1, d2⟩, e1, f1, g1, i1⟩ := h
  have s19 := hst 19 (by omega)
  have s20 := hst 20 (by omega)
  have f2 := c_lo_st hok hst f1
  have g2 := c_mems_st hok hst g1
  obtain ⟨c, j1, j2⟩ := c_clb_st hok hst i1
  refine ⟨ha, hro, ⟨htp, hhn⟩, ?_, ?_, ?_, c, (hr _ 5 (by omega)).trans j1, c_club_w j2 hk hr⟩
  · intro b hb
    rw [← s20] at hb
    have hf : c_fw (6 + 0 + b) := by unfold c_fw; omega
    have h4 := e1 b hb
    rw [← hst (38 + b) (by omega), ← hst (44 + b) (by omega), ← hst (50 + b) (by omega), ← hst (56 + b) (by omega)]
    exact ⟨(hk _ _ hf).trans h4.1, (hk _ _ hf).trans h4.2.1, (hk _ _ hf).trans h4.2.2.1, (hk _ _ hf).trans h4.2.2.2⟩
  · intro m b hm hb
    have hm2 : m < 6 := by rw [← s19] at hm; omega
    exact ⟨(hk _ _ (by unfold c_fw; omega)).trans (f2 m b hm hb).1, (hk _ _ (by unfold c_fw; omega)).trans (f2 m b hm hb).2⟩
  · intro m hm
    obtain ⟨k, h1, h2, h3, h4, h5, h6⟩ := g2 m hm
    have hf : c_fw k := by unfold c_fw; omega
    exact ⟨k, (hr _ m (by omega)).trans h1, h2, h3, (hk k 0 hf).trans h4, (hk k 1 hf).trans h5, (hk k 2 hf).trans h6⟩
theorem c_roll_lo {r g : Nat} (hok : r_ok S B) (h : ∀ i, i ≤ 20 → S' i = S i) (hr : c_roll I r g S) : c_roll I r g S' := by
  have h19 := r_ok_19 hok
  obtain ⟨h1, h2, h3, h4⟩ := hr
  refine ⟨by rw [h 0 (by omega)]; exact h1, ?_, ?_, ?_⟩
  · rw [h2]
    refine am_bits_cg 6 (fun x hx => ?_)
    unfold sp_hp
    rw [h 19 (by omega), h (7 + x) (by omega)]
  · rw [h3]
    refine am_bits_cg 6 (fun x hx => ?_)
    unfold sp_dp
    rw [h 20 (by omega), h (13 + x) (by omega)]
  · intro m hm
    rw [h 19 (by omega)] at hm
    rw [h (1 + m) (by omega)]
    exact h4 m hm
/-- all but the first hall -/
def c_fy (c : Nat) : Prop := c = 0 ∨ (34 ≤ c ∧ c < 69) ∨ c = 99 ∨ (102 ≤ c ∧ c < 107) ∨ 124 ≤ c ∨ (12 ≤ c ∧ c < 17)
theorem c_rel_0 {hi ran : Int} {row : Nat → Int} (hokT : hi = 1 → r_ok T B) (h : c_rel D I ρ S T hi ran row) (hk : ∀ c i, c_fy c → K c i = I c i) (hr : ∀ k j, k ≠ 71 → ρ' k j = ρ k j) (hh : c_hall D K ρ' 0 S') : c_rel D K ρ' S' T hi ran row := by
  obtain ⟨h1, ⟨h2, h3⟩, ⟨h4, h5⟩, h6, c, s1, s2, s3, s4, s5⟩ := h
  refine ⟨hh, ⟨(hk 0 8 (Or.inl rfl)).trans h2, ?_⟩, ⟨(hk 99 0 (by unfold c_fy; omega)).trans h4, fun i hi hr2 => (hk 99 _ (by unfold c_fy; omega)).trans (h5 i hi hr2)⟩, ?_, c, (hr 0 7 (by omega)).trans s1, c_clk_cg s2 (fun j => hr c j (by omega)), s3, ?_, ?_⟩
  · intro e
    have h19 := r_ok_19 (hokT e)
    obtain ⟨⟨a1, a2, a3, a4, a5⟩, ⟨b1, b2, b3, b4⟩, ⟨d1, d2⟩, e1, f1, g1, c, i1, ⟨i2, i3, i4, cs, ⟨l1, l2, l3⟩, i6⟩⟩ := h3 e
    have hf : ∀ c i, 34 ≤ c → c < 69 → K c i = I c i := fun c i h1 h2 => hk c i (by unfold c_fy; omega)
    have hc : ∀ j i, j < 5 → K (c + j) i = I (c + j) i := fun j i hj => hk _ _ (by unfold c_fy; omega)
    have hc0 : ∀ i, K c i = I c i := fun i => hc 0 i (by omega)
    refine ⟨⟨(hf _ _ (by omega) (by omega)).trans a1, (hf _ _ (by omega) (by omega)).trans a2, (hf _ _ (by omega) (by omega)).trans a3, (hf _ _ (by omega) (by omega)).trans a4, (hf _ _ (by omega) (by omega)).trans a5⟩, ⟨(hf _ _ (by omega) (by omega)).trans b1, (hf _ _ (by omega) (by omega)).trans b2, (hf _ _ (by omega) (by omega)).trans b3, fun m hm => (hf _ _ (by omega) (by omega)).trans (b4 m hm)⟩, ⟨fun i hi => (hf _ _ (by omega) (by omega)).trans (d1 i hi), fun i hi => (hf _ _ (by omega) (by omega)).trans (d2 i hi)⟩, ?_, ?_, ?_, c, (hr _ 5 (by omega)).trans i1, c_clk_cg i2 (fun j => hr c j (by omega)), i3, (hc0 0).trans i4, cs, ⟨(hc0 2).trans l1, ?_, ?_⟩, i6⟩
    · exact fun b hb => ⟨(hf _ _ (by omega) (by omega)).trans (e1 b hb).1, (hf _ _ (by omega) (by omega)).trans (e1 b hb).2.1, (hf _ _ (by omega) (by omega)).trans (e1 b hb).2.2.1, (hf _ _ (by omega) (by omega)).trans (e1 b hb).2.2.2⟩
    · exact fun m b hm hb => ⟨(hf _ _ (by omega) (by omega)).trans (f1 m b hm hb).1, (hf _ _ (by omega) (by omega)).trans (f1 m b hm hb).2⟩
    · intro m hm
      obtain ⟨k, g1, g2, g3, g4, g5, g6⟩ := g1 m hm
      have hfk : c_fy k := by unfold c_fy; omega
      exact ⟨k, (hr _ m (by omega)).trans g1, g2, g3, (hk k 0 hfk).trans g4, (hk k 1 hfk).trans g5, (hk k 2 hfk).trans g6⟩
    · intro i hi
      have := l2 i hi
      exact ⟨(hc 1 i (by omega)).trans this.1, (hc 2 i (by omega)).trans this.2.1, (hc 3 i (by omega)).trans this.2.2⟩
    · intro k hk2
      exact (hc 4 k (by omega)).trans (l3 k hk2)
  · intro a m ha hm
    obtain ⟨k, c, g1, g2⟩ := h6 a m ha hm
    exact ⟨k, c, (hr a m (by omega)).trans g1, g2⟩
  · intro e he
    rw [hr 1 5 (by omega), hr 35 5 (by omega)] at he
    exact s4 e he
  · intro a m k ha hm hk2
    rw [hr a m (by omega)] at hk2
    exact s5 a m k ha hm hk2
theorem am_wp_id {p : Nat → Nat → Bool} {I : Nat → Nat → Int} : am_wp p I I = I := (am_wp_of am_k_id).symm
end
def uf : Nat → Nat → Bool := fun c i => Nat.beq c 17 || (Nat.beq c 1 && (Nat.beq i 8))
def uh : Nat → Nat → Bool := fun c i => Nat.beq c 18 || (Nat.beq c 1 && (Nat.beq i 10))
theorem uf_c_fw {c i : Nat} (h : c_fw c) : uf c i = false := by
  unfold c_fw at h
  cases e : uf c i with
  | false => rfl
  | true =>
    exfalso
    unfold uf at e
    simp at e
    omega
theorem uf_c_fy {c i : Nat} (h : c_fy c) : uf c i = false := by
  unfold c_fy at h
  cases e : uf c i with
  | false => rfl
  | true =>
    exfalso
    unfold uf at e
    simp at e
    omega
theorem uh_c_fw {c i : Nat} (h : c_fw c) : uh c i = false := by
  unfold c_fw at h
  cases e : uh c i with
  | false => rfl
  | true =>
    exfalso
    unfold uh at e
    simp at e
    omega
theorem uh_c_fy {c i : Nat} (h : c_fy c) : uh c i = false := by
  unfold c_fy at h
  cases e : uh c i with
  | false => rfl
  | true =>
    exfalso
    unfold uh at e
    simp at e
    omega
theorem uH2_c_fw {c i : Nat} (h : c_fw c) : uH2 c i = false := by
  unfold c_fw at h
  cases e : uH2 c i with
  | false => rfl
  | true =>
    exfalso
    unfold uH2 at e
    simp at e
    omega
theorem uH2_c_fy {c i : Nat} (h : c_fy c) : uH2 c i = false := by
  unfold c_fy at h
  cases e : uH2 c i with
  | false => rfl
  | true =>
    exfalso
    unfold uH2 at e
    simp at e
    omega
theorem uP2_c_fw {c i : Nat} (h : c_fw c) : uP2 c i = false := by
  unfold c_fw at h
  cases e : uP2 c i with
  | false => rfl
  | true =>
    exfalso
    unfold uP2 at e
    simp at e
    omega
theorem uP2_c_fy {c i : Nat} (h : c_fy c) : uP2 c i = false := by
  unfold c_fy at h
  cases e : uP2 c i with
  | false => rfl
  | true =>
    exfalso
    unfold uP2 at e
    simp at e
    omega
def uB2 : Nat → Nat → Bool := fun c i => uZ c i || uP2 c i
theorem uZ_uB2 : ∀ c i, uZ c i = true → uB2 c i = true := fun c i h => by unfold uB2; rw [h]; rfl
theorem uP2_uB2 : ∀ c i, uP2 c i = true → uB2 c i = true := fun c i h => by unfold uB2; rw [h, Bool.or_true]
theorem uC_uB2 : ∀ c i, uC c i = true → uB2 c i = true := fun c i h => uZ_uB2 c i (uC_uZ c i h)
theorem uZ_c_fw {c i : Nat} (h : c_fw c) : uZ c i = false := uZ_fx (by unfold c_fw at h; unfold c_fx; omega)
theorem uZ_c_fy {c i : Nat} (h : c_fy c) : uZ c i = false := uZ_fx (by unfold c_fy at h; unfold c_fx; omega)
theorem uB2_c_fw {c i : Nat} (h : c_fw c) : uB2 c i = false := by unfold uB2; rw [uZ_c_fw h, uP2_c_fw h]; rfl
theorem uB2_c_fy {c i : Nat} (h : c_fy c) : uB2 c i = false := by unfold uB2; rw [uZ_c_fy h, uP2_c_fy h]; rfl
theorem c_feed {X : Nat × (Nat → Int)} {D : List (Nat × Nat)} {I J : Nat → Nat → Int} {ρ : Nat → Nat → Option Nat} (d : Nat) {S : Nat → Int} {B : Int} (hok : r_ok S B) (hwf : sp_wfS S) (hh : c_hall D I ρ 0 S) {v : Int} (hv : -2147483648 ≤ v ∧ v < 2147483648) : am_E X d 88 0 [(0, .inr (.inr (.inl (some 0)))), (1, .inl v)] [] (am_mm D I J ρ) (fun q => ∃ Q, q = (some (.inl (sp_feed S v).1), am_mm D (am_wp uf I Q) J ρ) ∧ c_hall D (am_wp uf I Q) ρ 0 (sp_feed S v).2) := by
  have hh0 := hh
  obtain ⟨⟨h12, h14, h16, h18, h110⟩, ⟨hr0, hhr, hhd, hgl⟩, ⟨htp, hhn⟩, hbk, hlo, hmem, c, hρc, ⟨hsc0, hcc, hc0, hcs⟩⟩ := hh
  have hsc : (am_S ++ D)[c]? = some (1, 10) := hsc0.1.1
  have h12 : I 1 2 = S 19 := h12
  have h14 : I 1 4 = S 20 := h14
  have h16 : I 1 6 = S 21 := h16
  have h18 : I 1 8 = S 23 := h18
  have h110 : I 1 10 = S 22 := h110
  have hr0 : I 2 0 = S 0 := hr0
  have hhr : I 2 1 = am_bits (sp_hp S) 6 := hhr
  have hhd : I 2 2 = am_bits (sp_dp S) 6 := hhd
  have hgl : ∀ m, m < (S 19).toNat → I 3 m = S (1 + m) := hgl
  have htp : ∀ i, i < (S 23).toNat → I 17 i = S (68 + i) := htp
  have hhn : ∀ i, i < (S 22).toNat → I 18 i = S (62 + i) := hhn
  have hbk : ∀ b, b < (S 20).toNat → I (6 + b) 0 = S (38 + b) ∧ I (6 + b) 1 = S (44 + b) ∧ I (6 + b) 2 = S (50 + b) ∧ I (6 + b) 3 = S (56 + b) := hbk
  have hlo : ∀ m b : Nat, m < (S 19).toNat → b < (S 20).toNat → I (20 + m) b = sp_like S m b ∧ I (27 + m) b = sp_odds S m b := hlo
  have hmem : c_mems D I ρ 4 S := hmem
  have hρc : ρ 1 5 = some c := hρc
  have hh := hh0
  have h19 := r_ok_19 hok
  have hokx := hok
  obtain ⟨o0, oG, oH, oD, o19, o20, o21, o22, o23, o24, oK, oV, oP, oM, oS, oY, oHd, oT, oC, oN⟩ := hok
  have hok := hokx
  refine am_e_ss 1 (q := (1, [(0, .inr (.inr (.inl (some 0)))), (1, .inl v)], [.inl v], (am_mm D I J ρ))) rfl ?_
  refine am_e_if2 rfl ⟨by omega, by omega⟩ (fun (hw1 : v < 0) => ?_) (fun (hw1 : ¬ (v < 0)) => ?_)
  · show am_E _ _ _ 10 [(0, .inr (.inr (.inl (some 0)))), (1, .inl v)] [] (am_mm D I J ρ) _
    refine am_e_ss 1 (q := (12, [(0, .inr (.inr (.inl (some 0)))), (1, .inl v)], [.inl (-2)], (am_mm D I J ρ))) rfl ?_
    refine am_e_ireturn rfl rfl ?_
    rw [show sp_feed S v = ((-2), S) by (unfold sp_feed; (repeat' split) <;> first | rfl | (exfalso; omega))]
    exact ⟨I, am_r_wp uf am_k_id, by rw [am_wp_id]; exact hh⟩
  · show am_E _ _ _ 4 [(0, .inr (.inr (.inl (some 0)))), (1, .inl v)] [] (am_mm D I J ρ) _
    refine am_e_ss 2 (q := (7, [(0, .inr (.inr (.inl (some 0)))), (1, .inl v)], [.inl 127, .inl v], (am_mm D I J ρ))) rfl ?_
    refine am_e_icmp2 rfl ⟨by omega, by omega⟩ ⟨by omega, by omega⟩ (fun (hw2 : v ≤ 127) => ?_) (fun (hw2 : ¬ (v ≤ 127)) => ?_)
    · show am_E _ _ _ 13 [(0, .inr (.inr (.inl (some 0)))), (1, .inl v)] [] (am_mm D I J ρ) _
      refine am_e_ss 4 (q := (22, [(0, .inr (.inr (.inl (some 0)))), (1, .inl v)], [.inl 100, .inl ((I 1 8))], (am_mm D I J ρ))) rfl ?_
      refine am_e_icmp2 rfl ⟨by omega, by omega⟩ ⟨by omega, by omega⟩ (fun (hw3 : (I 1 8) < 100) => ?_) (fun (hw3 : ¬ ((I 1 8) < 100)) => ?_)
      · show am_E _ _ _ 28 [(0, .inr (.inr (.inl (some 0)))), (1, .inl v)] [] (am_mm D I J ρ) _
        refine am_e_ss 7 (q := (43, [(0, .inr (.inr (.inl (some 0)))), (1, .inl v)], [.inl v, .inl ((I 1 8)), .inr (.inr (.inl (some 17)))], (am_mm D I J ρ))) rfl ?_
        refine am_e_iastore (m := 100) rfl rfl (by omega) (by omega) (by omega) ?_
        show am_E _ _ _ 44 [(0, .inr (.inr (.inl (some 0)))), (1, .inl v)] [] (am_mm D (am_up I 17 ((I 1 8)).toNat v) J ρ) _
        refine am_e_ss 10 (q := (64, [(0, .inr (.inr (.inl (some 0)))), (1, .inl v)], [.inl (((I 1 8) + 1))], (am_mm D (am_up (am_up I 17 ((I 1 8)).toNat v) 1 8 ((I 1 8) + 1)) J ρ))) rfl ?_
        refine am_e_ireturn rfl rfl ?_
        have es : sp_feed S v = (S 23 + 1, am_u1 (am_u1 S ((68 + S 23).toNat) v) 23 (S 23 + 1)) := by (unfold sp_feed; rw [if_neg (by omega), if_neg (by omega)])
        rw [es]
        dsimp only
        have hne : ∀ i, i ≠ 23 → i ≠ (68 + S 23).toNat → (am_u1 (am_u1 S ((68 + S 23).toNat) v) 23 (S 23 + 1)) i = S i := fun i g0 g1 => (am_u1_ne g0).trans ((am_u1_ne g1))
        have hat0 : (am_u1 (am_u1 S ((68 + S 23).toNat) v) 23 (S 23 + 1)) 23 = S 23 + 1 := am_u1_at
        have hat1 : (am_u1 (am_u1 S ((68 + S 23).toNat) v) 23 (S 23 + 1)) ((68 + S 23).toNat) = v := (am_u1_ne (by omega)).trans (am_u1_at)
        generalize am_u1 (am_u1 S ((68 + S 23).toNat) v) 23 (S 23 + 1) = S2 at hne hat0 hat1 ⊢
        have hst : c_st S S2 := fun i hi => (hne i (by omega) (by omega)).symm
        refine ⟨am_up (am_up I 17 ((I 1 8)).toNat v) 1 8 ((I 1 8) + 1), ?_, ?_⟩
        · rw [show ((I 1 8) + 1) = S 23 + 1 by omega]
          exact am_r_wp uf (am_k_up rfl (am_k_up rfl (am_k_id)))
        · rw [show am_wp uf I (am_up (am_up I 17 ((I 1 8)).toNat v) 1 8 ((I 1 8) + 1)) = am_up (am_up I 17 ((I 1 8)).toNat v) 1 8 ((I 1 8) + 1) from (am_wp_of (am_k_up rfl (am_k_up rfl (am_k_id)))).symm]
          refine c_hall_w hok hh hst (fun c i hc => ((am_k_up rfl (am_k_up rfl (am_k_id)))) c i (uf_c_fw hc)) (fun k j _ => rfl) ⟨h12.trans (hne 19 (by omega) (by omega)).symm, h14.trans (hne 20 (by omega) (by omega)).symm, h16.trans (hne 21 (by omega) (by omega)).symm, ?_, h110.trans (hne 22 (by omega) (by omega)).symm⟩ (c_roll_lo (S := S) hok (fun i hi => hne i (by omega) (by omega)) ⟨hr0, hhr, hhd, hgl⟩) ?_ ?_
          · rw [hat0]
            show I 1 8 + 1 = S 23 + 1
            omega
          · intro i hi
            rw [hat0] at hi
            by_cases e : i = (S 23).toNat
            · rw [show 68 + i = (68 + S 23).toNat by omega, hat1, show i = (I 1 8).toNat by omega]
              exact am_up_at2
            · rw [hne (68 + i) (by omega) (by omega)]
              exact (show am_up I 17 (I 1 8).toNat v 17 i = I 17 i from am_up_ne2 (by omega)).trans (htp i (by omega))
          · intro i hi
            rw [hne 22 (by omega) (by omega)] at hi
            rw [hne (62 + i) (by omega) (by omega)]
            exact hhn i hi
      · show am_E _ _ _ 25 [(0, .inr (.inr (.inl (some 0)))), (1, .inl v)] [] (am_mm D I J ρ) _
        refine am_e_ss 1 (q := (27, [(0, .inr (.inr (.inl (some 0)))), (1, .inl v)], [.inl (-4)], (am_mm D I J ρ))) rfl ?_
        refine am_e_ireturn rfl rfl ?_
        rw [show sp_feed S v = ((-4), S) by (unfold sp_feed; (repeat' split) <;> first | rfl | (exfalso; omega))]
        exact ⟨I, am_r_wp uf am_k_id, by rw [am_wp_id]; exact hh⟩
    · show am_E _ _ _ 10 [(0, .inr (.inr (.inl (some 0)))), (1, .inl v)] [] (am_mm D I J ρ) _
      refine am_e_ss 1 (q := (12, [(0, .inr (.inr (.inl (some 0)))), (1, .inl v)], [.inl (-2)], (am_mm D I J ρ))) rfl ?_
      refine am_e_ireturn rfl rfl ?_
      rw [show sp_feed S v = ((-2), S) by (unfold sp_feed; (repeat' split) <;> first | rfl | (exfalso; omega))]
      exact ⟨I, am_r_wp uf am_k_id, by rw [am_wp_id]; exact hh⟩
theorem c_hand {X : Nat × (Nat → Int)} {D : List (Nat × Nat)} {I J : Nat → Nat → Int} {ρ : Nat → Nat → Option Nat} (d : Nat) {S : Nat → Int} {B : Int} (hok : r_ok S B) (hwf : sp_wfS S) (hh : c_hall D I ρ 0 S) {n : Int} (hn : -2147483648 ≤ n ∧ n < 2147483648) : am_E X d 114 0 [(0, .inr (.inr (.inl (some 0)))), (1, .inl n)] [] (am_mm D I J ρ) (fun q => ∃ Q, q = (some (.inl (sp_hand S n).1), am_mm D (am_wp uh I Q) J ρ) ∧ c_hall D (am_wp uh I Q) ρ 0 (sp_hand S n).2) := by
  have hh0 := hh
  obtain ⟨⟨h12, h14, h16, h18, h110⟩, ⟨hr0, hhr, hhd, hgl⟩, ⟨htp, hhn⟩, hbk, hlo, hmem, c, hρc, ⟨hsc0, hcc, hc0, hcs⟩⟩ := hh
  have hsc : (am_S ++ D)[c]? = some (1, 10) := hsc0.1.1
  have h12 : I 1 2 = S 19 := h12
  have h14 : I 1 4 = S 20 := h14
  have h16 : I 1 6 = S 21 := h16
  have h18 : I 1 8 = S 23 := h18
  have h110 : I 1 10 = S 22 := h110
  have hr0 : I 2 0 = S 0 := hr0
  have hhr : I 2 1 = am_bits (sp_hp S) 6 := hhr
  have hhd : I 2 2 = am_bits (sp_dp S) 6 := hhd
  have hgl : ∀ m, m < (S 19).toNat → I 3 m = S (1 + m) := hgl
  have htp : ∀ i, i < (S 23).toNat → I 17 i = S (68 + i) := htp
  have hhn : ∀ i, i < (S 22).toNat → I 18 i = S (62 + i) := hhn
  have hbk : ∀ b, b < (S 20).toNat → I (6 + b) 0 = S (38 + b) ∧ I (6 + b) 1 = S (44 + b) ∧ I (6 + b) 2 = S (50 + b) ∧ I (6 + b) 3 = S (56 + b) := hbk
  have hlo : ∀ m b : Nat, m < (S 19).toNat → b < (S 20).toNat → I (20 + m) b = sp_like S m b ∧ I (27 + m) b = sp_odds S m b := hlo
  have hmem : c_mems D I ρ 4 S := hmem
  have hρc : ρ 1 5 = some c := hρc
  have hh := hh0
  have h19 := r_ok_19 hok
  have hokx := hok
  obtain ⟨o0, oG, oH, oD, o19, o20, o21, o22, o23, o24, oK, oV, oP, oM, oS, oY, oHd, oT, oC, oN⟩ := hok
  have hok := hokx
  refine am_e_ss 2 (q := (2, [(0, .inr (.inr (.inl (some 0)))), (1, .inl n)], [.inl (-1), .inl n], (am_mm D I J ρ))) rfl ?_
  refine am_e_icmp2 rfl ⟨by omega, by omega⟩ ⟨by omega, by omega⟩ (fun (hw1 : n < (-1)) => ?_) (fun (hw1 : ¬ (n < (-1))) => ?_)
  · show am_E _ _ _ 11 [(0, .inr (.inr (.inl (some 0)))), (1, .inl n)] [] (am_mm D I J ρ) _
    refine am_e_ss 1 (q := (13, [(0, .inr (.inr (.inl (some 0)))), (1, .inl n)], [.inl (-2)], (am_mm D I J ρ))) rfl ?_
    refine am_e_ireturn rfl rfl ?_
    rw [show sp_hand S n = ((-2), S) by (unfold sp_hand; (repeat' split) <;> first | rfl | (exfalso; omega))]
    exact ⟨I, am_r_wp uh am_k_id, by rw [am_wp_id]; exact hh⟩
  · show am_E _ _ _ 5 [(0, .inr (.inr (.inl (some 0)))), (1, .inl n)] [] (am_mm D I J ρ) _
    refine am_e_ss 2 (q := (8, [(0, .inr (.inr (.inl (some 0)))), (1, .inl n)], [.inl 12, .inl n], (am_mm D I J ρ))) rfl ?_
    refine am_e_icmp2 rfl ⟨by omega, by omega⟩ ⟨by omega, by omega⟩ (fun (hw2 : n ≤ 12) => ?_) (fun (hw2 : ¬ (n ≤ 12)) => ?_)
    · show am_E _ _ _ 14 [(0, .inr (.inr (.inl (some 0)))), (1, .inl n)] [] (am_mm D I J ρ) _
      refine am_e_ss 2 (q := (16, [(0, .inr (.inr (.inl (some 0)))), (1, .inl n)], [.inl (-1), .inl n], (am_mm D I J ρ))) rfl ?_
      refine am_e_icmp2 rfl ⟨by omega, by omega⟩ ⟨by omega, by omega⟩ (fun (hw3 : ¬ n = (-1)) => ?_) (fun (hw3 : ¬ (¬ n = (-1))) => ?_)
      · show am_E _ _ _ 29 [(0, .inr (.inr (.inl (some 0)))), (1, .inl n)] [] (am_mm D I J ρ) _
        refine am_e_ss 4 (q := (38, [(0, .inr (.inr (.inl (some 0)))), (1, .inl n)], [.inl 6, .inl ((I 1 10))], (am_mm D I J ρ))) rfl ?_
        refine am_e_icmp2 rfl ⟨by omega, by omega⟩ ⟨by omega, by omega⟩ (fun (hw4 : (I 1 10) < 6) => ?_) (fun (hw4 : ¬ ((I 1 10) < 6)) => ?_)
        · show am_E _ _ _ 44 [(0, .inr (.inr (.inl (some 0)))), (1, .inl n)] [] (am_mm D I J ρ) _
          refine am_e_ss 7 (q := (59, [(0, .inr (.inr (.inl (some 0)))), (1, .inl n)], [.inl n, .inl ((I 1 10)), .inr (.inr (.inl (some 18)))], (am_mm D I J ρ))) rfl ?_
          refine am_e_iastore (m := 6) rfl rfl (by omega) (by omega) (by omega) ?_
          show am_E _ _ _ 60 [(0, .inr (.inr (.inl (some 0)))), (1, .inl n)] [] (am_mm D (am_up I 18 ((I 1 10)).toNat n) J ρ) _
          refine am_e_ss 10 (q := (80, [(0, .inr (.inr (.inl (some 0)))), (1, .inl n)], [.inl (((I 1 10) + 1))], (am_mm D (am_up (am_up I 18 ((I 1 10)).toNat n) 1 10 ((I 1 10) + 1)) J ρ))) rfl ?_
          refine am_e_ireturn rfl rfl ?_
          have es : sp_hand S n = (S 22 + 1, am_u1 (am_u1 S ((62 + S 22).toNat) n) 22 (S 22 + 1)) := by (unfold sp_hand; rw [if_neg (by omega), if_neg (by omega), if_neg (by omega)])
          rw [es]
          dsimp only
          have hne : ∀ i, i ≠ 22 → i ≠ (62 + S 22).toNat → (am_u1 (am_u1 S ((62 + S 22).toNat) n) 22 (S 22 + 1)) i = S i := fun i g0 g1 => (am_u1_ne g0).trans ((am_u1_ne g1))
          have hat0 : (am_u1 (am_u1 S ((62 + S 22).toNat) n) 22 (S 22 + 1)) 22 = S 22 + 1 := am_u1_at
          have hat1 : (am_u1 (am_u1 S ((62 + S 22).toNat) n) 22 (S 22 + 1)) ((62 + S 22).toNat) = n := (am_u1_ne (by omega)).trans (am_u1_at)
          generalize am_u1 (am_u1 S ((62 + S 22).toNat) n) 22 (S 22 + 1) = S2 at hne hat0 hat1 ⊢
          have hst : c_st S S2 := fun i hi => (hne i (by omega) (by omega)).symm
          refine ⟨am_up (am_up I 18 ((I 1 10)).toNat n) 1 10 ((I 1 10) + 1), ?_, ?_⟩
          · rw [show ((I 1 10) + 1) = S 22 + 1 by omega]
            exact am_r_wp uh (am_k_up rfl (am_k_up rfl (am_k_id)))
          · rw [show am_wp uh I (am_up (am_up I 18 ((I 1 10)).toNat n) 1 10 ((I 1 10) + 1)) = am_up (am_up I 18 ((I 1 10)).toNat n) 1 10 ((I 1 10) + 1) from (am_wp_of (am_k_up rfl (am_k_up rfl (am_k_id)))).symm]
            refine c_hall_w hok hh hst (fun c i hc => ((am_k_up rfl (am_k_up rfl (am_k_id)))) c i (uh_c_fw hc)) (fun k j _ => rfl) ⟨h12.trans (hne 19 (by omega) (by omega)).symm, h14.trans (hne 20 (by omega) (by omega)).symm, h16.trans (hne 21 (by omega) (by omega)).symm, h18.trans (hne 23 (by omega) (by omega)).symm, ?_⟩ (c_roll_lo (S := S) hok (fun i hi => hne i (by omega) (by omega)) ⟨hr0, hhr, hhd, hgl⟩) ?_ ?_
            · rw [hat0]
              show I 1 10 + 1 = S 22 + 1
              omega
            · intro i hi
              rw [hne 23 (by omega) (by omega)] at hi
              rw [hne (68 + i) (by omega) (by omega)]
              exact htp i hi
            · intro i hi
              rw [hat0] at hi
              by_cases e : i = (S 22).toNat
              · rw [show 62 + i = (62 + S 22).toNat by omega, hat1, show i = (I 1 10).toNat by omega]
                exact am_up_at2
              · rw [hne (62 + i) (by omega) (by omega)]
                exact (show am_up I 18 (I 1 10).toNat n 18 i = I 18 i from am_up_ne2 (by omega)).trans (hhn i (by omega))
        · show am_E _ _ _ 41 [(0, .inr (.inr (.inl (some 0)))), (1, .inl n)] [] (am_mm D I J ρ) _
          refine am_e_ss 1 (q := (43, [(0, .inr (.inr (.inl (some 0)))), (1, .inl n)], [.inl (-4)], (am_mm D I J ρ))) rfl ?_
          refine am_e_ireturn rfl rfl ?_
          rw [show sp_hand S n = ((-4), S) by (unfold sp_hand; (repeat' split) <;> first | rfl | (exfalso; omega))]
          exact ⟨I, am_r_wp uh am_k_id, by rw [am_wp_id]; exact hh⟩
      · show am_E _ _ _ 19 [(0, .inr (.inr (.inl (some 0)))), (1, .inl n)] [] (am_mm D I J ρ) _
        refine am_e_ss 5 (q := (28, [(0, .inr (.inr (.inl (some 0)))), (1, .inl n)], [.inl 0], (am_mm D (am_up I 1 10 0) J ρ))) rfl ?_
        refine am_e_ireturn rfl rfl ?_
        have es : sp_hand S n = (0, am_u1 S 22 0) := by (unfold sp_hand; rw [if_pos (by omega)])
        rw [es]
        dsimp only
        have hne : ∀ i, i ≠ 22 → (am_u1 S 22 0) i = S i := fun i g0 => (am_u1_ne g0)
        have hat0 : (am_u1 S 22 0) 22 = 0 := am_u1_at
        generalize am_u1 S 22 0 = S2 at hne hat0 ⊢
        have hst : c_st S S2 := fun i hi => (hne i (by omega)).symm
        refine ⟨am_up I 1 10 0, am_r_wp uh (am_k_up rfl (am_k_id)), ?_⟩
        rw [show am_wp uh I (am_up I 1 10 0) = am_up I 1 10 0 from (am_wp_of (am_k_up rfl (am_k_id))).symm]
        refine c_hall_w hok hh hst (fun c i hc => ((am_k_up rfl (am_k_id))) c i (uh_c_fw hc)) (fun k j _ => rfl) ⟨h12.trans (hne 19 (by omega)).symm, h14.trans (hne 20 (by omega)).symm, h16.trans (hne 21 (by omega)).symm, h18.trans (hne 23 (by omega)).symm, hat0.symm⟩ (c_roll_lo (S := S) hok (fun i hi => hne i (by omega)) ⟨hr0, hhr, hhd, hgl⟩) ?_ ?_
        · intro i hi
          rw [hne 23 (by omega)] at hi
          rw [hne (68 + i) (by omega)]
          exact htp i hi
        · intro i hi
          rw [hat0] at hi
          exact absurd hi (by simp)
    · show am_E _ _ _ 11 [(0, .inr (.inr (.inl (some 0)))), (1, .inl n)] [] (am_mm D I J ρ) _
      refine am_e_ss 1 (q := (13, [(0, .inr (.inr (.inl (some 0)))), (1, .inl n)], [.inl (-2)], (am_mm D I J ρ))) rfl ?_
      refine am_e_ireturn rfl rfl ?_
      rw [show sp_hand S n = ((-2), S) by (unfold sp_hand; (repeat' split) <;> first | rfl | (exfalso; omega))]
      exact ⟨I, am_r_wp uh am_k_id, by rw [am_wp_id]; exact hh⟩
theorem c_setHadI_2 {X : Nat × (Nat → Int)} {D : List (Nat × Nat)} {I J : Nat → Nat → Int} {ρ : Nat → Nat → Option Nat} (d : Nat) {z y : Int} {p : Nat → Bool} (hz : z = 0 ∨ z = 1) (hy : 0 ≤ y ∧ y < 6) (hp : I 2 2 = am_bits p 6) : am_E X d 52 0 [(0, .inr (.inr (.inl (some 2)))), (1, .inl y), (2, .inl z)] [] (am_mm D I J ρ) (fun q => ∃ Q, q = (none, am_mm D (am_wp uH2 I Q) J ρ) ∧ Q 2 2 = am_bits (fun x => if x = y.toNat then decide (z = 1) else p x) 6) := by
  obtain ⟨b, rfl⟩ : ∃ b : Nat, y = (b : Int) := ⟨y.toNat, by omega⟩
  exact c_setHad_2 d hz (by omega) hp
theorem c_had {X : Nat × (Nat → Int)} {D : List (Nat × Nat)} {I J : Nat → Nat → Int} {ρ : Nat → Nat → Option Nat} (d : Nat) {S : Nat → Int} {B : Int} (hok : r_ok S B) (hwf : sp_wfS S) (hh : c_hall D I ρ 0 S) {b v : Int} (hb : -2147483648 ≤ b ∧ b < 2147483648) (hv : v = 0 ∨ v = 1) : am_E X (d + 1) 96 0 [(0, .inr (.inr (.inl (some 0)))), (1, .inl b), (2, .inl v)] [] (am_mm D I J ρ) (fun q => ∃ Q, q = (some (.inl (sp_had S b v).1), am_mm D (am_wp uH2 I Q) J ρ) ∧ c_hall D (am_wp uH2 I Q) ρ 0 (sp_had S b v).2) := by
  have hh0 := hh
  obtain ⟨⟨h12, h14, h16, h18, h110⟩, ⟨hr0, hhr, hhd, hgl⟩, ⟨htp, hhn⟩, hbk, hlo, hmem, c, hρc, ⟨hsc0, hcc, hc0, hcs⟩⟩ := hh
  have hsc : (am_S ++ D)[c]? = some (1, 10) := hsc0.1.1
  have h12 : I 1 2 = S 19 := h12
  have h14 : I 1 4 = S 20 := h14
  have h16 : I 1 6 = S 21 := h16
  have h18 : I 1 8 = S 23 := h18
  have h110 : I 1 10 = S 22 := h110
  have hr0 : I 2 0 = S 0 := hr0
  have hhr : I 2 1 = am_bits (sp_hp S) 6 := hhr
  have hhd : I 2 2 = am_bits (sp_dp S) 6 := hhd
  have hgl : ∀ m, m < (S 19).toNat → I 3 m = S (1 + m) := hgl
  have htp : ∀ i, i < (S 23).toNat → I 17 i = S (68 + i) := htp
  have hhn : ∀ i, i < (S 22).toNat → I 18 i = S (62 + i) := hhn
  have hbk : ∀ b, b < (S 20).toNat → I (6 + b) 0 = S (38 + b) ∧ I (6 + b) 1 = S (44 + b) ∧ I (6 + b) 2 = S (50 + b) ∧ I (6 + b) 3 = S (56 + b) := hbk
  have hlo : ∀ m b : Nat, m < (S 19).toNat → b < (S 20).toNat → I (20 + m) b = sp_like S m b ∧ I (27 + m) b = sp_odds S m b := hlo
  have hmem : c_mems D I ρ 4 S := hmem
  have hρc : ρ 1 5 = some c := hρc
  have hh := hh0
  have h19 := r_ok_19 hok
  have hokx := hok
  obtain ⟨o0, oG, oH, oD, o19, o20, o21, o22, o23, o24, oK, oV, oP, oM, oS, oY, oHd, oT, oC, oN⟩ := hok
  have hok := hokx
  refine am_e_ss 2 (q := (2, [(0, .inr (.inr (.inl (some 0)))), (1, .inl b), (2, .inl v)], [.inl b, .inr (.inr (.inl (some 0)))], (am_mm D I J ρ))) rfl ?_
  refine am_e_virtual (Q := fun r => r = (some (.inl ((am_bi (0 ≤ b ∧ b ≤ S 20 - 1)))), (am_mm D I J ρ))) rfl rfl (Nat.le_of_ble_eq_true rfl) rfl rfl (Nat.le_of_ble_eq_true rfl) (Nat.le_of_ble_eq_true rfl) (c_isBook _ (v := b) hok ⟨by omega, by omega⟩ h14) ?_
  rintro r rfl
  show am_E _ _ _ 5 [(0, .inr (.inr (.inl (some 0)))), (1, .inl b), (2, .inl v)] [.inl ((am_bi (0 ≤ b ∧ b ≤ S 20 - 1)))] (am_mm D I J ρ) _
  refine am_e_ifne rfl (fun hw1 => ?_) (fun hw1 => ?_)
  · show am_E _ _ _ 10 [(0, .inr (.inr (.inl (some 0)))), (1, .inl b), (2, .inl v)] [] (am_mm D I J ρ) _
    refine am_e_ss 4 (q := (18, [(0, .inr (.inr (.inl (some 0)))), (1, .inl b), (2, .inl v)], [.inl b, .inr (.inr (.inl (some 2)))], (am_mm D I J ρ))) rfl ?_
    refine am_e_virtual (Q := fun r => r = (some (.inl ((am_bi (sp_dp S (b).toNat = true)))), (am_mm D I J ρ))) rfl rfl (Nat.le_of_ble_eq_true rfl) rfl rfl (Nat.le_of_ble_eq_true rfl) (Nat.le_of_ble_eq_true rfl) (c_isHadI_2 _ (p := sp_dp S) hhd ⟨by omega, by omega⟩) ?_
    rintro r rfl
    show am_E _ _ _ 21 [(0, .inr (.inr (.inl (some 0)))), (1, .inl b), (2, .inl v)] [.inl ((am_bi (sp_dp S (b).toNat = true)))] (am_mm D I J ρ) _
    refine am_e_ss 6 (q := (31, [(3, .inl ((am_bi (sp_dp S (b).toNat = true)))), (0, .inr (.inr (.inl (some 0)))), (1, .inl b), (2, .inl v)], [.inl v, .inl b, .inr (.inr (.inl (some 2)))], (am_mm D I J ρ))) rfl ?_
    refine am_e_virtual (Q := fun r => ∃ Q219, r = (none, (am_mm D (am_wp uH2 I Q219) J ρ)) ∧ Q219 2 2 = am_bits (fun x => if x = (b).toNat then decide (v = 1) else sp_dp S x) 6) rfl rfl (Nat.le_of_ble_eq_true rfl) rfl rfl (Nat.le_of_ble_eq_true rfl) (Nat.le_of_ble_eq_true rfl) (c_setHadI_2 _ (z := v) (y := b) (p := sp_dp S) (by omega) ⟨by omega, by omega⟩ hhd) ?_
    rintro r ⟨Q219, rfl, hsh⟩
    show am_E _ _ _ 34 [(3, .inl ((am_bi (sp_dp S (b).toNat = true)))), (0, .inr (.inr (.inl (some 0)))), (1, .inl b), (2, .inl v)] [] (am_mm D (am_wp uH2 I Q219) J ρ) _
    refine am_e_ss 1 (q := (35, [(3, .inl ((am_bi (sp_dp S (b).toNat = true)))), (0, .inr (.inr (.inl (some 0)))), (1, .inl b), (2, .inl v)], [.inl ((am_bi (sp_dp S (b).toNat = true)))], (am_mm D (am_wp uH2 I Q219) J ρ))) rfl ?_
    refine am_e_ifeq rfl (fun hw2 => ?_) (fun hw2 => ?_)
    · show am_E _ _ _ 42 [(3, .inl ((am_bi (sp_dp S (b).toNat = true)))), (0, .inr (.inr (.inl (some 0)))), (1, .inl b), (2, .inl v)] [] (am_mm D (am_wp uH2 I Q219) J ρ) _
      refine am_e_ss 1 (q := (43, [(3, .inl ((am_bi (sp_dp S (b).toNat = true)))), (0, .inr (.inr (.inl (some 0)))), (1, .inl b), (2, .inl v)], [.inl 0], (am_mm D (am_wp uH2 I Q219) J ρ))) rfl ?_
      refine am_e_ireturn rfl rfl ?_
      have hp := sp_dp_t (S := S) (b := (b).toNat)
      have h7 := oD (b).toNat (by omega)
      rw [show 13 + (b).toNat = (13 + b).toNat by omega] at h7 hp
      have ew : S (13 + b).toNat = 0 := by
        have : ¬ (¬ S (13 + b).toNat = 0) := fun h => absurd (hp.mpr ⟨by omega, h⟩) (by assumption)
        omega
      have es : sp_had S b v = (0, am_u1 S ((13 + b).toNat) v) := by (unfold sp_had; rw [if_neg (by omega), ew])
      rw [es]
      dsimp only
      have hne : ∀ i, i ≠ (13 + b).toNat → (am_u1 S ((13 + b).toNat) v) i = S i := fun i g0 => (am_u1_ne g0)
      have hat0 : (am_u1 S ((13 + b).toNat) v) ((13 + b).toNat) = v := am_u1_at
      generalize am_u1 S ((13 + b).toNat) v = S2 at hne hat0 ⊢
      have hst : c_st S S2 := fun i hi => (hne i (by omega)).symm
      refine ⟨Q219, rfl, ?_⟩
      refine c_hall_w hok hh hst (fun c i hc => am_wp_off (uH2_c_fw hc)) (fun k j _ => rfl) ⟨h12.trans (hne 19 (by omega)).symm, h14.trans (hne 20 (by omega)).symm, h16.trans (hne 21 (by omega)).symm, h18.trans (hne 23 (by omega)).symm, h110.trans (hne 22 (by omega)).symm⟩ ⟨?_, ?_, ?_, ?_⟩ ?_ ?_
      · exact hr0.trans (hne 0 (by omega)).symm
      · refine hhr.trans (am_bits_cg 6 (fun x hx => ?_))
        unfold sp_hp
        rw [hne 19 (by omega), hne (7 + x) (by omega)]
      · refine hsh.trans (am_bits_cg 6 (fun x hx => ?_))
        unfold sp_dp
        rw [hne 20 (by omega)]
        by_cases e : x = (b).toNat
        · rw [if_pos e, show 13 + x = (13 + b).toNat by omega, hat0]
          rcases hv with rfl | rfl
          · simp
          · simp; omega
        · rw [if_neg e, hne (13 + x) (by omega)]
      · intro m hm
        rw [hne 19 (by omega)] at hm
        rw [hne (1 + m) (by omega)]
        exact hgl m hm
      · intro i hi
        rw [hne 23 (by omega)] at hi
        rw [hne (68 + i) (by omega)]
        exact htp i hi
      · intro i hi
        rw [hne 22 (by omega)] at hi
        rw [hne (62 + i) (by omega)]
        exact hhn i hi
    · show am_E _ _ _ 38 [(3, .inl ((am_bi (sp_dp S (b).toNat = true)))), (0, .inr (.inr (.inl (some 0)))), (1, .inl b), (2, .inl v)] [] (am_mm D (am_wp uH2 I Q219) J ρ) _
      refine am_e_ss 2 (q := (43, [(3, .inl ((am_bi (sp_dp S (b).toNat = true)))), (0, .inr (.inr (.inl (some 0)))), (1, .inl b), (2, .inl v)], [.inl 1], (am_mm D (am_wp uH2 I Q219) J ρ))) rfl ?_
      refine am_e_ireturn rfl rfl ?_
      have hp := sp_dp_t (S := S) (b := (b).toNat)
      have h7 := oD (b).toNat (by omega)
      rw [show 13 + (b).toNat = (13 + b).toNat by omega] at h7 hp
      have ew : S (13 + b).toNat = 1 := by
        have := (hp.mp (by assumption)).2
        omega
      have es : sp_had S b v = (1, am_u1 S ((13 + b).toNat) v) := by (unfold sp_had; rw [if_neg (by omega), ew])
      rw [es]
      dsimp only
      have hne : ∀ i, i ≠ (13 + b).toNat → (am_u1 S ((13 + b).toNat) v) i = S i := fun i g0 => (am_u1_ne g0)
      have hat0 : (am_u1 S ((13 + b).toNat) v) ((13 + b).toNat) = v := am_u1_at
      generalize am_u1 S ((13 + b).toNat) v = S2 at hne hat0 ⊢
      have hst : c_st S S2 := fun i hi => (hne i (by omega)).symm
      refine ⟨Q219, rfl, ?_⟩
      refine c_hall_w hok hh hst (fun c i hc => am_wp_off (uH2_c_fw hc)) (fun k j _ => rfl) ⟨h12.trans (hne 19 (by omega)).symm, h14.trans (hne 20 (by omega)).symm, h16.trans (hne 21 (by omega)).symm, h18.trans (hne 23 (by omega)).symm, h110.trans (hne 22 (by omega)).symm⟩ ⟨?_, ?_, ?_, ?_⟩ ?_ ?_
      · exact hr0.trans (hne 0 (by omega)).symm
      · refine hhr.trans (am_bits_cg 6 (fun x hx => ?_))
        unfold sp_hp
        rw [hne 19 (by omega), hne (7 + x) (by omega)]
      · refine hsh.trans (am_bits_cg 6 (fun x hx => ?_))
        unfold sp_dp
        rw [hne 20 (by omega)]
        by_cases e : x = (b).toNat
        · rw [if_pos e, show 13 + x = (13 + b).toNat by omega, hat0]
          rcases hv with rfl | rfl
          · simp
          · simp; omega
        · rw [if_neg e, hne (13 + x) (by omega)]
      · intro m hm
        rw [hne 19 (by omega)] at hm
        rw [hne (1 + m) (by omega)]
        exact hgl m hm
      · intro i hi
        rw [hne 23 (by omega)] at hi
        rw [hne (68 + i) (by omega)]
        exact htp i hi
      · intro i hi
        rw [hne 22 (by omega)] at hi
        rw [hne (62 + i) (by omega)]
        exact hhn i hi
  · show am_E _ _ _ 8 [(0, .inr (.inr (.inl (some 0)))), (1, .inl b), (2, .inl v)] [] (am_mm D I J ρ) _
    refine am_e_ss 1 (q := (9, [(0, .inr (.inr (.inl (some 0)))), (1, .inl b), (2, .inl v)], [.inl (-1)], (am_mm D I J ρ))) rfl ?_
    refine am_e_ireturn rfl rfl ?_
    rw [show sp_had S b v = ((-1), S) by (unfold sp_had; (repeat' split) <;> first | rfl | (exfalso; omega))]
    exact ⟨I, am_r_wp uH2 am_k_id, by rw [am_wp_id]; exact hh⟩
theorem c_monthI_2 {X : Nat × (Nat → Int)} {D : List (Nat × Nat)} {I J : Nat → Nat → Int} {ρ : Nat → Nat → Option Nat} (d : Nat) {S : Nat → Int} {B b : Int} (hok : r_ok S B) (hwf : sp_wfS S) (hB : B ≤ 1900000000) (h0 : S 0 ≤ 199) (hb : 0 ≤ b ∧ b < S 20) (hmh : c_mh D I ρ S) (hro : c_roll I 2 3 S) : am_E X (d + 3) 54 0 [(0, .inr (.inr (.inl (some 2)))), (1, .inr (.inr (.inl (some 1)))), (2, .inl b)] [] (am_mm D I J ρ) (fun q => ∃ Q, q = (some (.inl (sp_cmc S b (S 19).toNat)), am_mm D (am_wp uP2 I Q) J ρ) ∧ c_roll Q 2 3 (sp_go S b)) := by
  obtain ⟨n, rfl⟩ : ∃ n : Nat, b = (n : Int) := ⟨b.toNat, by omega⟩
  exact c_month_2 d hok hwf hB h0 (by omega) hmh hro
theorem c_monthC {X : Nat × (Nat → Int)} {D : List (Nat × Nat)} {I J : Nat → Nat → Int} {ρ : Nat → Nat → Option Nat} (d : Nat) {S : Nat → Int} {B : Int} (hok : r_ok S B) (hwf : sp_wfS S) (hh : c_hall D I ρ 0 S) {b : Int} (hb : -2147483648 ≤ b ∧ b < 2147483648) (hB : B ≤ 1900000000) (h99 : S 0 ≤ 99) : am_E X (d + 4) 107 0 [(0, .inr (.inr (.inl (some 0)))), (1, .inl b)] [] (am_mm D I J ρ) (fun q => ∃ Q, q = (some (.inl (sp_month S b).1), am_mm D (am_wp uP2 I Q) J ρ) ∧ c_hall D (am_wp uP2 I Q) ρ 0 (sp_month S b).2) := by
  have hh0 := hh
  obtain ⟨⟨h12, h14, h16, h18, h110⟩, ⟨hr0, hhr, hhd, hgl⟩, ⟨htp, hhn⟩, hbk, hlo, hmem, c, hρc, ⟨hsc0, hcc, hc0, hcs⟩⟩ := hh
  have hsc : (am_S ++ D)[c]? = some (1, 10) := hsc0.1.1
  have h12 : I 1 2 = S 19 := h12
  have h14 : I 1 4 = S 20 := h14
  have h16 : I 1 6 = S 21 := h16
  have h18 : I 1 8 = S 23 := h18
  have h110 : I 1 10 = S 22 := h110
  have hr0 : I 2 0 = S 0 := hr0
  have hhr : I 2 1 = am_bits (sp_hp S) 6 := hhr
  have hhd : I 2 2 = am_bits (sp_dp S) 6 := hhd
  have hgl : ∀ m, m < (S 19).toNat → I 3 m = S (1 + m) := hgl
  have htp : ∀ i, i < (S 23).toNat → I 17 i = S (68 + i) := htp
  have hhn : ∀ i, i < (S 22).toNat → I 18 i = S (62 + i) := hhn
  have hbk : ∀ b, b < (S 20).toNat → I (6 + b) 0 = S (38 + b) ∧ I (6 + b) 1 = S (44 + b) ∧ I (6 + b) 2 = S (50 + b) ∧ I (6 + b) 3 = S (56 + b) := hbk
  have hlo : ∀ m b : Nat, m < (S 19).toNat → b < (S 20).toNat → I (20 + m) b = sp_like S m b ∧ I (27 + m) b = sp_odds S m b := hlo
  have hmem : c_mems D I ρ 4 S := hmem
  have hρc : ρ 1 5 = some c := hρc
  have hh := hh0
  have h19 := r_ok_19 hok
  have hokx := hok
  obtain ⟨o0, oG, oH, oD, o19, o20, o21, o22, o23, o24, oK, oV, oP, oM, oS, oY, oHd, oT, oC, oN⟩ := hok
  have hok := hokx
  refine am_e_ss 2 (q := (2, [(0, .inr (.inr (.inl (some 0)))), (1, .inl b)], [.inl b, .inr (.inr (.inl (some 0)))], (am_mm D I J ρ))) rfl ?_
  refine am_e_virtual (Q := fun r => r = (some (.inl ((am_bi (0 ≤ b ∧ b ≤ S 20 - 1)))), (am_mm D I J ρ))) rfl rfl (Nat.le_of_ble_eq_true rfl) rfl rfl (Nat.le_of_ble_eq_true rfl) (Nat.le_of_ble_eq_true rfl) (c_isBook _ (v := b) hok ⟨by omega, by omega⟩ h14) ?_
  rintro r rfl
  show am_E _ _ _ 5 [(0, .inr (.inr (.inl (some 0)))), (1, .inl b)] [.inl ((am_bi (0 ≤ b ∧ b ≤ S 20 - 1)))] (am_mm D I J ρ) _
  refine am_e_ifne rfl (fun hw1 => ?_) (fun hw1 => ?_)
  · show am_E _ _ _ 10 [(0, .inr (.inr (.inl (some 0)))), (1, .inl b)] [] (am_mm D I J ρ) _
    refine am_e_ss 4 (q := (18, [(0, .inr (.inr (.inl (some 0)))), (1, .inl b)], [.inl b, .inr (.inr (.inl (some 2)))], (am_mm D I J ρ))) rfl ?_
    refine am_e_virtual (Q := fun r => r = (some (.inl ((am_bi (sp_dp S (b).toNat = true)))), (am_mm D I J ρ))) rfl rfl (Nat.le_of_ble_eq_true rfl) rfl rfl (Nat.le_of_ble_eq_true rfl) (Nat.le_of_ble_eq_true rfl) (c_isHadI_2 _ (p := sp_dp S) hhd ⟨by omega, by omega⟩) ?_
    rintro r rfl
    show am_E _ _ _ 21 [(0, .inr (.inr (.inl (some 0)))), (1, .inl b)] [.inl ((am_bi (sp_dp S (b).toNat = true)))] (am_mm D I J ρ) _
    refine am_e_ifne rfl (fun hw2 => ?_) (fun hw2 => ?_)
    · show am_E _ _ _ 39 [(0, .inr (.inr (.inl (some 0)))), (1, .inl b)] [] (am_mm D I J ρ) _
      refine am_e_ss 1 (q := (41, [(0, .inr (.inr (.inl (some 0)))), (1, .inl b)], [.inl (-3)], (am_mm D I J ρ))) rfl ?_
      refine am_e_ireturn rfl rfl ?_
      have hp := sp_dp_t (S := S) (b := (b).toNat)
      rw [show 13 + (b).toNat = (13 + b).toNat by omega] at hp
      have hd := (hp.mp (by assumption)).2
      rw [show sp_month S b = ((-3), S) by (unfold sp_month; (repeat' split) <;> first | rfl | (exfalso; omega))]
      exact ⟨I, am_r_wp uP2 am_k_id, by rw [am_wp_id]; exact hh⟩
    · show am_E _ _ _ 24 [(0, .inr (.inr (.inl (some 0)))), (1, .inl b)] [] (am_mm D I J ρ) _
      refine am_e_ss 5 (q := (36, [(0, .inr (.inr (.inl (some 0)))), (1, .inl b)], [.inl 99, .inl ((I 2 0))], (am_mm D I J ρ))) rfl ?_
      refine am_e_icmp2 rfl ⟨by omega, by omega⟩ ⟨by omega, by omega⟩ (fun (hw3 : (I 2 0) < 99) => ?_) (fun (hw3 : ¬ ((I 2 0) < 99)) => ?_)
      · show am_E _ _ _ 42 [(0, .inr (.inr (.inl (some 0)))), (1, .inl b)] [] (am_mm D I J ρ) _
        refine am_e_ss 6 (q := (54, [(0, .inr (.inr (.inl (some 0)))), (1, .inl b)], [.inl b, .inr (.inr (.inl (some 1))), .inr (.inr (.inl (some 2)))], (am_mm D I J ρ))) rfl ?_
        refine am_e_virtual (Q := fun r => ∃ Q220, r = (some (.inl ((sp_cmc S b (S 19).toNat))), (am_mm D (am_wp uP2 I Q220) J ρ)) ∧ c_roll Q220 2 3 (sp_go S b)) rfl rfl (Nat.le_of_ble_eq_true rfl) rfl rfl (Nat.le_of_ble_eq_true rfl) (Nat.le_of_ble_eq_true rfl) (c_monthI_2 _ (b := b) hok hwf hB (by omega) ⟨by omega, by omega⟩ (c_hall_mh hh) ⟨hr0, hhr, hhd, hgl⟩) ?_
        rintro r ⟨Q220, rfl, hrg⟩
        show am_E _ _ _ 57 [(0, .inr (.inr (.inl (some 0)))), (1, .inl b)] [.inl ((sp_cmc S b (S 19).toNat))] (am_mm D (am_wp uP2 I Q220) J ρ) _
        refine am_e_ireturn rfl rfl ?_
        have hp := sp_dp_t (S := S) (b := (b).toNat)
        rw [show 13 + (b).toNat = (13 + b).toNat by omega] at hp
        have hd : ¬ (¬ S (13 + b).toNat = 0) := fun h => absurd (hp.mpr ⟨by omega, h⟩) (by assumption)
        have es : sp_month S b = (sp_cmc S b (S 19).toNat, sp_go S b) := by (unfold sp_month; rw [if_neg (by omega), if_neg (by omega)])
        rw [es]
        dsimp only
        refine ⟨Q220, rfl, ?_⟩
        · skip
          have hal := sp_go_al (b := b) hok ⟨by omega, by omega⟩
          refine c_hall_w hok hh (c_st_al hal) (fun c i hc => (am_k_wp am_k_sub am_k_id) c i (uP2_c_fw hc)) (fun k j _ => rfl) ⟨h12.trans (hal 19 (by omega)), h14.trans (hal 20 (by omega)), h16.trans (hal 21 (by omega)), h18.trans (hal 23 (by omega)), h110.trans (hal 22 (by omega))⟩ hrg ?_ ?_
          · intro i hi
            rw [← hal 23 (by omega)] at hi
            rw [← hal (68 + i) (by omega)]
            exact htp i hi
          · intro i hi
            rw [← hal 22 (by omega)] at hi
            rw [← hal (62 + i) (by omega)]
            exact hhn i hi
      · show am_E _ _ _ 39 [(0, .inr (.inr (.inl (some 0)))), (1, .inl b)] [] (am_mm D I J ρ) _
        refine am_e_ss 1 (q := (41, [(0, .inr (.inr (.inl (some 0)))), (1, .inl b)], [.inl (-3)], (am_mm D I J ρ))) rfl ?_
        refine am_e_ireturn rfl rfl ?_
        have hp := sp_dp_t (S := S) (b := (b).toNat)
        rw [show 13 + (b).toNat = (13 + b).toNat by omega] at hp
        rw [show sp_month S b = ((-3), S) by (unfold sp_month; (repeat' split) <;> first | rfl | (exfalso; omega))]
        exact ⟨I, am_r_wp uP2 am_k_id, by rw [am_wp_id]; exact hh⟩
  · show am_E _ _ _ 8 [(0, .inr (.inr (.inl (some 0)))), (1, .inl b)] [] (am_mm D I J ρ) _
    refine am_e_ss 1 (q := (9, [(0, .inr (.inr (.inl (some 0)))), (1, .inl b)], [.inl (-1)], (am_mm D I J ρ))) rfl ?_
    refine am_e_ireturn rfl rfl ?_
    rw [show sp_month S b = ((-1), S) by (unfold sp_month; (repeat' split) <;> first | rfl | (exfalso; omega))]
    exact ⟨I, am_r_wp uP2 am_k_id, by rw [am_wp_id]; exact hh⟩
theorem c_by {X : Nat × (Nat → Int)} {D : List (Nat × Nat)} {I J : Nat → Nat → Int} {ρ : Nat → Nat → Option Nat} (d : Nat) {S : Nat → Int} {B : Int} (hok : r_ok S B) (hwf : sp_wfS S) (hh : c_hall D I ρ 0 S) {way : Int} (hway : -2147483648 ≤ way ∧ way < 2147483648) (hB : B ≤ 1900000000) (h99 : S 0 ≤ 99) : am_E X (d + 5) 108 0 [(0, .inr (.inr (.inl (some 0)))), (1, .inl way)] [] (am_mm D I J ρ) (fun q => ∃ Q ρ2, q = (some (.inl (sp_by S way).1), am_mm D (am_wp uB2 I Q) J ρ2) ∧ (∀ k j, k ≠ 71 → ρ2 k j = ρ k j) ∧ c_hall D (am_wp uB2 I Q) ρ2 0 (sp_by S way).2) := by
  have hh0 := hh
  obtain ⟨⟨h12, h14, h16, h18, h110⟩, ⟨hr0, hhr, hhd, hgl⟩, ⟨htp, hhn⟩, hbk, hlo, hmem, c, hρc, ⟨hsc0, hcc, hc0, hcs⟩⟩ := hh
  have hsc : (am_S ++ D)[c]? = some (1, 10) := hsc0.1.1
  have h12 : I 1 2 = S 19 := h12
  have h14 : I 1 4 = S 20 := h14
  have h16 : I 1 6 = S 21 := h16
  have h18 : I 1 8 = S 23 := h18
  have h110 : I 1 10 = S 22 := h110
  have hr0 : I 2 0 = S 0 := hr0
  have hhr : I 2 1 = am_bits (sp_hp S) 6 := hhr
  have hhd : I 2 2 = am_bits (sp_dp S) 6 := hhd
  have hgl : ∀ m, m < (S 19).toNat → I 3 m = S (1 + m) := hgl
  have htp : ∀ i, i < (S 23).toNat → I 17 i = S (68 + i) := htp
  have hhn : ∀ i, i < (S 22).toNat → I 18 i = S (62 + i) := hhn
  have hbk : ∀ b, b < (S 20).toNat → I (6 + b) 0 = S (38 + b) ∧ I (6 + b) 1 = S (44 + b) ∧ I (6 + b) 2 = S (50 + b) ∧ I (6 + b) 3 = S (56 + b) := hbk
  have hlo : ∀ m b : Nat, m < (S 19).toNat → b < (S 20).toNat → I (20 + m) b = sp_like S m b ∧ I (27 + m) b = sp_odds S m b := hlo
  have hmem : c_mems D I ρ 4 S := hmem
  have hρc : ρ 1 5 = some c := hρc
  have hh := hh0
  have h19 := r_ok_19 hok
  have hokx := hok
  obtain ⟨o0, oG, oH, oD, o19, o20, o21, o22, o23, o24, oK, oV, oP, oM, oS, oY, oHd, oT, oC, oN⟩ := hok
  have hok := hokx
  have ob := sp_ops_b hok
  refine am_e_ss 1 (q := (1, [(0, .inr (.inr (.inl (some 0)))), (1, .inl way)], [.inl way], (am_mm D I J ρ))) rfl ?_
  refine am_e_static (Q := fun r => r = (some (.inl ((am_bi (0 ≤ way ∧ way ≤ 5)))), (am_mm D I J ρ))) rfl (Nat.le_of_ble_eq_true rfl) rfl (Nat.le_of_ble_eq_true rfl) (Nat.le_of_ble_eq_true rfl) (c_isWay _ (v := way) ⟨by omega, by omega⟩) ?_
  rintro r rfl
  show am_E _ _ _ 4 [(0, .inr (.inr (.inl (some 0)))), (1, .inl way)] [.inl ((am_bi (0 ≤ way ∧ way ≤ 5)))] (am_mm D I J ρ) _
  refine am_e_ifne rfl (fun hw1 => ?_) (fun hw1 => ?_)
  · show am_E _ _ _ 9 [(0, .inr (.inr (.inl (some 0)))), (1, .inl way)] [] (am_mm D I J ρ) _
    refine am_e_ss 5 (q := (20, [(0, .inr (.inr (.inl (some 0)))), (1, .inl way)], [.inr (.inr (.inl (some 2))), .inr (.inr (.inl (some 71)))], (am_mm D I J ρ))) rfl ?_
    refine am_e_virtual (Q := fun r => ∃ Q221, r = (none, (am_mm D (am_wp uC I Q221) J (am_up ρ 71 1 (some 2)))) ∧ c_ords Q221 S ∧ c_voi Q221 (sp_vl S 0) (S 19).toNat) rfl rfl (Nat.le_of_ble_eq_true rfl) rfl rfl (Nat.le_of_ble_eq_true rfl) (Nat.le_of_ble_eq_true rfl) (c_collect_2 _ hok (c_hall_vh hok hh) hwf) ?_
    rintro r ⟨Q221, rfl, ⟨hord, hvoi⟩⟩
    show am_E _ _ _ 23 [(0, .inr (.inr (.inl (some 0)))), (1, .inl way)] [] (am_mm D (am_wp uC I Q221) J (am_up ρ 71 1 (some 2))) _
    refine am_e_ss 3 (q := (30, [(0, .inr (.inr (.inl (some 0)))), (1, .inl way)], [.inl ((Q221 71 3))], (am_mm D (am_wp uC I Q221) J (am_up ρ 71 1 (some 2))))) rfl ?_
    have ho3 := hord.1
    refine am_e_if2 rfl ⟨by omega, by omega⟩ (fun (hw2 : (Q221 71 3) = 0) => ?_) (fun (hw2 : ¬ ((Q221 71 3) = 0)) => ?_)
    · show am_E _ _ _ 48 [(0, .inr (.inr (.inl (some 0)))), (1, .inl way)] [] (am_mm D (am_wp uC I Q221) J (am_up ρ 71 1 (some 2))) _
      refine am_e_ss 1 (q := (50, [(0, .inr (.inr (.inl (some 0)))), (1, .inl way)], [.inl (-3)], (am_mm D (am_wp uC I Q221) J (am_up ρ 71 1 (some 2))))) rfl ?_
      refine am_e_ireturn rfl rfl ?_
      rw [show sp_by S way = ((-3), S) by (unfold sp_by; (repeat' split) <;> first | rfl | (exfalso; omega))]
      refine ⟨_, (am_up ρ 71 1 (some 2)), am_r_wp uB2 (am_k_wp uC_uB2 am_k_id), fun k j hk => if_neg (by omega), ?_⟩
      rw [show am_wp uB2 I (am_wp uC I Q221) = am_wp uC I Q221 from (am_wp_of (am_k_wp uC_uB2 am_k_id)).symm]
      exact c_hall_cg hok (Or.inl rfl) hh (fun c i hc => am_wp_off (show uC c i = false from (by cases e : uC c i with | false => rfl | true => exact absurd (uZ_fx hc) (by rw [uC_uZ c i e]; decide)))) (fun k j hk => if_neg (by omega))
    · show am_E _ _ _ 33 [(0, .inr (.inr (.inl (some 0)))), (1, .inl way)] [] (am_mm D (am_wp uC I Q221) J (am_up ρ 71 1 (some 2))) _
      refine am_e_ss 5 (q := (45, [(0, .inr (.inr (.inl (some 0)))), (1, .inl way)], [.inl 99, .inl ((I 2 0))], (am_mm D (am_wp uC I Q221) J (am_up ρ 71 1 (some 2))))) rfl ?_
      refine am_e_icmp2 rfl ⟨by omega, by omega⟩ ⟨by omega, by omega⟩ (fun (hw3 : (I 2 0) < 99) => ?_) (fun (hw3 : ¬ ((I 2 0) < 99)) => ?_)
      · show am_E _ _ _ 51 [(0, .inr (.inr (.inl (some 0)))), (1, .inl way)] [] (am_mm D (am_wp uC I Q221) J (am_up ρ 71 1 (some 2))) _
        have hordK : c_ords (am_wp uC I Q221) S := ⟨hord.1, hord.2.1, fun j hj => am_rowl_cg (hord.2.2 j hj) (fun i _ => am_wp_in (show uC (74 + j) _ = true from (by rcases (show j = 0 ∨ j = 1 ∨ j = 2 ∨ j = 3 ∨ j = 4 ∨ j = 5 by omega) with rfl | rfl | rfl | rfl | rfl | rfl <;> rfl)))⟩
        have hvoiK : c_voi (am_wp uC I Q221) (sp_vl S 0) (S 19).toNat := ⟨hvoi.1, fun j hj hn => am_rowl_cg (hvoi.2.1 j hj hn) (fun i _ => am_wp_in (show uC (81 + j) _ = true from (by rcases (show j = 0 ∨ j = 1 ∨ j = 2 ∨ j = 3 ∨ j = 4 ∨ j = 5 by omega) with rfl | rfl | rfl | rfl | rfl | rfl <;> rfl))), hvoi.2.2.1, fun a b ha hb => (am_wp_in (show uC (91 + a) b = true from (by rcases (show a = 0 ∨ a = 1 ∨ a = 2 ∨ a = 3 ∨ a = 4 ∨ a = 5 by omega) with rfl | rfl | rfl | rfl | rfl | rfl <;> rfl))).trans (hvoi.2.2.2 a b ha hb)⟩
        refine am_e_ss 3 (q := (56, [(0, .inr (.inr (.inl (some 0)))), (1, .inl way)], [.inl way, .inr (.inr (.inl (some 71)))], (am_mm D (am_wp uC I Q221) J (am_up ρ 71 1 (some 2))))) rfl ?_
        refine am_e_virtual (Q := fun r => r = (some (.inl ((sp_cho S (sp_vl S 0) way))), (am_mm D (am_wp uC I Q221) J (am_up ρ 71 1 (some 2))))) rfl rfl (Nat.le_of_ble_eq_true rfl) rfl rfl (Nat.le_of_ble_eq_true rfl) (Nat.le_of_ble_eq_true rfl) (c_pick_2 _ (VL := sp_vl S 0) hok hordK (fun _ => hvoiK) sp_vl_vcs ⟨by omega, by omega⟩ (if_pos ⟨rfl, rfl⟩) h12 hr0 hhr) ?_
        rintro r rfl
        show am_E _ _ _ 59 [(0, .inr (.inr (.inl (some 0)))), (1, .inl way)] [.inl ((sp_cho S (sp_vl S 0) way))] (am_mm D (am_wp uC I Q221) J (am_up ρ 71 1 (some 2))) _
        refine am_e_ss 1 (q := (60, [(2, .inl ((sp_cho S (sp_vl S 0) way))), (0, .inr (.inr (.inl (some 0)))), (1, .inl way)], [], (am_mm D (am_wp uC I Q221) J (am_up ρ 71 1 (some 2))))) rfl ?_
        have cb := sp_c0_b (way := way) hok (by omega)
        have cb2 : 0 ≤ sp_cho S (sp_vl S 0) way ∧ sp_cho S (sp_vl S 0) way < S 20 := cb
        have hhK : c_hall D (am_wp uC I Q221) (am_up ρ 71 1 (some 2)) 0 S := c_hall_cg hok (Or.inl rfl) hh (fun c i hc => am_wp_off (show uC c i = false from (by cases e : uC c i with | false => rfl | true => exact absurd (uZ_fx hc) (by rw [uC_uZ c i e]; decide)))) (fun k j hk => if_neg (by omega))
        refine am_e_ss 6 (q := (72, [(2, .inl ((sp_cho S (sp_vl S 0) way))), (0, .inr (.inr (.inl (some 0)))), (1, .inl way)], [.inl ((sp_cho S (sp_vl S 0) way)), .inr (.inr (.inl (some 1))), .inr (.inr (.inl (some 2)))], (am_mm D (am_wp uC I Q221) J (am_up ρ 71 1 (some 2))))) rfl ?_
        refine am_e_virtual (Q := fun r => ∃ Q222, r = (some (.inl ((sp_cmc S (sp_cho S (sp_vl S 0) way) (S 19).toNat))), (am_mm D (am_wp uP2 (am_wp uC I Q221) Q222) J (am_up ρ 71 1 (some 2)))) ∧ c_roll Q222 2 3 (sp_go S (sp_cho S (sp_vl S 0) way))) rfl rfl (Nat.le_of_ble_eq_true rfl) rfl rfl (Nat.le_of_ble_eq_true rfl) (Nat.le_of_ble_eq_true rfl) (c_monthI_2 _ (b := (sp_cho S (sp_vl S 0) way)) hok hwf hB (by omega) ⟨by omega, by omega⟩ (c_hall_mh hhK) ⟨hr0, hhr, hhd, hgl⟩) ?_
        rintro r ⟨Q222, rfl, hrg⟩
        show am_E _ _ _ 75 [(2, .inl ((sp_cho S (sp_vl S 0) way))), (0, .inr (.inr (.inl (some 0)))), (1, .inl way)] [.inl ((sp_cmc S (sp_cho S (sp_vl S 0) way) (S 19).toNat))] (am_mm D (am_wp uP2 (am_wp uC I Q221) Q222) J (am_up ρ 71 1 (some 2))) _
        refine am_e_ss 2 (q := (77, [(2, .inl ((sp_cho S (sp_vl S 0) way))), (0, .inr (.inr (.inl (some 0)))), (1, .inl way)], [.inl ((sp_cho S (sp_vl S 0) way))], (am_mm D (am_wp uP2 (am_wp uC I Q221) Q222) J (am_up ρ 71 1 (some 2))))) rfl ?_
        refine am_e_ireturn rfl rfl ?_
        have es : sp_by S way = (sp_c0 S way, sp_go S (sp_c0 S way)) := by (unfold sp_by; rw [if_neg (by omega), if_neg (by omega)])
        rw [es]
        dsimp only
        refine ⟨_, (am_up ρ 71 1 (some 2)), am_r_wp uB2 (am_k_wp uP2_uB2 (am_k_wp uC_uB2 am_k_id)), fun k j hk => if_neg (by omega), ?_⟩
        · rw [show am_wp uB2 I (am_wp uP2 (am_wp uC I Q221) Q222) = am_wp uP2 (am_wp uC I Q221) Q222 from (am_wp_of (am_k_wp uP2_uB2 (am_k_wp uC_uB2 am_k_id))).symm]
          have hal := sp_go_al (b := sp_c0 S way) hok ⟨by omega, by omega⟩
          refine c_hall_w hok hh (c_st_al hal) (fun c i hc => (am_k_wp uP2_uB2 (am_k_wp uC_uB2 am_k_id)) c i (uB2_c_fw hc)) (fun k j hk => if_neg (by omega)) ⟨h12.trans (hal 19 (by omega)), h14.trans (hal 20 (by omega)), h16.trans (hal 21 (by omega)), h18.trans (hal 23 (by omega)), h110.trans (hal 22 (by omega))⟩ hrg ?_ ?_
          · intro i hi
            rw [← hal 23 (by omega)] at hi
            rw [← hal (68 + i) (by omega)]
            exact htp i hi
          · intro i hi
            rw [← hal 22 (by omega)] at hi
            rw [← hal (62 + i) (by omega)]
            exact hhn i hi
      · show am_E _ _ _ 48 [(0, .inr (.inr (.inl (some 0)))), (1, .inl way)] [] (am_mm D (am_wp uC I Q221) J (am_up ρ 71 1 (some 2))) _
        refine am_e_ss 1 (q := (50, [(0, .inr (.inr (.inl (some 0)))), (1, .inl way)], [.inl (-3)], (am_mm D (am_wp uC I Q221) J (am_up ρ 71 1 (some 2))))) rfl ?_
        refine am_e_ireturn rfl rfl ?_
        rw [show sp_by S way = ((-3), S) by (unfold sp_by; (repeat' split) <;> first | rfl | (exfalso; omega))]
        refine ⟨_, (am_up ρ 71 1 (some 2)), am_r_wp uB2 (am_k_wp uC_uB2 am_k_id), fun k j hk => if_neg (by omega), ?_⟩
        rw [show am_wp uB2 I (am_wp uC I Q221) = am_wp uC I Q221 from (am_wp_of (am_k_wp uC_uB2 am_k_id)).symm]
        exact c_hall_cg hok (Or.inl rfl) hh (fun c i hc => am_wp_off (show uC c i = false from (by cases e : uC c i with | false => rfl | true => exact absurd (uZ_fx hc) (by rw [uC_uZ c i e]; decide)))) (fun k j hk => if_neg (by omega))
  · show am_E _ _ _ 7 [(0, .inr (.inr (.inl (some 0)))), (1, .inl way)] [] (am_mm D I J ρ) _
    refine am_e_ss 1 (q := (8, [(0, .inr (.inr (.inl (some 0)))), (1, .inl way)], [.inl (-1)], (am_mm D I J ρ))) rfl ?_
    refine am_e_ireturn rfl rfl ?_
    rw [show sp_by S way = ((-1), S) by (unfold sp_by; (repeat' split) <;> first | rfl | (exfalso; omega))]
    exact ⟨I, ρ, am_r_wp uB2 am_k_id, fun _ _ _ => rfl, by rw [am_wp_id]; exact hh⟩
