/-! THE REFERENCE: a month -/
/-- alike but for what a month changes -/
def sp_al (S S' : Nat → Int) : Prop := ∀ i, 19 ≤ i → S i = S' i
theorem sp_al_r {S : Nat → Int} : sp_al S S := fun _ _ => rfl
theorem sp_al_s {S S' : Nat → Int} (h : sp_al S S') : sp_al S' S := fun i hi => (h i hi).symm
theorem sp_al_t {S S' S'' : Nat → Int} (h : sp_al S S') (h' : sp_al S' S'') : sp_al S S'' := fun i hi => (h i hi).trans (h' i hi)
theorem sp_stp_cg {S S' : Nat → Int} (h : sp_al S S') (h24 : -1 ≤ S 24) : sp_stp S = sp_stp S' := by
  funext k
  unfold sp_stp
  rw [← h 24 (by omega)]
  exact h _ (by omega)
theorem sp_many_cg {S S' : Nat → Int} (h : sp_al S S') (h24 : -1 ≤ S 24) : sp_many S = sp_many S' := by
  unfold sp_many
  rw [← h 24 (by omega), ← h (173 + S 24).toNat (by omega)]
theorem sp_come_cg {S S' : Nat → Int} (h : sp_al S S') (h24 : -1 ≤ S 24) : sp_come S = sp_come S' := by
  unfold sp_come
  rw [← h 24 (by omega), ← h (168 + S 24).toNat (by omega)]
theorem sp_fa_cg {S S' : Nat → Int} {m b : Int} (h : sp_al S S') (hm : 0 ≤ m) (hb : 0 ≤ b) : sp_fa S m b = sp_fa S' m b := by
  funext i
  unfold sp_fa
  rw [← h (26 + m).toNat (by omega), ← h (38 + b).toNat (by omega), ← h (44 + b).toNat (by omega), ← h (50 + b).toNat (by omega)]
theorem sp_wfS_cg {S S' : Nat → Int} (h : sp_al S S') (h24 : -1 ≤ S 24) (hw : sp_wfS S) : sp_wfS S' := by
  unfold sp_wfS at *
  rw [← sp_stp_cg h h24, ← sp_many_cg h h24]
  exact hw
theorem sp_like_cg {S S' : Nat → Int} {m b : Int} (h : sp_al S S') (h24 : -1 ≤ S 24) (hm : 0 ≤ m) (hb : 0 ≤ b) : sp_like S m b = sp_like S' m b := by
  unfold sp_like sp_lk sp_liking
  rw [sp_fa_cg h hm hb, sp_stp_cg h h24, sp_many_cg h h24, ← h (26 + m).toNat (by omega), ← h (56 + b).toNat (by omega), ← h (32 + m).toNat (by omega), ← h (38 + b).toNat (by omega)]
theorem sp_odds_cg {S S' : Nat → Int} {m b : Int} (h : sp_al S S') (h24 : -1 ≤ S 24) (hm : 0 ≤ m) (hb : 0 ≤ b) : sp_odds S m b = sp_odds S' m b := by
  unfold sp_odds sp_odd2 sp_odd1 sp_rd' sp_reading
  rw [sp_like_cg h h24 hm hb, sp_fa_cg h hm hb, sp_stp_cg h h24, sp_many_cg h h24, ← h (26 + m).toNat (by omega), ← h (56 + b).toNat (by omega)]
theorem sp_cmi_cg {S S' : Nat → Int} {m b : Int} (h : sp_al S S') (h24 : -1 ≤ S 24) (h0 : S 0 = S' 0) (hm : 0 ≤ m) (hb : 0 ≤ b) : sp_cmi S m b = sp_cmi S' m b := by
  unfold sp_cmi
  rw [sp_odds_cg h h24 hm hb, sp_come_cg h h24, ← h (26 + m).toNat (by omega), ← h (32 + m).toNat (by omega), ← h0]
theorem r_lks_cg {S S' R : Nat → Int} (h : sp_al S S') (h24 : -1 ≤ S 24) (hl : r_lks S R) : r_lks S' R := by
  intro m b hm hb
  rw [← sp_like_cg h h24 (by omega) (by omega)]
  exact hl m b (by rw [h 19 (by omega)]; exact hm) (by rw [h 20 (by omega)]; exact hb)
theorem r_ok_24 {S : Nat → Int} {B : Int} (hok : r_ok S B) : -1 ≤ S 24 := by
  obtain ⟨o0, oG, oH, oD, o19, o20, o21, o22, o23, o24, oK, oV, oP, oM, oS, oY, oHd, oT, oC, oN⟩ := hok
  exact o24.1
theorem r_ok_19 {S : Nat → Int} {B : Int} (hok : r_ok S B) : (0 ≤ S 19 ∧ S 19 ≤ 6) ∧ (0 ≤ S 20 ∧ S 20 ≤ 6) := by
  obtain ⟨o0, oG, oH, oD, o19, o20, o21, o22, o23, o24, oK, oV, oP, oM, oS, oY, oHd, oT, oC, oN⟩ := hok
  exact ⟨o19, o20⟩
theorem r_ok_of {S S' : Nat → Int} {B B' : Int} (hok : r_ok S B) (h : sp_al S S') (h0 : 0 ≤ S' 0 ∧ S' 0 ≤ 200) (hG : ∀ m, m < 6 → -B' ≤ S' (1 + m) ∧ S' (1 + m) ≤ B') (hH : ∀ m, m < 6 → S' (7 + m) = 0 ∨ S' (7 + m) = 1) (hD : ∀ b, b < 6 → S' (13 + b) = 0 ∨ S' (13 + b) = 1) : r_ok S' B' := by
  obtain ⟨o0, oG, oH, oD, o19, o20, o21, o22, o23, o24, oK, oV, oP, oM, oS, oY, oHd, oT, oC, oN⟩ := hok
  refine ⟨h0, hG, hH, hD, ?_, ?_, ?_, ?_, ?_, ?_, ?_, ?_, ?_, ?_, ?_, ?_, ?_, ?_, ?_, ?_⟩
  · rw [← h 19 (by omega)]; exact o19
  · rw [← h 20 (by omega)]; exact o20
  · rw [← h 21 (by omega)]; exact o21
  · rw [← h 22 (by omega)]; exact o22
  · rw [← h 23 (by omega)]; exact o23
  · rw [← h 24 (by omega)]; exact o24
  · intro m hm; rw [← h (26 + m) (by omega)]; exact oK m hm
  · intro m hm; rw [← h (32 + m) (by omega)]; exact oV m hm
  · intro m hm; rw [← h (38 + m) (by omega)]; exact oP m hm
  · intro m hm; rw [← h (44 + m) (by omega)]; exact oM m hm
  · intro m hm; rw [← h (50 + m) (by omega)]; exact oS m hm
  · intro m hm; rw [← h (56 + m) (by omega)]; exact oY m hm
  · intro m hm; rw [← h (62 + m) (by omega)]; exact oHd m hm
  · intro m hm; rw [← h (68 + m) (by omega)]; exact oT m hm
  · intro m hm; rw [← h (168 + m) (by omega)]; exact oC m hm
  · intro m hm; rw [← h (173 + m) (by omega)]; exact oN m hm
theorem r_ok_mono {S : Nat → Int} {B B' : Int} (hok : r_ok S B) (h : B ≤ B') : r_ok S B' := by
  have hok2 := hok
  obtain ⟨o0, oG, oH, oD, o19, o20, o21, o22, o23, o24, oK, oV, oP, oM, oS, oY, oHd, oT, oC, oN⟩ := hok
  exact r_ok_of hok2 sp_al_r o0 (fun m hm => by have := oG m hm; omega) oH oD
/-- a month: how glad one gets -/
def sp_dl (S : Nat → Int) (b : Int) (m : Nat) : Int := if sp_cmi S m b = 0 then -10 else sp_like S m b - 50
def sp_ng (S : Nat → Int) (b : Int) (m : Nat) : Int := if S (7 + m) = 0 then S (1 + m) + sp_dl S b m else S (1 + m)
def sp_g2 (S : Nat → Int) (b : Int) (n m : Nat) : Nat → Int := fun i => if i = (13 + b).toNat then 1 else if 1 ≤ i ∧ i < 1 + n then sp_ng S b (i - 1) else if 7 ≤ i ∧ i < 7 + m ∧ sp_ng S b (i - 7) < -50 then 1 else S i
def sp_go (S : Nat → Int) (b : Int) : Nat → Int := am_u1 (sp_g2 S b (S 19).toNat (S 19).toNat) 0 (S 0 + 1)
def sp_cmc (S : Nat → Int) (b : Int) : Nat → Int
  | 0 => 0
  | m + 1 => sp_cmc S b m + (if S (7 + m) = 0 then sp_cmi S m b else 0)
theorem sp_dl_b {S : Nat → Int} {b B : Int} {m : Nat} (hok : r_ok S B) (hw : sp_wfS S) (hm : m < 6) (hb : 0 ≤ b ∧ b < 6) : -80050 ≤ sp_dl S b m ∧ sp_dl S b m ≤ 80050 := by
  have := sp_like_b hok hw (m := (m : Int)) (b := b) ⟨by omega, by omega⟩ hb
  unfold sp_dl
  split <;> omega
theorem sp_ng_b {S : Nat → Int} {b B : Int} {m : Nat} (hok : r_ok S B) (hw : sp_wfS S) (hm : m < 6) (hb : 0 ≤ b ∧ b < 6) : -(B + 80050) ≤ sp_ng S b m ∧ sp_ng S b m ≤ B + 80050 := by
  have := sp_dl_b hok hw hm hb
  obtain ⟨o0, oG, oH, oD, o19, o20, o21, o22, o23, o24, oK, oV, oP, oM, oS, oY, oHd, oT, oC, oN⟩ := hok
  have := oG m hm
  unfold sp_ng
  split <;> omega
theorem sp_g2_al {S : Nat → Int} {b : Int} {n m : Nat} (hb : 0 ≤ b ∧ b < 6) (hn : n ≤ 6) (hm : m ≤ 6) : sp_al S (sp_g2 S b n m) := by
  intro i hi
  unfold sp_g2
  rw [if_neg (by omega), if_neg (by omega), if_neg (by omega)]
theorem sp_g2_0 {S : Nat → Int} {b : Int} {n m : Nat} (hb : 0 ≤ b) : sp_g2 S b n m 0 = S 0 := by
  unfold sp_g2
  rw [if_neg (by omega), if_neg (by omega), if_neg (by omega)]
theorem sp_g2_gl {S : Nat → Int} {b : Int} {n m j : Nat} (hb : 0 ≤ b) (hj : j < 6) : sp_g2 S b n m (1 + j) = if j < n then sp_ng S b j else S (1 + j) := by
  unfold sp_g2
  rw [if_neg (by omega)]
  by_cases h : j < n
  · rw [if_pos h, if_pos (by omega), show 1 + j - 1 = j by omega]
  · rw [if_neg h, if_neg (by omega), if_neg (by omega)]
theorem sp_g2_hr {S : Nat → Int} {b : Int} {n m j : Nat} (hb : 0 ≤ b) (hn : n ≤ 6) (hj : j < 6) : sp_g2 S b n m (7 + j) = if j < m ∧ sp_ng S b j < -50 then 1 else S (7 + j) := by
  unfold sp_g2
  rw [if_neg (by omega), if_neg (by omega), show 7 + j - 7 = j by omega]
  by_cases h : j < m ∧ sp_ng S b j < -50
  · rw [if_pos h, if_pos ⟨by omega, by omega, h.2⟩]
  · rw [if_neg h, if_neg (by omega)]
theorem sp_g2_hd {S : Nat → Int} {b : Int} {n m j : Nat} (hb : 0 ≤ b) (hn : n ≤ 6) (hm : m ≤ 6) : sp_g2 S b n m (13 + j) = if (j : Int) = b then 1 else S (13 + j) := by
  unfold sp_g2
  by_cases h : (j : Int) = b
  · rw [if_pos h, if_pos (by omega)]
  · rw [if_neg h, if_neg (by omega), if_neg (by omega), if_neg (by omega)]
theorem sp_g2_ok {S : Nat → Int} {b B : Int} {n m : Nat} (hok : r_ok S B) (hw : sp_wfS S) (hb : 0 ≤ b ∧ b < 6) (hn : n ≤ 6) (hm : m ≤ 6) : r_ok (sp_g2 S b n m) (B + 80050) := by
  have hok2 := hok
  obtain ⟨o0, oG, oH, oD, o19, o20, o21, o22, o23, o24, oK, oV, oP, oM, oS, oY, oHd, oT, oC, oN⟩ := hok
  refine r_ok_of hok2 (sp_g2_al hb hn hm) ?_ ?_ ?_ ?_
  · rw [sp_g2_0 hb.1]; exact o0
  · intro j hj
    rw [sp_g2_gl hb.1 hj]
    have h1 := sp_ng_b hok2 hw hj hb
    have h2 := oG j hj
    split <;> omega
  · intro j hj
    rw [sp_g2_hr hb.1 hn hj]
    have h2 := oH j hj
    split
    · exact Or.inr rfl
    · exact h2
  · intro j hj
    rw [sp_g2_hd hb.1 hn hm]
    have h2 := oD j hj
    split
    · exact Or.inr rfl
    · exact h2
theorem sp_go_al {S : Nat → Int} {b B : Int} (hok : r_ok S B) (hb : 0 ≤ b ∧ b < 6) : sp_al S (sp_go S b) := by
  have h := (r_ok_19 hok).1
  intro i hi
  unfold sp_go
  rw [am_u1_ne (by omega)]
  exact sp_g2_al hb (by omega) (by omega) i hi
theorem sp_go_0 {S : Nat → Int} {b : Int} : sp_go S b 0 = S 0 + 1 := am_u1_at
theorem sp_go_hd {S : Nat → Int} {b B : Int} {j : Nat} (hok : r_ok S B) (hb : 0 ≤ b) : sp_go S b (13 + j) = if (j : Int) = b then 1 else S (13 + j) := by
  have h := (r_ok_19 hok).1
  unfold sp_go
  rw [am_u1_ne (by omega), sp_g2_hd hb (by omega) (by omega)]
theorem sp_go_hr {S : Nat → Int} {b B : Int} {j : Nat} (hok : r_ok S B) (hb : 0 ≤ b) (hj : j < 6) : sp_go S b (7 + j) = if j < (S 19).toNat ∧ sp_ng S b j < -50 then 1 else S (7 + j) := by
  have h := (r_ok_19 hok).1
  unfold sp_go
  rw [am_u1_ne (by omega), sp_g2_hr hb (by omega) hj]
theorem sp_go_gl {S : Nat → Int} {b B : Int} {j : Nat} (hok : r_ok S B) (hb : 0 ≤ b) (hj : j < 6) : sp_go S b (1 + j) = if j < (S 19).toNat then sp_ng S b j else S (1 + j) := by
  have h := (r_ok_19 hok).1
  unfold sp_go
  rw [am_u1_ne (by omega), sp_g2_gl hb hj]
theorem sp_go_ok {S : Nat → Int} {b B : Int} (hok : r_ok S B) (hw : sp_wfS S) (hb : 0 ≤ b ∧ b < 6) (h0 : S 0 ≤ 199) : r_ok (sp_go S b) (B + 80050) := by
  have h := (r_ok_19 hok).1
  have h2 := sp_g2_ok (n := (S 19).toNat) (m := (S 19).toNat) hok hw hb (by omega) (by omega)
  obtain ⟨o0, oG, oH, oD, o19, o20, o21, o22, o23, o24, oK, oV, oP, oM, oS, oY, oHd, oT, oC, oN⟩ := h2
  have hz : 0 ≤ S 0 := by
    obtain ⟨p0, _⟩ := hok
    exact p0.1
  refine r_ok_of hok (sp_go_al hok hb) ⟨by rw [sp_go_0]; omega, by rw [sp_go_0]; omega⟩ ?_ ?_ ?_
  · intro j hj; unfold sp_go; rw [am_u1_ne (by omega)]; exact oG j hj
  · intro j hj; unfold sp_go; rw [am_u1_ne (by omega)]; exact oH j hj
  · intro j hj; unfold sp_go; rw [am_u1_ne (by omega)]; exact oD j hj
theorem sp_cmc_b {S : Nat → Int} {b : Int} : ∀ n : Nat, 0 ≤ sp_cmc S b n ∧ sp_cmc S b n ≤ (n : Int) := by
  intro n
  induction n with
  | zero => exact ⟨Int.le_refl _, Int.le_refl _⟩
  | succ n ih =>
    have := sp_cmi_01 S n b
    unfold sp_cmc
    split <;> omega
def tG : Nat → Nat → Bool := fun c i => Nat.beq c 108 || Nat.beq c 111 || Nat.beq c 112 || (Nat.beq c 107 && (Nat.beq i 12 || Nat.beq i 13))
theorem tL_tG : ∀ c i, tL c i = true → tG c i = true := by
  intro c i
  unfold tL tG
  simp
  omega
theorem r_goes_2 {X : Nat × (Nat → Int)} {D : List (Nat × Nat)} {I J : Nat → Nat → Int} {ρ : Nat → Nat → Option Nat} (d : Nat) {S : Nat → Int} {A B b : Int} (hb : 0 ≤ b ∧ b < 6) (hA : r_ok S A) (hB : A + 80050 ≤ B ∧ B ≤ 2000000000) (hwS : sp_wfS S) {cc : Int} {m : Nat} (hm : (m : Int) ≤ S 19) (hS : I 108 = sp_g2 S b (S 19).toNat m) (hcc : cc = sp_cmc S b (S 19).toNat) : am_E X (d + 3) 190 92 [(3, .inl (m : Int)), (2, .inl cc), (1, .inl b), (0, .inr (.inr (.inl (some 107))))] [] (am_mm D I J ρ) (fun r => ∃ Q, r = (some (.inl (sp_cmc S b (S 19).toNat)), am_mm D (am_wp tG I Q) J ρ) ∧ Q 108 = sp_go S b) := by
  have s19 := (r_ok_19 hA).1
  have hg2 := sp_g2_ok (n := (S 19).toNat) (m := m) hA hwS hb (by omega) (by omega)
  have hok : r_ok (I 108) B := by rw [hS]; exact r_ok_mono hg2 hB.1
  have hal : sp_al S (I 108) := by rw [hS]; exact sp_g2_al hb (by omega) (by omega)
  have h24 := r_ok_24 hA
  have hwf : sp_wfS (I 108) := sp_wfS_cg hal h24 hwS
  have e19 : S 19 = I 108 19 := hal 19 (by omega)
  have e0 : I 108 0 = S 0 := by rw [hS]; exact sp_g2_0 hb.1
  have hok2 := hok
  obtain ⟨o0, oG, oH, oD, o19, o20, o21, o22, o23, o24, oK, oV, oP, oM, oS, oY, oHd, oT, oC, oN⟩ := hok
  have hok := hok2
  refine am_e_ss 5 (q := (100, [(3, .inl (m : Int)), (2, .inl cc), (1, .inl b), (0, .inr (.inr (.inl (some 107))))], [.inl ((I 108 19)), .inl (m : Int)], (am_mm D I J ρ))) rfl ?_
  refine am_e_icmp2 rfl ⟨by omega, by omega⟩ ⟨by omega, by omega⟩ (fun (h1 : (I 108 19) ≤ (m : Int)) => ?_) (fun (h1 : ¬ ((I 108 19) ≤ (m : Int))) => ?_)
  · show am_E _ _ _ 144 [(3, .inl (m : Int)), (2, .inl cc), (1, .inl b), (0, .inr (.inr (.inl (some 107))))] [] (am_mm D I J ρ) _
    refine am_e_ss 9 (q := (155, [(3, .inl (m : Int)), (2, .inl cc), (1, .inl b), (0, .inr (.inr (.inl (some 107))))], [.inl cc], (am_mm D (am_up I 108 0 ((I 108 0) + 1)) J ρ))) rfl ?_
    refine am_e_ireturn rfl rfl ?_
    rw [hcc]
    refine ⟨_, am_r_wp tG (am_k_up rfl (am_k_id)), ?_⟩
    show (am_up I 108 0 ((I 108 0) + 1)) 108 = _
    funext i
    unfold sp_go
    by_cases e : i = 0
    · subst e; rw [am_u1_at]; exact am_up_at2.trans (by omega)
    · rw [am_u1_ne e]
      refine (am_up_ne2 (by omega)).trans ((congrFun hS i).trans ?_)
      rw [show m = (S 19).toNat by omega]
  · show am_E _ _ _ 103 [(3, .inl (m : Int)), (2, .inl cc), (1, .inl b), (0, .inr (.inr (.inl (some 107))))] [] (am_mm D I J ρ) _
    refine am_e_ss 10 (q := (118, [(3, .inl (m : Int)), (2, .inl cc), (1, .inl b), (0, .inr (.inr (.inl (some 107))))], [.inl (1 + (m : Int)), .inr (.inr (.inl (some 108))), .inl (7 + (m : Int)), .inr (.inr (.inl (some 108)))], (am_mm D I J ρ))) rfl ?_
    have hgl := congrFun hS (1 + m)
    rw [sp_g2_gl hb.1 (by omega), if_pos (by omega)] at hgl
    have hgb := sp_ng_b (m := m) hA hwS (by omega) hb
    have hhr := congrFun hS (7 + m)
    rw [sp_g2_hr hb.1 (by omega) (by omega), if_neg (by omega)] at hhr
    refine am_e_iaload (m := 878) rfl rfl (by omega) (by omega) (by omega) ?_
    show am_E _ _ _ 119 [(3, .inl (m : Int)), (2, .inl cc), (1, .inl b), (0, .inr (.inr (.inl (some 107))))] [.inl ((I 108 (1 + m))), .inl (7 + (m : Int)), .inr (.inr (.inl (some 108)))] (am_mm D I J ρ) _
    refine am_e_ss 1 (q := (121, [(3, .inl (m : Int)), (2, .inl cc), (1, .inl b), (0, .inr (.inr (.inl (some 107))))], [.inl (-50), .inl ((I 108 (1 + m))), .inl (7 + (m : Int)), .inr (.inr (.inl (some 108)))], (am_mm D I J ρ))) rfl ?_
    refine am_e_icmp2 rfl ⟨by omega, by omega⟩ ⟨by omega, by omega⟩ (fun (h2 : (-50) ≤ (I 108 (1 + m))) => ?_) (fun (h2 : ¬ ((-50) ≤ (I 108 (1 + m)))) => ?_)
    · show am_E _ _ _ 128 [(3, .inl (m : Int)), (2, .inl cc), (1, .inl b), (0, .inr (.inr (.inl (some 107))))] [.inl (7 + (m : Int)), .inr (.inr (.inl (some 108)))] (am_mm D I J ρ) _
      refine am_e_ss 5 (q := (136, [(3, .inl (m : Int)), (2, .inl cc), (1, .inl b), (0, .inr (.inr (.inl (some 107))))], [.inl (7 + (m : Int)), .inr (.inr (.inl (some 108))), .inl (7 + (m : Int)), .inr (.inr (.inl (some 108)))], (am_mm D I J ρ))) rfl ?_
      refine am_e_iaload (m := 878) rfl rfl (by omega) (by omega) (by omega) ?_
      show am_E _ _ _ 137 [(3, .inl (m : Int)), (2, .inl cc), (1, .inl b), (0, .inr (.inr (.inl (some 107))))] [.inl ((I 108 (7 + m))), .inl (7 + (m : Int)), .inr (.inr (.inl (some 108)))] (am_mm D I J ρ) _
      refine am_e_iastore (m := 878) rfl rfl (by omega) (by omega) (by omega) ?_
      show am_E _ _ _ 138 [(3, .inl (m : Int)), (2, .inl cc), (1, .inl b), (0, .inr (.inr (.inl (some 107))))] [] (am_mm D (am_up I 108 (7 + m) (I 108 (7 + m))) J ρ) _
      refine am_e_ss 2 (q := (92, [(3, .inl ((m : Int) + 1)), (2, .inl cc), (1, .inl b), (0, .inr (.inr (.inl (some 107))))], [], (am_mm D (am_up I 108 (7 + m) (I 108 (7 + m))) J ρ))) rfl ?_
      have e9 : (am_up I 108 (7 + m) (I 108 (7 + m))) 108 = sp_g2 S b (S 19).toNat (m + 1) := by
        funext i
        by_cases e : i = 7 + m
        · subst e
          refine am_up_at2.trans ?_
          rw [sp_g2_hr hb.1 (by omega) (by omega)]
          have hx := congrFun hS (7 + m)
          rw [sp_g2_hr hb.1 (by omega) (by omega), if_neg (by omega)] at hx
          split <;> omega
        · refine (am_up_ne2 (by omega)).trans ((congrFun hS i).trans ?_)
          unfold sp_g2
          by_cases h1 : i = (13 + b).toNat
          · rw [if_pos h1, if_pos h1]
          · rw [if_neg h1, if_neg h1]
            by_cases h2 : 1 ≤ i ∧ i < 1 + (S 19).toNat
            · rw [if_pos h2, if_pos h2]
            · rw [if_neg h2, if_neg h2]
              by_cases h3 : 7 ≤ i ∧ i < 7 + m ∧ sp_ng S b (i - 7) < -50
              · rw [if_pos h3, if_pos ⟨h3.1, by omega, h3.2.2⟩]
              · rw [if_neg h3, if_neg (by omega)]
      refine (am_less (lv := [(3, .inl ((m + 1) : Int)), (2, .inl cc), (1, .inl b), (0, .inr (.inr (.inl (some 107))))]) rfl (List.forall_mem_cons.mpr ⟨rfl, List.forall_mem_cons.mpr ⟨rfl, List.forall_mem_cons.mpr ⟨rfl, List.forall_mem_cons.mpr ⟨rfl, List.forall_mem_nil _⟩⟩⟩⟩) (r_goes_2 d (A := A) (B := B) (m := m + 1) hb hA hB hwS (by omega) e9 hcc)).imp ?_
      rintro r ⟨Q9, rfl, h9⟩
      exact ⟨_, am_r_wp tG (am_k_wp am_k_sub (am_k_up rfl (am_k_id))), h9⟩
    · show am_E _ _ _ 124 [(3, .inl (m : Int)), (2, .inl cc), (1, .inl b), (0, .inr (.inr (.inl (some 107))))] [.inl (7 + (m : Int)), .inr (.inr (.inl (some 108)))] (am_mm D I J ρ) _
      refine am_e_ss 2 (q := (137, [(3, .inl (m : Int)), (2, .inl cc), (1, .inl b), (0, .inr (.inr (.inl (some 107))))], [.inl 1, .inl (7 + (m : Int)), .inr (.inr (.inl (some 108)))], (am_mm D I J ρ))) rfl ?_
      refine am_e_iastore (m := 878) rfl rfl (by omega) (by omega) (by omega) ?_
      show am_E _ _ _ 138 [(3, .inl (m : Int)), (2, .inl cc), (1, .inl b), (0, .inr (.inr (.inl (some 107))))] [] (am_mm D (am_up I 108 (7 + m) 1) J ρ) _
      refine am_e_ss 2 (q := (92, [(3, .inl ((m : Int) + 1)), (2, .inl cc), (1, .inl b), (0, .inr (.inr (.inl (some 107))))], [], (am_mm D (am_up I 108 (7 + m) 1) J ρ))) rfl ?_
      have e9 : (am_up I 108 (7 + m) 1) 108 = sp_g2 S b (S 19).toNat (m + 1) := by
        funext i
        by_cases e : i = 7 + m
        · subst e
          refine am_up_at2.trans ?_
          rw [sp_g2_hr hb.1 (by omega) (by omega)]
          have hx := congrFun hS (7 + m)
          rw [sp_g2_hr hb.1 (by omega) (by omega), if_neg (by omega)] at hx
          split <;> omega
        · refine (am_up_ne2 (by omega)).trans ((congrFun hS i).trans ?_)
          unfold sp_g2
          by_cases h1 : i = (13 + b).toNat
          · rw [if_pos h1, if_pos h1]
          · rw [if_neg h1, if_neg h1]
            by_cases h2 : 1 ≤ i ∧ i < 1 + (S 19).toNat
            · rw [if_pos h2, if_pos h2]
            · rw [if_neg h2, if_neg h2]
              by_cases h3 : 7 ≤ i ∧ i < 7 + m ∧ sp_ng S b (i - 7) < -50
              · rw [if_pos h3, if_pos ⟨h3.1, by omega, h3.2.2⟩]
              · rw [if_neg h3, if_neg (by omega)]
      refine (am_less (lv := [(3, .inl ((m + 1) : Int)), (2, .inl cc), (1, .inl b), (0, .inr (.inr (.inl (some 107))))]) rfl (List.forall_mem_cons.mpr ⟨rfl, List.forall_mem_cons.mpr ⟨rfl, List.forall_mem_cons.mpr ⟨rfl, List.forall_mem_cons.mpr ⟨rfl, List.forall_mem_nil _⟩⟩⟩⟩) (r_goes_2 d (A := A) (B := B) (m := m + 1) hb hA hB hwS (by omega) e9 hcc)).imp ?_
      rintro r ⟨Q9, rfl, h9⟩
      exact ⟨_, am_r_wp tG (am_k_wp am_k_sub (am_k_up rfl (am_k_id))), h9⟩
termination_by 7 - m
decreasing_by all_goals omega
theorem r_goes_1 {X : Nat × (Nat → Int)} {D : List (Nat × Nat)} {I J : Nat → Nat → Int} {ρ : Nat → Nat → Option Nat} (d : Nat) {S : Nat → Int} {A B b : Int} (hb : 0 ≤ b ∧ b < 6) (hA : r_ok S A) (hB : A + 80050 ≤ B ∧ B ≤ 2000000000) (hwS : sp_wfS S) {cc : Int} {m : Nat} (hm : (m : Int) ≤ S 19) (hS : I 108 = sp_g2 S b m 0) (hcc : cc = sp_cmc S b m) : am_E X (d + 4) 190 14 [(3, .inl (m : Int)), (2, .inl cc), (1, .inl b), (0, .inr (.inr (.inl (some 107))))] [] (am_mm D I J ρ) (fun r => ∃ Q, r = (some (.inl (sp_cmc S b (S 19).toNat)), am_mm D (am_wp tG I Q) J ρ) ∧ Q 108 = sp_go S b) := by
  have s19 := (r_ok_19 hA).1
  have hg2 := sp_g2_ok (n := m) (m := 0) hA hwS hb (by omega) (by omega)
  have hok : r_ok (I 108) B := by rw [hS]; exact r_ok_mono hg2 hB.1
  have hal : sp_al S (I 108) := by rw [hS]; exact sp_g2_al hb (by omega) (by omega)
  have h24 := r_ok_24 hA
  have hwf : sp_wfS (I 108) := sp_wfS_cg hal h24 hwS
  have e19 : S 19 = I 108 19 := hal 19 (by omega)
  have e0 : I 108 0 = S 0 := by rw [hS]; exact sp_g2_0 hb.1
  have hok2 := hok
  obtain ⟨o0, oG, oH, oD, o19, o20, o21, o22, o23, o24, oK, oV, oP, oM, oS, oY, oHd, oT, oC, oN⟩ := hok
  have hok := hok2
  have e7 : m < 6 → I 108 (7 + m) = S (7 + m) := by
    intro hm6
    rw [hS, sp_g2_hr hb.1 (by omega) hm6, if_neg (by omega)]
  have e1 : m < 6 → I 108 (1 + m) = S (1 + m) := by
    intro hm6
    rw [hS, sp_g2_gl hb.1 hm6, if_neg (by omega)]
  have hlk : sp_like S (m : Int) b = sp_like (I 108) (m : Int) b := sp_like_cg hal h24 (by omega) hb.1
  have hcm : sp_cmi S (m : Int) b = sp_cmi (I 108) (m : Int) b := sp_cmi_cg hal h24 e0.symm (by omega) hb.1
  have hcb := sp_cmc_b (S := S) (b := b) m
  refine am_e_ss 5 (q := (22, [(3, .inl (m : Int)), (2, .inl cc), (1, .inl b), (0, .inr (.inr (.inl (some 107))))], [.inl ((I 108 19)), .inl (m : Int)], (am_mm D I J ρ))) rfl ?_
  refine am_e_icmp2 rfl ⟨by omega, by omega⟩ ⟨by omega, by omega⟩ (fun (h1 : (I 108 19) ≤ (m : Int)) => ?_) (fun (h1 : ¬ ((I 108 19) ≤ (m : Int))) => ?_)
  · show am_E _ _ _ 90 [(3, .inl (m : Int)), (2, .inl cc), (1, .inl b), (0, .inr (.inr (.inl (some 107))))] [] (am_mm D I J ρ) _
    refine am_e_ss 2 (q := (92, [(3, .inl 0), (2, .inl cc), (1, .inl b), (0, .inr (.inr (.inl (some 107))))], [], (am_mm D I J ρ))) rfl ?_
    have em : m = (S 19).toNat := by omega
    subst em
    refine (am_less (lv := [(3, .inl (0 : Int)), (2, .inl cc), (1, .inl b), (0, .inr (.inr (.inl (some 107))))]) rfl (List.forall_mem_cons.mpr ⟨rfl, List.forall_mem_cons.mpr ⟨rfl, List.forall_mem_cons.mpr ⟨rfl, List.forall_mem_cons.mpr ⟨rfl, List.forall_mem_nil _⟩⟩⟩⟩) (r_goes_2 (d + 1) (A := A) (B := B) (m := 0) hb hA hB hwS (by omega) hS hcc)).imp ?_
    rintro r ⟨Q9, rfl, h9⟩
    exact ⟨_, am_r_wp tG (am_k_wp am_k_sub (am_k_id)), h9⟩
  · show am_E _ _ _ 25 [(3, .inl (m : Int)), (2, .inl cc), (1, .inl b), (0, .inr (.inr (.inl (some 107))))] [] (am_mm D I J ρ) _
    have e7 := e7 (by omega)
    have e1 := e1 (by omega)
    refine am_e_ss 2 (q := (27, [(3, .inl (m : Int)), (2, .inl cc), (1, .inl b), (0, .inr (.inr (.inl (some 107))))], [.inl (m : Int), .inr (.inr (.inl (some 107)))], (am_mm D I J ρ))) rfl ?_
    refine am_e_virtual (Q := fun r => r = (some (.inl ((am_bi ((I 108 (7 + m)) = 0)))), (am_mm D I J ρ))) rfl rfl (Nat.le_of_ble_eq_true rfl) rfl rfl (Nat.le_of_ble_eq_true rfl) (Nat.le_of_ble_eq_true rfl) (r_isHere _ (v := (m : Int)) ⟨by omega, by omega⟩ (by exact oH m (by omega))) ?_
    rintro r rfl
    show am_E _ _ _ 30 [(3, .inl (m : Int)), (2, .inl cc), (1, .inl b), (0, .inr (.inr (.inl (some 107))))] [.inl ((am_bi ((I 108 (7 + m)) = 0)))] (am_mm D I J ρ) _
    refine am_e_ifeq rfl (fun h2 => ?_) (fun h2 => ?_)
    · show am_E _ _ _ 84 [(3, .inl (m : Int)), (2, .inl cc), (1, .inl b), (0, .inr (.inr (.inl (some 107))))] [] (am_mm D I J ρ) _
      refine am_e_ss 2 (q := (14, [(3, .inl ((m : Int) + 1)), (2, .inl cc), (1, .inl b), (0, .inr (.inr (.inl (some 107))))], [], (am_mm D I J ρ))) rfl ?_
      have ecc : cc = sp_cmc S b (m + 1) := by
        unfold sp_cmc
        split <;> omega
      have e9 : I 108 = sp_g2 S b (m + 1) 0 := by
        funext i
        by_cases e : i = 1 + m
        · subst e
          rw [hS, sp_g2_gl hb.1 (by omega), sp_g2_gl hb.1 (by omega), if_neg (by omega), if_pos (by omega)]
          unfold sp_ng
          rw [if_neg (by omega)]
        · refine (congrFun hS i).trans ?_
          unfold sp_g2
          by_cases h1 : i = (13 + b).toNat
          · rw [if_pos h1, if_pos h1]
          · rw [if_neg h1, if_neg h1]
            by_cases h2 : 1 ≤ i ∧ i < 1 + m
            · rw [if_pos h2, if_pos (by omega)]
            · rw [if_neg h2, if_neg (by omega), if_neg (by omega)]
      refine (am_less (lv := [(3, .inl ((m + 1) : Int)), (2, .inl cc), (1, .inl b), (0, .inr (.inr (.inl (some 107))))]) rfl (List.forall_mem_cons.mpr ⟨rfl, List.forall_mem_cons.mpr ⟨rfl, List.forall_mem_cons.mpr ⟨rfl, List.forall_mem_cons.mpr ⟨rfl, List.forall_mem_nil _⟩⟩⟩⟩) (r_goes_1 d (A := A) (B := B) (m := m + 1) hb hA hB hwS (by omega) e9 ecc)).imp ?_
      rintro r ⟨Q9, rfl, h9⟩
      exact ⟨_, am_r_wp tG (am_k_wp am_k_sub (am_k_id)), h9⟩
    · show am_E _ _ _ 33 [(3, .inl (m : Int)), (2, .inl cc), (1, .inl b), (0, .inr (.inr (.inl (some 107))))] [] (am_mm D I J ρ) _
      refine am_e_ss 3 (q := (36, [(3, .inl (m : Int)), (2, .inl cc), (1, .inl b), (0, .inr (.inr (.inl (some 107))))], [.inl b, .inl (m : Int), .inr (.inr (.inl (some 107)))], (am_mm D I J ρ))) rfl ?_
      refine am_e_virtual (Q := fun r => ∃ Q63, r = (some (.inl ((sp_cmi (I 108) (m : Int) b))), (am_mm D (am_wp tL I Q63) J ρ)) ∧ True) rfl rfl (Nat.le_of_ble_eq_true rfl) rfl rfl (Nat.le_of_ble_eq_true rfl) (Nat.le_of_ble_eq_true rfl) ((r_doesCome _ (B := B) ⟨by omega, by omega⟩ ⟨by omega, by omega⟩ hok hwf).imp (fun r h => by obtain ⟨Q, e⟩ := h; exact ⟨Q, e, True.intro⟩)) ?_
      rintro r ⟨Q63, rfl, -⟩
      have cbQ63 := sp_cmi_01 (I 108) (m : Int) b
      show am_E _ _ _ 39 [(3, .inl (m : Int)), (2, .inl cc), (1, .inl b), (0, .inr (.inr (.inl (some 107))))] [.inl ((sp_cmi (I 108) (m : Int) b))] (am_mm D (am_wp tL I Q63) J ρ) _
      refine am_e_ss 7 (q := (49, [(4, .inl ((sp_cmi (I 108) (m : Int) b))), (3, .inl (m : Int)), (2, .inl cc), (1, .inl b), (0, .inr (.inr (.inl (some 107))))], [.inl (1 + (m : Int)), .inr (.inr (.inl (some 108))), .inl (1 + (m : Int)), .inr (.inr (.inl (some 108)))], (am_mm D (am_wp tL I Q63) J ρ))) rfl ?_
      refine am_e_iaload (m := 878) rfl rfl (by omega) (by omega) (by omega) ?_
      show am_E _ _ _ 50 [(4, .inl ((sp_cmi (I 108) (m : Int) b))), (3, .inl (m : Int)), (2, .inl cc), (1, .inl b), (0, .inr (.inr (.inl (some 107))))] [.inl ((I 108 (1 + m))), .inl (1 + (m : Int)), .inr (.inr (.inl (some 108)))] (am_mm D (am_wp tL I Q63) J ρ) _
      refine am_e_ss 1 (q := (52, [(4, .inl ((sp_cmi (I 108) (m : Int) b))), (3, .inl (m : Int)), (2, .inl cc), (1, .inl b), (0, .inr (.inr (.inl (some 107))))], [.inl ((sp_cmi (I 108) (m : Int) b)), .inl ((I 108 (1 + m))), .inl (1 + (m : Int)), .inr (.inr (.inl (some 108)))], (am_mm D (am_wp tL I Q63) J ρ))) rfl ?_
      refine am_e_if2 rfl ⟨by omega, by omega⟩ (fun (h3 : (sp_cmi (I 108) (m : Int) b) = 0) => ?_) (fun (h3 : ¬ ((sp_cmi (I 108) (m : Int) b) = 0)) => ?_)
      · show am_E _ _ _ 67 [(4, .inl ((sp_cmi (I 108) (m : Int) b))), (3, .inl (m : Int)), (2, .inl cc), (1, .inl b), (0, .inr (.inr (.inl (some 107))))] [.inl ((I 108 (1 + m))), .inl (1 + (m : Int)), .inr (.inr (.inl (some 108)))] (am_mm D (am_wp tL I Q63) J ρ) _
        refine am_e_ss 2 (q := (70, [(4, .inl ((sp_cmi (I 108) (m : Int) b))), (3, .inl (m : Int)), (2, .inl cc), (1, .inl b), (0, .inr (.inr (.inl (some 107))))], [.inl ((I 108 (1 + m)) + (-10)), .inl (1 + (m : Int)), .inr (.inr (.inl (some 108)))], (am_mm D (am_wp tL I Q63) J ρ))) rfl ?_
        refine am_e_iastore (m := 878) rfl rfl (by omega) (by omega) (by omega) ?_
        show am_E _ _ _ 71 [(4, .inl ((sp_cmi (I 108) (m : Int) b))), (3, .inl (m : Int)), (2, .inl cc), (1, .inl b), (0, .inr (.inr (.inl (some 107))))] [] (am_mm D (am_up (am_wp tL I Q63) 108 (1 + m) ((I 108 (1 + m)) + (-10))) J ρ) _
        refine am_e_ss 2 (q := (74, [(4, .inl ((sp_cmi (I 108) (m : Int) b))), (3, .inl (m : Int)), (2, .inl cc), (1, .inl b), (0, .inr (.inr (.inl (some 107))))], [.inl ((sp_cmi (I 108) (m : Int) b)), .inl cc], (am_mm D (am_up (am_wp tL I Q63) 108 (1 + m) ((I 108 (1 + m)) + (-10))) J ρ))) rfl ?_
        refine am_e_if2 rfl ⟨by omega, by omega⟩ (fun (h4 : (sp_cmi (I 108) (m : Int) b) = 0) => ?_) (fun (h4 : ¬ ((sp_cmi (I 108) (m : Int) b) = 0)) => ?_)
        · show am_E _ _ _ 81 [(4, .inl ((sp_cmi (I 108) (m : Int) b))), (3, .inl (m : Int)), (2, .inl cc), (1, .inl b), (0, .inr (.inr (.inl (some 107))))] [.inl cc] (am_mm D (am_up (am_wp tL I Q63) 108 (1 + m) ((I 108 (1 + m)) + (-10))) J ρ) _
          refine am_e_ss 5 (q := (14, [(3, .inl ((m : Int) + 1)), (2, .inl (cc + 0)), (4, .inl ((sp_cmi (I 108) (m : Int) b))), (1, .inl b), (0, .inr (.inr (.inl (some 107))))], [], (am_mm D (am_up (am_wp tL I Q63) 108 (1 + m) ((I 108 (1 + m)) + (-10))) J ρ))) rfl ?_
          have ecc : (cc + 0) = sp_cmc S b (m + 1) := by
            unfold sp_cmc
            split <;> omega
          have e9 : (am_up (am_wp tL I Q63) 108 (1 + m) ((I 108 (1 + m)) + (-10))) 108 = sp_g2 S b (m + 1) 0 := by
            funext i
            by_cases e : i = 1 + m
            · subst e
              refine am_up_at2.trans ?_
              rw [sp_g2_gl hb.1 (by omega), if_pos (by omega)]
              unfold sp_ng sp_dl
              (repeat' split) <;> omega
            · refine (am_up_ne2 (by omega)).trans ((congrFun hS i).trans ?_)
              unfold sp_g2
              by_cases h1 : i = (13 + b).toNat
              · rw [if_pos h1, if_pos h1]
              · rw [if_neg h1, if_neg h1]
                by_cases h2 : 1 ≤ i ∧ i < 1 + m
                · rw [if_pos h2, if_pos (by omega)]
                · rw [if_neg h2, if_neg (by omega), if_neg (by omega)]
          refine (am_less (lv := [(3, .inl ((m + 1) : Int)), (2, .inl ((cc + 0))), (1, .inl b), (0, .inr (.inr (.inl (some 107))))]) rfl (List.forall_mem_cons.mpr ⟨rfl, List.forall_mem_cons.mpr ⟨rfl, List.forall_mem_cons.mpr ⟨rfl, List.forall_mem_cons.mpr ⟨rfl, List.forall_mem_nil _⟩⟩⟩⟩) (r_goes_1 d (A := A) (B := B) (m := m + 1) hb hA hB hwS (by omega) e9 ecc)).imp ?_
          rintro r ⟨Q9, rfl, h9⟩
          exact ⟨_, am_r_wp tG (am_k_wp am_k_sub (am_k_up rfl (am_k_wp (tL_tG) (am_k_id)))), h9⟩
        · show am_E _ _ _ 77 [(4, .inl ((sp_cmi (I 108) (m : Int) b))), (3, .inl (m : Int)), (2, .inl cc), (1, .inl b), (0, .inr (.inr (.inl (some 107))))] [.inl cc] (am_mm D (am_up (am_wp tL I Q63) 108 (1 + m) ((I 108 (1 + m)) + (-10))) J ρ) _
          refine am_e_ss 6 (q := (14, [(3, .inl ((m : Int) + 1)), (2, .inl (cc + 1)), (4, .inl ((sp_cmi (I 108) (m : Int) b))), (1, .inl b), (0, .inr (.inr (.inl (some 107))))], [], (am_mm D (am_up (am_wp tL I Q63) 108 (1 + m) ((I 108 (1 + m)) + (-10))) J ρ))) rfl ?_
          have ecc : (cc + 1) = sp_cmc S b (m + 1) := by
            unfold sp_cmc
            split <;> omega
          have e9 : (am_up (am_wp tL I Q63) 108 (1 + m) ((I 108 (1 + m)) + (-10))) 108 = sp_g2 S b (m + 1) 0 := by
            funext i
            by_cases e : i = 1 + m
            · subst e
              refine am_up_at2.trans ?_
              rw [sp_g2_gl hb.1 (by omega), if_pos (by omega)]
              unfold sp_ng sp_dl
              (repeat' split) <;> omega
            · refine (am_up_ne2 (by omega)).trans ((congrFun hS i).trans ?_)
              unfold sp_g2
              by_cases h1 : i = (13 + b).toNat
              · rw [if_pos h1, if_pos h1]
              · rw [if_neg h1, if_neg h1]
                by_cases h2 : 1 ≤ i ∧ i < 1 + m
                · rw [if_pos h2, if_pos (by omega)]
                · rw [if_neg h2, if_neg (by omega), if_neg (by omega)]
          refine (am_less (lv := [(3, .inl ((m + 1) : Int)), (2, .inl ((cc + 1))), (1, .inl b), (0, .inr (.inr (.inl (some 107))))]) rfl (List.forall_mem_cons.mpr ⟨rfl, List.forall_mem_cons.mpr ⟨rfl, List.forall_mem_cons.mpr ⟨rfl, List.forall_mem_cons.mpr ⟨rfl, List.forall_mem_nil _⟩⟩⟩⟩) (r_goes_1 d (A := A) (B := B) (m := m + 1) hb hA hB hwS (by omega) e9 ecc)).imp ?_
          rintro r ⟨Q9, rfl, h9⟩
          exact ⟨_, am_r_wp tG (am_k_wp am_k_sub (am_k_up rfl (am_k_wp (tL_tG) (am_k_id)))), h9⟩
      · show am_E _ _ _ 55 [(4, .inl ((sp_cmi (I 108) (m : Int) b))), (3, .inl (m : Int)), (2, .inl cc), (1, .inl b), (0, .inr (.inr (.inl (some 107))))] [.inl ((I 108 (1 + m))), .inl (1 + (m : Int)), .inr (.inr (.inl (some 108)))] (am_mm D (am_wp tL I Q63) J ρ) _
        refine am_e_ss 3 (q := (58, [(4, .inl ((sp_cmi (I 108) (m : Int) b))), (3, .inl (m : Int)), (2, .inl cc), (1, .inl b), (0, .inr (.inr (.inl (some 107))))], [.inl b, .inl (m : Int), .inr (.inr (.inl (some 107))), .inl ((I 108 (1 + m))), .inl (1 + (m : Int)), .inr (.inr (.inl (some 108)))], (am_mm D (am_wp tL I Q63) J ρ))) rfl ?_
        refine am_e_virtual (Q := fun r => ∃ Q64, r = (some (.inl ((sp_like (I 108) (m : Int) b))), (am_mm D (am_wp tL (am_wp tL I Q63) Q64) J ρ)) ∧ Q64 107 13 = sp_rd' (I 108) (m : Int) b) rfl rfl (Nat.le_of_ble_eq_true rfl) rfl rfl (Nat.le_of_ble_eq_true rfl) (Nat.le_of_ble_eq_true rfl) (r_likeOf _ (B := B) ⟨by omega, by omega⟩ ⟨by omega, by omega⟩ hok hwf) ?_
        rintro r ⟨Q64, rfl, e13Q64⟩
        have lbQ64 := sp_like_b hok hwf (m := (m : Int)) (b := b) ⟨by omega, by omega⟩ ⟨by omega, by omega⟩
        show am_E _ _ _ 61 [(4, .inl ((sp_cmi (I 108) (m : Int) b))), (3, .inl (m : Int)), (2, .inl cc), (1, .inl b), (0, .inr (.inr (.inl (some 107))))] [.inl ((sp_like (I 108) (m : Int) b)), .inl ((I 108 (1 + m))), .inl (1 + (m : Int)), .inr (.inr (.inl (some 108)))] (am_mm D (am_wp tL (am_wp tL I Q63) Q64) J ρ) _
        refine am_e_ss 4 (q := (70, [(4, .inl ((sp_cmi (I 108) (m : Int) b))), (3, .inl (m : Int)), (2, .inl cc), (1, .inl b), (0, .inr (.inr (.inl (some 107))))], [.inl ((I 108 (1 + m)) + ((sp_like (I 108) (m : Int) b) - 50)), .inl (1 + (m : Int)), .inr (.inr (.inl (some 108)))], (am_mm D (am_wp tL (am_wp tL I Q63) Q64) J ρ))) rfl ?_
        refine am_e_iastore (m := 878) rfl rfl (by omega) (by omega) (by omega) ?_
        show am_E _ _ _ 71 [(4, .inl ((sp_cmi (I 108) (m : Int) b))), (3, .inl (m : Int)), (2, .inl cc), (1, .inl b), (0, .inr (.inr (.inl (some 107))))] [] (am_mm D (am_up (am_wp tL (am_wp tL I Q63) Q64) 108 (1 + m) ((I 108 (1 + m)) + ((sp_like (I 108) (m : Int) b) - 50))) J ρ) _
        refine am_e_ss 2 (q := (74, [(4, .inl ((sp_cmi (I 108) (m : Int) b))), (3, .inl (m : Int)), (2, .inl cc), (1, .inl b), (0, .inr (.inr (.inl (some 107))))], [.inl ((sp_cmi (I 108) (m : Int) b)), .inl cc], (am_mm D (am_up (am_wp tL (am_wp tL I Q63) Q64) 108 (1 + m) ((I 108 (1 + m)) + ((sp_like (I 108) (m : Int) b) - 50))) J ρ))) rfl ?_
        refine am_e_if2 rfl ⟨by omega, by omega⟩ (fun (h5 : (sp_cmi (I 108) (m : Int) b) = 0) => ?_) (fun (h5 : ¬ ((sp_cmi (I 108) (m : Int) b) = 0)) => ?_)
        · show am_E _ _ _ 81 [(4, .inl ((sp_cmi (I 108) (m : Int) b))), (3, .inl (m : Int)), (2, .inl cc), (1, .inl b), (0, .inr (.inr (.inl (some 107))))] [.inl cc] (am_mm D (am_up (am_wp tL (am_wp tL I Q63) Q64) 108 (1 + m) ((I 108 (1 + m)) + ((sp_like (I 108) (m : Int) b) - 50))) J ρ) _
          refine am_e_ss 5 (q := (14, [(3, .inl ((m : Int) + 1)), (2, .inl (cc + 0)), (4, .inl ((sp_cmi (I 108) (m : Int) b))), (1, .inl b), (0, .inr (.inr (.inl (some 107))))], [], (am_mm D (am_up (am_wp tL (am_wp tL I Q63) Q64) 108 (1 + m) ((I 108 (1 + m)) + ((sp_like (I 108) (m : Int) b) - 50))) J ρ))) rfl ?_
          have ecc : (cc + 0) = sp_cmc S b (m + 1) := by
            unfold sp_cmc
            split <;> omega
          have e9 : (am_up (am_wp tL (am_wp tL I Q63) Q64) 108 (1 + m) ((I 108 (1 + m)) + ((sp_like (I 108) (m : Int) b) - 50))) 108 = sp_g2 S b (m + 1) 0 := by
            funext i
            by_cases e : i = 1 + m
            · subst e
              refine am_up_at2.trans ?_
              rw [sp_g2_gl hb.1 (by omega), if_pos (by omega)]
              unfold sp_ng sp_dl
              (repeat' split) <;> omega
            · refine (am_up_ne2 (by omega)).trans ((congrFun hS i).trans ?_)
              unfold sp_g2
              by_cases h1 : i = (13 + b).toNat
              · rw [if_pos h1, if_pos h1]
              · rw [if_neg h1, if_neg h1]
                by_cases h2 : 1 ≤ i ∧ i < 1 + m
                · rw [if_pos h2, if_pos (by omega)]
                · rw [if_neg h2, if_neg (by omega), if_neg (by omega)]
          refine (am_less (lv := [(3, .inl ((m + 1) : Int)), (2, .inl ((cc + 0))), (1, .inl b), (0, .inr (.inr (.inl (some 107))))]) rfl (List.forall_mem_cons.mpr ⟨rfl, List.forall_mem_cons.mpr ⟨rfl, List.forall_mem_cons.mpr ⟨rfl, List.forall_mem_cons.mpr ⟨rfl, List.forall_mem_nil _⟩⟩⟩⟩) (r_goes_1 d (A := A) (B := B) (m := m + 1) hb hA hB hwS (by omega) e9 ecc)).imp ?_
          rintro r ⟨Q9, rfl, h9⟩
          exact ⟨_, am_r_wp tG (am_k_wp am_k_sub (am_k_up rfl (am_k_wp (tL_tG) (am_k_wp (tL_tG) (am_k_id))))), h9⟩
        · show am_E _ _ _ 77 [(4, .inl ((sp_cmi (I 108) (m : Int) b))), (3, .inl (m : Int)), (2, .inl cc), (1, .inl b), (0, .inr (.inr (.inl (some 107))))] [.inl cc] (am_mm D (am_up (am_wp tL (am_wp tL I Q63) Q64) 108 (1 + m) ((I 108 (1 + m)) + ((sp_like (I 108) (m : Int) b) - 50))) J ρ) _
          refine am_e_ss 6 (q := (14, [(3, .inl ((m : Int) + 1)), (2, .inl (cc + 1)), (4, .inl ((sp_cmi (I 108) (m : Int) b))), (1, .inl b), (0, .inr (.inr (.inl (some 107))))], [], (am_mm D (am_up (am_wp tL (am_wp tL I Q63) Q64) 108 (1 + m) ((I 108 (1 + m)) + ((sp_like (I 108) (m : Int) b) - 50))) J ρ))) rfl ?_
          have ecc : (cc + 1) = sp_cmc S b (m + 1) := by
            unfold sp_cmc
            split <;> omega
          have e9 : (am_up (am_wp tL (am_wp tL I Q63) Q64) 108 (1 + m) ((I 108 (1 + m)) + ((sp_like (I 108) (m : Int) b) - 50))) 108 = sp_g2 S b (m + 1) 0 := by
            funext i
            by_cases e : i = 1 + m
            · subst e
              refine am_up_at2.trans ?_
              rw [sp_g2_gl hb.1 (by omega), if_pos (by omega)]
              unfold sp_ng sp_dl
              (repeat' split) <;> omega
            · refine (am_up_ne2 (by omega)).trans ((congrFun hS i).trans ?_)
              unfold sp_g2
              by_cases h1 : i = (13 + b).toNat
              · rw [if_pos h1, if_pos h1]
              · rw [if_neg h1, if_neg h1]
                by_cases h2 : 1 ≤ i ∧ i < 1 + m
                · rw [if_pos h2, if_pos (by omega)]
                · rw [if_neg h2, if_neg (by omega), if_neg (by omega)]
          refine (am_less (lv := [(3, .inl ((m + 1) : Int)), (2, .inl ((cc + 1))), (1, .inl b), (0, .inr (.inr (.inl (some 107))))]) rfl (List.forall_mem_cons.mpr ⟨rfl, List.forall_mem_cons.mpr ⟨rfl, List.forall_mem_cons.mpr ⟨rfl, List.forall_mem_cons.mpr ⟨rfl, List.forall_mem_nil _⟩⟩⟩⟩) (r_goes_1 d (A := A) (B := B) (m := m + 1) hb hA hB hwS (by omega) e9 ecc)).imp ?_
          rintro r ⟨Q9, rfl, h9⟩
          exact ⟨_, am_r_wp tG (am_k_wp am_k_sub (am_k_up rfl (am_k_wp (tL_tG) (am_k_wp (tL_tG) (am_k_id))))), h9⟩
termination_by 7 - m
decreasing_by all_goals omega
theorem r_goes {X : Nat × (Nat → Int)} {D : List (Nat × Nat)} {I J : Nat → Nat → Int} {ρ : Nat → Nat → Option Nat} (d : Nat) {B b : Int} (hb : 0 ≤ b ∧ b < 6) (hB : B ≤ 1900000000) (hok : r_ok (I 108) B) (hwf : sp_wfS (I 108)) : am_E X (d + 4) 190 0 [(0, .inr (.inr (.inl (some 107)))), (1, .inl b)] [] (am_mm D I J ρ) (fun r => ∃ Q, r = (some (.inl (sp_cmc (I 108) b (I 108 19).toNat)), am_mm D (am_wp tG I Q) J ρ) ∧ Q 108 = sp_go (I 108) b) := by
  have hok2 := hok
  obtain ⟨o0, oG, oH, oD, o19, o20, o21, o22, o23, o24, oK, oV, oP, oM, oS, oY, oHd, oT, oC, oN⟩ := hok
  have hok := hok2
  refine am_e_ss 6 (q := (9, [(0, .inr (.inr (.inl (some 107)))), (1, .inl b)], [.inl 1, .inl (13 + b), .inr (.inr (.inl (some 108)))], (am_mm D I J ρ))) rfl ?_
  refine am_e_iastore (m := 878) rfl rfl (by omega) (by omega) (by omega) ?_
  show am_E _ _ _ 10 [(0, .inr (.inr (.inl (some 107)))), (1, .inl b)] [] (am_mm D (am_up I 108 ((13 + b)).toNat 1) J ρ) _
  refine am_e_ss 4 (q := (14, [(3, .inl 0), (2, .inl 0), (0, .inr (.inr (.inl (some 107)))), (1, .inl b)], [], (am_mm D (am_up I 108 ((13 + b)).toNat 1) J ρ))) rfl ?_
  have e9 : (am_up I 108 ((13 + b)).toNat 1) 108 = sp_g2 (I 108) b 0 0 := by
    funext i
    unfold sp_g2
    by_cases e : i = (13 + b).toNat
    · rw [if_pos e, e]; exact am_up_at2
    · rw [if_neg e, if_neg (by omega), if_neg (by omega)]; exact am_up_ne2 (by omega)
  refine (am_less (lv := [(3, .inl (0 : Int)), (2, .inl 0), (1, .inl b), (0, .inr (.inr (.inl (some 107))))]) rfl (List.forall_mem_cons.mpr ⟨rfl, List.forall_mem_cons.mpr ⟨rfl, List.forall_mem_cons.mpr ⟨rfl, List.forall_mem_cons.mpr ⟨rfl, List.forall_mem_nil _⟩⟩⟩⟩) (r_goes_1 d (S := I 108) (A := B) (B := B + 80050) (m := 0) hb hok ⟨by omega, by omega⟩ hwf (by omega) e9 rfl)).imp ?_
  rintro r ⟨Q9, rfl, h9⟩
  exact ⟨_, am_r_wp tG (am_k_wp am_k_sub (am_k_up rfl (am_k_id))), h9⟩
def sp_month (S : Nat → Int) (b : Int) : Int × (Nat → Int) := if ¬ (0 ≤ b ∧ b ≤ S 20 - 1) then (-1, S) else if ¬ S (13 + b).toNat = 0 ∨ S 0 = 99 then (-3, S) else (sp_cmc S b (S 19).toNat, sp_go S b)
theorem r_month {X : Nat × (Nat → Int)} {D : List (Nat × Nat)} {I J : Nat → Nat → Int} {ρ : Nat → Nat → Option Nat} (d : Nat) {B b : Int} (hb : -2147483648 ≤ b ∧ b < 2147483648) (hB : B ≤ 1900000000) (hok : r_ok (I 108) B) (hwf : sp_wfS (I 108)) : am_E X (d + 5) 191 0 [(0, .inr (.inr (.inl (some 107)))), (1, .inl b)] [] (am_mm D I J ρ) (fun r => ∃ Q, r = (some (.inl (sp_month (I 108) b).1), am_mm D (am_wp tG I Q) J ρ) ∧ Q 108 = (sp_month (I 108) b).2) := by
  have hok2 := hok
  obtain ⟨o0, oG, oH, oD, o19, o20, o21, o22, o23, o24, oK, oV, oP, oM, oS, oY, oHd, oT, oC, oN⟩ := hok
  have hok := hok2
  refine am_e_ss 2 (q := (2, [(0, .inr (.inr (.inl (some 107)))), (1, .inl b)], [.inl b, .inr (.inr (.inl (some 107)))], (am_mm D I J ρ))) rfl ?_
  refine am_e_virtual (Q := fun r => r = (some (.inl ((am_bi (0 ≤ b ∧ b ≤ ((I 108 20) - 1))))), (am_mm D I J ρ))) rfl rfl (Nat.le_of_ble_eq_true rfl) rfl rfl (Nat.le_of_ble_eq_true rfl) (Nat.le_of_ble_eq_true rfl) (r_isBook _ ⟨by omega, by omega⟩ (show 0 ≤ (I 108 20) ∧ (I 108 20) ≤ 6 by omega)) ?_
  rintro r rfl
  show am_E _ _ _ 5 [(0, .inr (.inr (.inl (some 107)))), (1, .inl b)] [.inl ((am_bi (0 ≤ b ∧ b ≤ ((I 108 20) - 1))))] (am_mm D I J ρ) _
  refine am_e_ifne rfl (fun h1 => ?_) (fun h1 => ?_)
  · show am_E _ _ _ 10 [(0, .inr (.inr (.inl (some 107)))), (1, .inl b)] [] (am_mm D I J ρ) _
    have oD_b := oD b.toNat (by omega)
    rw [show 13 + b.toNat = (13 + b).toNat by omega] at oD_b
    refine am_e_ss 2 (q := (12, [(0, .inr (.inr (.inl (some 107)))), (1, .inl b)], [.inl b, .inr (.inr (.inl (some 107)))], (am_mm D I J ρ))) rfl ?_
    refine am_e_virtual (Q := fun r => r = (some (.inl ((am_bi ((I 108 ((13 + b)).toNat) = 0)))), (am_mm D I J ρ))) rfl rfl (Nat.le_of_ble_eq_true rfl) rfl rfl (Nat.le_of_ble_eq_true rfl) (Nat.le_of_ble_eq_true rfl) (r_isOpen _ (v := b) ⟨by omega, by omega⟩ (by rw [show (13 + b).toNat = 13 + (b).toNat by omega]; exact oD _ (by omega))) ?_
    rintro r rfl
    show am_E _ _ _ 15 [(0, .inr (.inr (.inl (some 107)))), (1, .inl b)] [.inl ((am_bi ((I 108 ((13 + b)).toNat) = 0)))] (am_mm D I J ρ) _
    refine am_e_ifeq rfl (fun h2 => ?_) (fun h2 => ?_)
    · show am_E _ _ _ 29 [(0, .inr (.inr (.inl (some 107)))), (1, .inl b)] [] (am_mm D I J ρ) _
      refine am_e_ss 2 (q := (39, [(0, .inr (.inr (.inl (some 107)))), (1, .inl b)], [.inl (-3)], (am_mm D I J ρ))) rfl ?_
      refine am_e_ireturn rfl rfl ?_
      have em : sp_month (I 108) b = ((-3), I 108) := by
        unfold sp_month
        (repeat' split) <;> first | rfl | (exfalso; omega)
      rw [em]
      exact ⟨I, am_r_wp tG am_k_id, rfl⟩
    · show am_E _ _ _ 18 [(0, .inr (.inr (.inl (some 107)))), (1, .inl b)] [] (am_mm D I J ρ) _
      refine am_e_ss 5 (q := (26, [(0, .inr (.inr (.inl (some 107)))), (1, .inl b)], [.inl 99, .inl ((I 108 0))], (am_mm D I J ρ))) rfl ?_
      refine am_e_icmp2 rfl ⟨by omega, by omega⟩ ⟨by omega, by omega⟩ (fun (h3 : ¬ (I 108 0) = 99) => ?_) (fun (h3 : ¬ (¬ (I 108 0) = 99)) => ?_)
      · show am_E _ _ _ 34 [(0, .inr (.inr (.inl (some 107)))), (1, .inl b)] [] (am_mm D I J ρ) _
        refine am_e_ss 2 (q := (36, [(0, .inr (.inr (.inl (some 107)))), (1, .inl b)], [.inl b, .inr (.inr (.inl (some 107)))], (am_mm D I J ρ))) rfl ?_
        refine am_e_virtual (Q := fun r => ∃ Q65, r = (some (.inl ((sp_cmc (I 108) b ((I 108) 19).toNat))), (am_mm D (am_wp tG I Q65) J ρ)) ∧ Q65 108 = sp_go (I 108) b) rfl rfl (Nat.le_of_ble_eq_true rfl) rfl rfl (Nat.le_of_ble_eq_true rfl) (Nat.le_of_ble_eq_true rfl) (r_goes _ (B := B) (b := b) ⟨by omega, by omega⟩ (by omega) hok hwf) ?_
        rintro r ⟨Q65, rfl, hgo⟩
        show am_E _ _ _ 39 [(0, .inr (.inr (.inl (some 107)))), (1, .inl b)] [.inl ((sp_cmc (I 108) b ((I 108) 19).toNat))] (am_mm D (am_wp tG I Q65) J ρ) _
        refine am_e_ireturn rfl rfl ?_
        have em : sp_month (I 108) b = ((sp_cmc (I 108) b ((I 108) 19).toNat), sp_go (I 108) b) := by
          unfold sp_month
          (repeat' split) <;> first | rfl | (exfalso; omega)
        rw [em]
        exact ⟨_, am_r_wp tG (am_k_wp am_k_sub (am_k_id)), hgo⟩
      · show am_E _ _ _ 29 [(0, .inr (.inr (.inl (some 107)))), (1, .inl b)] [] (am_mm D I J ρ) _
        refine am_e_ss 2 (q := (39, [(0, .inr (.inr (.inl (some 107)))), (1, .inl b)], [.inl (-3)], (am_mm D I J ρ))) rfl ?_
        refine am_e_ireturn rfl rfl ?_
        have em : sp_month (I 108) b = ((-3), I 108) := by
          unfold sp_month
          (repeat' split) <;> first | rfl | (exfalso; omega)
        rw [em]
        exact ⟨I, am_r_wp tG am_k_id, rfl⟩
  · show am_E _ _ _ 8 [(0, .inr (.inr (.inl (some 107)))), (1, .inl b)] [] (am_mm D I J ρ) _
    refine am_e_ss 1 (q := (9, [(0, .inr (.inr (.inl (some 107)))), (1, .inl b)], [.inl (-1)], (am_mm D I J ρ))) rfl ?_
    refine am_e_ireturn rfl rfl ?_
    have em : sp_month (I 108) b = ((-1), I 108) := by
      unfold sp_month
      (repeat' split) <;> first | rfl | (exfalso; omega)
    rw [em]
    exact ⟨I, am_r_wp tG am_k_id, rfl⟩
theorem am_cnt_bits (p : Nat → Bool) : ∀ n, (am_bits p n = 0 ↔ am_cnt p n = 0) := by
  intro n
  induction n with
  | zero => exact Iff.rfl
  | succ n ih =>
    have h1 := am_bits_lt p n
    have h2 := am_cnt_b p n
    have h3 : (0 : Int) < 2 ^ n := by omega
    unfold am_bits am_cnt
    split <;> omega
theorem sp_open_0 {S : Nat → Int} : sp_open S = 0 ↔ sp_ops S = 0 := am_cnt_bits _ _
def sp_c0 (S : Nat → Int) (way : Int) : Int := sp_cho S (sp_vl S 0) way
def sp_by (S : Nat → Int) (way : Int) : Int × (Nat → Int) := if ¬ (0 ≤ way ∧ way ≤ 5) then (-1, S) else if sp_ops S = 0 ∨ S 0 = 99 then (-3, S) else (sp_c0 S way, sp_go S (sp_c0 S way))
def tV : Nat → Nat → Bool := fun c i => Nat.beq c 108 || Nat.beq c 111 || Nat.beq c 112 || Nat.beq c 113 || Nat.beq c 114 || Nat.beq c 115 || Nat.beq c 116 || Nat.beq c 117 || Nat.beq c 118 || (Nat.beq c 107 && (Nat.beq i 12 || Nat.beq i 13 || Nat.beq i 20))
theorem tLL_tV : ∀ c i, tLL c i = true → tV c i = true := by
  intro c i
  unfold tLL tV
  simp
  omega
theorem tC_tV : ∀ c i, tC c i = true → tV c i = true := by
  intro c i
  unfold tC tV
  simp
  omega
theorem tG_tV : ∀ c i, tG c i = true → tV c i = true := by
  intro c i
  unfold tG tV
  simp
  omega
theorem tL_tV : ∀ c i, tL c i = true → tV c i = true := by
  intro c i
  unfold tL tV
  simp
  omega
theorem r_by {X : Nat × (Nat → Int)} {D : List (Nat × Nat)} {I J : Nat → Nat → Int} {ρ : Nat → Nat → Option Nat} (d : Nat) {B way : Int} (hway : -2147483648 ≤ way ∧ way < 2147483648) (hB : B ≤ 1900000000) (hok : r_ok (I 108) B) (hwf : sp_wfS (I 108)) : am_E X (d + 6) 192 0 [(0, .inr (.inr (.inl (some 107)))), (1, .inl way)] [] (am_mm D I J ρ) (fun r => ∃ Q, r = (some (.inl (sp_by (I 108) way).1), am_mm D (am_wp tV I Q) J ρ) ∧ Q 108 = (sp_by (I 108) way).2) := by
  have hok2 := hok
  obtain ⟨o0, oG, oH, oD, o19, o20, o21, o22, o23, o24, oK, oV, oP, oM, oS, oY, oHd, oT, oC, oN⟩ := hok
  have hok := hok2
  have op0 := sp_open_0 (S := I 108)
  have opl := am_bits_lt (fun b => decide (I 108 (13 + b) = 0)) (I 108 20).toNat
  have opl2 : sp_open (I 108) < 2 ^ (I 108 20).toNat := opl.2
  have opl3 : 0 ≤ sp_open (I 108) := opl.1
  have opl4 : (2 : Int) ^ (I 108 20).toNat ≤ 64 := by
    have h : (I 108 20).toNat = 0 ∨ (I 108 20).toNat = 1 ∨ (I 108 20).toNat = 2 ∨ (I 108 20).toNat = 3 ∨ (I 108 20).toNat = 4 ∨ (I 108 20).toNat = 5 ∨ (I 108 20).toNat = 6 := by omega
    rcases h with h | h | h | h | h | h | h <;> rw [h] <;> decide
  refine am_e_ss 1 (q := (1, [(0, .inr (.inr (.inl (some 107)))), (1, .inl way)], [.inl way], (am_mm D I J ρ))) rfl ?_
  refine am_e_static (Q := fun r => r = (some (.inl ((am_bi (0 ≤ way ∧ way ≤ 5)))), (am_mm D I J ρ))) rfl (Nat.le_of_ble_eq_true rfl) rfl (Nat.le_of_ble_eq_true rfl) (Nat.le_of_ble_eq_true rfl) (r_isWay _ ⟨by omega, by omega⟩) ?_
  rintro r rfl
  show am_E _ _ _ 4 [(0, .inr (.inr (.inl (some 107)))), (1, .inl way)] [.inl ((am_bi (0 ≤ way ∧ way ≤ 5)))] (am_mm D I J ρ) _
  refine am_e_ifne rfl (fun h1 => ?_) (fun h1 => ?_)
  · show am_E _ _ _ 9 [(0, .inr (.inr (.inl (some 107)))), (1, .inl way)] [] (am_mm D I J ρ) _
    refine am_e_ss 1 (q := (10, [(0, .inr (.inr (.inl (some 107)))), (1, .inl way)], [.inr (.inr (.inl (some 107)))], (am_mm D I J ρ))) rfl ?_
    refine am_e_virtual (Q := fun r => r = (some (.inl ((sp_open (I 108)))), (am_mm D I J ρ))) rfl rfl (Nat.le_of_ble_eq_true rfl) rfl rfl (Nat.le_of_ble_eq_true rfl) (Nat.le_of_ble_eq_true rfl) (r_openBooks _ (B := B) hok) ?_
    rintro r rfl
    show am_E _ _ _ 13 [(0, .inr (.inr (.inl (some 107)))), (1, .inl way)] [.inl ((sp_open (I 108)))] (am_mm D I J ρ) _
    refine am_e_if2 rfl ⟨by omega, by omega⟩ (fun (h2 : (sp_open (I 108)) = 0) => ?_) (fun (h2 : ¬ ((sp_open (I 108)) = 0)) => ?_)
    · show am_E _ _ _ 27 [(0, .inr (.inr (.inl (some 107)))), (1, .inl way)] [] (am_mm D I J ρ) _
      refine am_e_ss 1 (q := (29, [(0, .inr (.inr (.inl (some 107)))), (1, .inl way)], [.inl (-3)], (am_mm D I J ρ))) rfl ?_
      refine am_e_ireturn rfl rfl ?_
      have em : sp_by (I 108) way = ((-3), I 108) := by
        unfold sp_by
        (repeat' split) <;> first | rfl | (exfalso; omega)
      rw [em]
      exact ⟨I, am_r_wp tV am_k_id, rfl⟩
    · show am_E _ _ _ 16 [(0, .inr (.inr (.inl (some 107)))), (1, .inl way)] [] (am_mm D I J ρ) _
      refine am_e_ss 5 (q := (24, [(0, .inr (.inr (.inl (some 107)))), (1, .inl way)], [.inl 99, .inl ((I 108 0))], (am_mm D I J ρ))) rfl ?_
      refine am_e_icmp2 rfl ⟨by omega, by omega⟩ ⟨by omega, by omega⟩ (fun (h3 : ¬ (I 108 0) = 99) => ?_) (fun (h3 : ¬ (¬ (I 108 0) = 99)) => ?_)
      · show am_E _ _ _ 30 [(0, .inr (.inr (.inl (some 107)))), (1, .inl way)] [] (am_mm D I J ρ) _
        refine am_e_ss 1 (q := (31, [(0, .inr (.inr (.inl (some 107)))), (1, .inl way)], [.inr (.inr (.inl (some 107)))], (am_mm D I J ρ))) rfl ?_
        refine am_e_virtual (Q := fun r => ∃ Q66, r = (none, (am_mm D (am_wp tLL I Q66) J ρ)) ∧ r_lks (I 108) (Q66 113)) rfl rfl (Nat.le_of_ble_eq_true rfl) rfl rfl (Nat.le_of_ble_eq_true rfl) (Nat.le_of_ble_eq_true rfl) (r_looksForLikes _ (B := B) hok hwf) ?_
        rintro r ⟨Q66, rfl, hl⟩
        show am_E _ _ _ 34 [(0, .inr (.inr (.inl (some 107)))), (1, .inl way)] [] (am_mm D (am_wp tLL I Q66) J ρ) _
        refine am_e_ss 3 (q := (37, [(0, .inr (.inr (.inl (some 107)))), (1, .inl way)], [.inl 0, .inl way, .inr (.inr (.inl (some 107)))], (am_mm D (am_wp tLL I Q66) J ρ))) rfl ?_
        refine am_e_virtual (Q := fun r => ∃ Q67, r = (some (.inl ((sp_cho (I 108) (sp_vl (I 108) 0) way))), (am_mm D (am_wp tC (am_wp tLL I Q66) Q67) J ρ)) ∧ Q67 107 20 = sp_ops (I 108) ∧ (∀ m : Nat, m < ((I 108) 19).toNat → am_rowl (Q67 114) (6 * m) (sp_ord (I 108) m)) ∧ r_rep ((I 108) 19).toNat (Q67 117) (Q67 118) (sp_vl (I 108) 0)) rfl rfl (Nat.le_of_ble_eq_true rfl) rfl rfl (Nat.le_of_ble_eq_true rfl) (Nat.le_of_ble_eq_true rfl) (r_chosenBy _ (B := B) ⟨by omega, by omega⟩ (by omega) hl hok hwf) ?_
        rintro r ⟨Q67, rfl, ⟨hop, hO, hV⟩⟩
        show am_E _ _ _ 40 [(0, .inr (.inr (.inl (some 107)))), (1, .inl way)] [.inl ((sp_cho (I 108) (sp_vl (I 108) 0) way))] (am_mm D (am_wp tC (am_wp tLL I Q66) Q67) J ρ) _
        refine am_e_ss 1 (q := (41, [(2, .inl ((sp_cho (I 108) (sp_vl (I 108) 0) way))), (0, .inr (.inr (.inl (some 107)))), (1, .inl way)], [], (am_mm D (am_wp tC (am_wp tLL I Q66) Q67) J ρ))) rfl ?_
        have cb := sp_cho_b (way := way) hok (sp_vl_vl (t := 0) hok) (by omega)
        refine am_e_ss 2 (q := (43, [(2, .inl ((sp_cho (I 108) (sp_vl (I 108) 0) way))), (0, .inr (.inr (.inl (some 107)))), (1, .inl way)], [.inl ((sp_cho (I 108) (sp_vl (I 108) 0) way)), .inr (.inr (.inl (some 107)))], (am_mm D (am_wp tC (am_wp tLL I Q66) Q67) J ρ))) rfl ?_
        refine am_e_virtual (Q := fun r => ∃ Q68, r = (some (.inl ((sp_cmc (I 108) (sp_cho (I 108) (sp_vl (I 108) 0) way) ((I 108) 19).toNat))), (am_mm D (am_wp tG (am_wp tC (am_wp tLL I Q66) Q67) Q68) J ρ)) ∧ Q68 108 = sp_go (I 108) (sp_cho (I 108) (sp_vl (I 108) 0) way)) rfl rfl (Nat.le_of_ble_eq_true rfl) rfl rfl (Nat.le_of_ble_eq_true rfl) (Nat.le_of_ble_eq_true rfl) (r_goes _ (B := B) (b := (sp_cho (I 108) (sp_vl (I 108) 0) way)) ⟨by omega, by omega⟩ (by omega) hok hwf) ?_
        rintro r ⟨Q68, rfl, hgo⟩
        show am_E _ _ _ 46 [(2, .inl ((sp_cho (I 108) (sp_vl (I 108) 0) way))), (0, .inr (.inr (.inl (some 107)))), (1, .inl way)] [.inl ((sp_cmc (I 108) (sp_cho (I 108) (sp_vl (I 108) 0) way) ((I 108) 19).toNat))] (am_mm D (am_wp tG (am_wp tC (am_wp tLL I Q66) Q67) Q68) J ρ) _
        refine am_e_ss 2 (q := (48, [(2, .inl ((sp_cho (I 108) (sp_vl (I 108) 0) way))), (0, .inr (.inr (.inl (some 107)))), (1, .inl way)], [.inl ((sp_cho (I 108) (sp_vl (I 108) 0) way))], (am_mm D (am_wp tG (am_wp tC (am_wp tLL I Q66) Q67) Q68) J ρ))) rfl ?_
        refine am_e_ireturn rfl rfl ?_
        have em : sp_by (I 108) way = ((sp_cho (I 108) (sp_vl (I 108) 0) way), sp_go (I 108) (sp_c0 (I 108) way)) := by
          unfold sp_by
          (repeat' split) <;> first | rfl | (exfalso; omega)
        rw [em]
        exact ⟨_, am_r_wp tV (am_k_wp (tG_tV) (am_k_wp (tC_tV) (am_k_wp (tLL_tV) (am_k_id)))), hgo⟩
      · show am_E _ _ _ 27 [(0, .inr (.inr (.inl (some 107)))), (1, .inl way)] [] (am_mm D I J ρ) _
        refine am_e_ss 1 (q := (29, [(0, .inr (.inr (.inl (some 107)))), (1, .inl way)], [.inl (-3)], (am_mm D I J ρ))) rfl ?_
        refine am_e_ireturn rfl rfl ?_
        have em : sp_by (I 108) way = ((-3), I 108) := by
          unfold sp_by
          (repeat' split) <;> first | rfl | (exfalso; omega)
        rw [em]
        exact ⟨I, am_r_wp tV am_k_id, rfl⟩
  · show am_E _ _ _ 7 [(0, .inr (.inr (.inl (some 107)))), (1, .inl way)] [] (am_mm D I J ρ) _
    refine am_e_ss 1 (q := (8, [(0, .inr (.inr (.inl (some 107)))), (1, .inl way)], [.inl (-1)], (am_mm D I J ρ))) rfl ?_
    refine am_e_ireturn rfl rfl ?_
    have em : sp_by (I 108) way = ((-1), I 108) := by
      unfold sp_by
      (repeat' split) <;> first | rfl | (exfalso; omega)
    rw [em]
    exact ⟨I, am_r_wp tV am_k_id, rfl⟩
