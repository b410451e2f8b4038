/-! THE CLASS: small calls -/
def c_st (S S' : Nat → Int) : Prop := ∀ i, (i = 19 ∨ i = 20 ∨ i = 24 ∨ (26 ≤ i ∧ i < 62) ∨ 168 ≤ i) → S i = S' i
theorem c_st_al {S S' : Nat → Int} (h : sp_al S S') : c_st S S' := fun i hi => h i (by omega)
section
variable {S S' : Nat → Int}
theorem sp_many_st (h : c_st S S') (h24 : -1 ≤ S 24) : sp_many S = sp_many S' := by
  unfold sp_many
  rw [← h 24 (by omega)]
  by_cases e : S 24 = -1
  · rw [if_pos e, if_pos e]
  · rw [if_neg e, if_neg e, h (173 + S 24).toNat (by omega)]
theorem sp_stp_st (h : c_st S S') (h24 : -1 ≤ S 24) (e : ¬ S 24 = -1) : sp_stp S = sp_stp S' := by
  funext k
  unfold sp_stp
  rw [← h 24 (by omega)]
  exact h _ (by omega)
theorem sp_come_st (h : c_st S S') (h24 : -1 ≤ S 24) : sp_come S = sp_come S' := by
  unfold sp_come
  rw [← h 24 (by omega)]
  by_cases e : S 24 = -1
  · rw [if_pos e, if_pos e]
  · rw [if_neg e, if_neg e, h (168 + S 24).toNat (by omega)]
theorem sp_fa_st {m b : Int} (h : c_st S S') (hm : 0 ≤ m ∧ m < 6) (hb : 0 ≤ b ∧ b < 6) : sp_fa S m b = sp_fa S' m b := by
  funext i
  unfold sp_fa
  rw [← h (26 + m).toNat (by omega), ← h (38 + b).toNat (by omega), ← h (44 + b).toNat (by omega), ← h (50 + b).toNat (by omega)]
theorem sp_lk_st {m b : Int} (h : c_st S S') (h24 : -1 ≤ S 24) (hm : 0 ≤ m ∧ m < 6) (hb : 0 ≤ b ∧ b < 6) : sp_lk S m b = sp_lk S' m b ∧ sp_rd' S m b = sp_rd' S' m b := by
  unfold sp_lk sp_rd' sp_liking sp_reading
  rw [sp_fa_st h hm hb, ← sp_many_st h h24]
  by_cases e : S 24 = -1
  · rw [show (sp_many S).toNat = 0 by unfold sp_many; rw [if_pos e]; rfl]
    exact ⟨rfl, rfl⟩
  · rw [sp_stp_st h h24 e]
    exact ⟨rfl, rfl⟩
theorem sp_like_st {m b : Int} (h : c_st S S') (h24 : -1 ≤ S 24) (hm : 0 ≤ m ∧ m < 6) (hb : 0 ≤ b ∧ b < 6) : sp_like S m b = sp_like S' m b := by
  unfold sp_like
  rw [(sp_lk_st h h24 hm hb).1, ← h (26 + m).toNat (by omega), ← h (56 + b).toNat (by omega), ← h (32 + m).toNat (by omega), ← h (38 + b).toNat (by omega)]
theorem sp_odds_st {m b : Int} (h : c_st S S') (h24 : -1 ≤ S 24) (hm : 0 ≤ m ∧ m < 6) (hb : 0 ≤ b ∧ b < 6) : sp_odds S m b = sp_odds S' m b := by
  unfold sp_odds sp_odd2 sp_odd1
  rw [sp_like_st h h24 hm hb, (sp_lk_st h h24 hm hb).2, ← h (26 + m).toNat (by omega), ← h (56 + b).toNat (by omega)]
theorem sp_wfS_st (h : c_st S S') (h24 : -1 ≤ S 24) (hw : sp_wfS S) : sp_wfS S' := by
  unfold sp_wfS at *
  rw [← sp_many_st h h24]
  by_cases e : S 24 = -1
  · rw [show (sp_many S).toNat = 0 by unfold sp_many; rw [if_pos e]; rfl]
    exact fun k hk => by omega
  · rw [← sp_stp_st h h24 e]; exact hw
variable {D : List (Nat × Nat)} {I : Nat → Nat → Int} {ρ : Nat → Nat → Option Nat} {B : Int}
theorem c_lo_st {o : Nat} (hok : r_ok S B) (h : c_st S S') (hl : c_lo I o S) : c_lo I o S' := by
  have h19 := r_ok_19 hok
  have h24 := r_ok_24 hok
  intro m b hm hb
  rw [← h 19 (by omega)] at hm
  rw [← h 20 (by omega)] at hb
  rw [← sp_like_st h h24 (by omega) (by omega), ← sp_odds_st h h24 (by omega) (by omega)]
  exact hl m b hm hb
theorem c_mems_st {a : Nat} (hok : r_ok S B) (h : c_st S S') (hl : c_mems D I ρ a S) : c_mems D I ρ a S' := by
  have h19 := r_ok_19 hok
  intro m hm
  rw [← h 19 (by omega)] at hm
  obtain ⟨k, h1, h2, h3, h4, h5, h6⟩ := hl m hm
  exact ⟨k, h1, h2, by rw [← h (26 + m) (by omega)]; exact h3, by rw [← h (26 + m) (by omega)]; exact h4, h5, by rw [← h (32 + m) (by omega)]; exact h6⟩
theorem ps_rel_st {cs : List ps_C} (h : c_st S S') (h24 : -1 ≤ S 24) (hl : ps_rel S cs) : ps_rel S' cs := by
  obtain ⟨h1, h2, h3⟩ := hl
  refine ⟨by rw [← sp_many_st h h24]; exact h1, ?_, h3⟩
  by_cases e : S 24 = -1
  · intro k hk
    have : sp_many S = 0 := by unfold sp_many; rw [if_pos e]
    omega
  · rw [← sp_stp_st h h24 e]; exact h2
theorem c_clb_st {a : Nat} (hok : r_ok S B) (h : c_st S S') (hl : c_clb D I ρ a S) : c_clb D I ρ a S' := by
  have h24 := r_ok_24 hok
  obtain ⟨c, h1, h2, h3, h4, cs, h5, h6⟩ := hl
  exact ⟨c, h1, h2, h3, by rw [← sp_come_st h h24]; exact h4, cs, h5, ps_rel_st h h24 h6⟩
end
theorem c_isHereI_2 {X : Nat × (Nat → Int)} {D : List (Nat × Nat)} {I J : Nat → Nat → Int} {ρ : Nat → Nat → Option Nat} (d : Nat) {z : Int} {p : Nat → Bool} (hp : I 2 1 = am_bits p 6) (hz : 0 ≤ z ∧ z < 6) : am_E X d 50 0 [(0, .inr (.inr (.inl (some 2)))), (1, .inl z)] [] (am_mm D I J ρ) (fun r => r = (some (.inl (am_bi (p z.toNat = true))), am_mm D I J ρ)) := by
  obtain ⟨m, rfl⟩ : ∃ m : Nat, z = (m : Int) := ⟨z.toNat, by omega⟩
  exact c_isHere_2 d hp (by omega)
theorem c_isHadI_2 {X : Nat × (Nat → Int)} {D : List (Nat × Nat)} {I J : Nat → Nat → Int} {ρ : Nat → Nat → Option Nat} (d : Nat) {z : Int} {p : Nat → Bool} (hp : I 2 2 = am_bits p 6) (hz : 0 ≤ z ∧ z < 6) : am_E X d 51 0 [(0, .inr (.inr (.inl (some 2)))), (1, .inl z)] [] (am_mm D I J ρ) (fun r => r = (some (.inl (am_bi (p z.toNat = true))), am_mm D I J ρ)) := by
  obtain ⟨m, rfl⟩ : ∃ m : Nat, z = (m : Int) := ⟨z.toNat, by omega⟩
  exact c_isHad_2 d hp (by omega)
theorem c_of {X : Nat × (Nat → Int)} {D : List (Nat × Nat)} {I J : Nat → Nat → Int} {ρ : Nat → Nat → Option Nat} (d : Nat) {S : Nat → Int} {B : Int} (hok : r_ok S B) (hwf : sp_wfS S) (hh : c_hall D I ρ 0 S) {m v : Int} (hm : -2147483648 ≤ m ∧ m < 2147483648) (hv : -2147483648 ≤ v ∧ v < 2147483648) : am_E X (d + 1) 93 0 [(0, .inr (.inr (.inl (some 0)))), (1, .inl m), (2, .inl v)] [] (am_mm D I J ρ) (fun r => r = (some (.inl ((sp_of S m v))), (am_mm D I J ρ))) := by
  have hh0 := hh
  obtain ⟨⟨h12, h14, h16, h18, h110⟩, ⟨hr0, hhr, hhd, hgl⟩, ⟨htp, hhn⟩, hbk, hlo, hmem, c, hρc, ⟨hsc0, hcc, hc0, hcs⟩⟩ := hh
  have hsc : (am_S ++ D)[c]? = some (1, 10) := hsc0.1.1
  have h12 : I 1 2 = S 19 := h12
  have h14 : I 1 4 = S 20 := h14
  have h16 : I 1 6 = S 21 := h16
  have h18 : I 1 8 = S 23 := h18
  have h110 : I 1 10 = S 22 := h110
  have hr0 : I 2 0 = S 0 := hr0
  have hhr : I 2 1 = am_bits (sp_hp S) 6 := hhr
  have hhd : I 2 2 = am_bits (sp_dp S) 6 := hhd
  have hgl : ∀ m, m < (S 19).toNat → I 3 m = S (1 + m) := hgl
  have htp : ∀ i, i < (S 23).toNat → I 17 i = S (68 + i) := htp
  have hhn : ∀ i, i < (S 22).toNat → I 18 i = S (62 + i) := hhn
  have hbk : ∀ b, b < (S 20).toNat → I (6 + b) 0 = S (38 + b) ∧ I (6 + b) 1 = S (44 + b) ∧ I (6 + b) 2 = S (50 + b) ∧ I (6 + b) 3 = S (56 + b) := hbk
  have hlo : ∀ m b : Nat, m < (S 19).toNat → b < (S 20).toNat → I (20 + m) b = sp_like S m b ∧ I (27 + m) b = sp_odds S m b := hlo
  have hmem : c_mems D I ρ 4 S := hmem
  have hρc : ρ 1 5 = some c := hρc
  have hh := hh0
  have h19 := r_ok_19 hok
  have hokx := hok
  obtain ⟨o0, oG, oH, oD, o19, o20, o21, o22, o23, o24, oK, oV, oP, oM, oS, oY, oHd, oT, oC, oN⟩ := hok
  have hok := hokx
  refine am_e_ss 2 (q := (2, [(0, .inr (.inr (.inl (some 0)))), (1, .inl m), (2, .inl v)], [.inl m, .inr (.inr (.inl (some 0)))], (am_mm D I J ρ))) rfl ?_
  refine am_e_virtual (Q := fun r => r = (some (.inl ((am_bi (0 ≤ m ∧ m ≤ S 19 - 1)))), (am_mm D I J ρ))) rfl rfl (Nat.le_of_ble_eq_true rfl) rfl rfl (Nat.le_of_ble_eq_true rfl) (Nat.le_of_ble_eq_true rfl) (c_isMember _ (v := m) hok ⟨by omega, by omega⟩ h12) ?_
  rintro r rfl
  show am_E _ _ _ 5 [(0, .inr (.inr (.inl (some 0)))), (1, .inl m), (2, .inl v)] [.inl ((am_bi (0 ≤ m ∧ m ≤ S 19 - 1)))] (am_mm D I J ρ) _
  refine am_e_ifne rfl (fun hw1 => ?_) (fun hw1 => ?_)
  · show am_E _ _ _ 12 [(0, .inr (.inr (.inl (some 0)))), (1, .inl m), (2, .inl v)] [] (am_mm D I J ρ) _
    obtain ⟨k, hρk, hk124, hsk, hk0, hk1, hk2⟩ := hmem (m).toNat (by omega)
    have oKm := oK (m).toNat (by omega)
    have oKm0 := oKm
    have oVm := oV (m).toNat (by omega)
    have e26 : 26 + (m).toNat = (26 + m).toNat := by omega
    have e32 : 32 + (m).toNat = (32 + m).toNat := by omega
    rw [e26] at hk0 oKm
    rw [e32] at hk2 oVm
    refine am_e_ss 1 (q := (13, [(0, .inr (.inr (.inl (some 0)))), (1, .inl m), (2, .inl v)], [.inl v], (am_mm D I J ρ))) rfl ?_
    rcases (show v < 0 ∨ v = 0 ∨ v = 1 ∨ v = 2 ∨ v = 3 ∨ 3 < v by omega) with hw2 | hw2 | hw2 | hw2 | hw2 | hw2
    · refine am_e_tabOut (t := 103) rfl ⟨by omega, by omega⟩ (by omega) rfl ?_
      refine am_e_ss 1 (q := (106, [(0, .inr (.inr (.inl (some 0)))), (1, .inl m), (2, .inl v)], [.inl (-10001)], (am_mm D I J ρ))) rfl ?_
      refine am_e_ireturn rfl rfl ?_
      rw [show sp_of S m v = -10001 by (unfold sp_of; (repeat' split) <;> first | rfl | (exfalso; omega))]
    · refine am_e_tabIn (t := 44) (off := 31) rfl ⟨by omega, by omega⟩ (by omega) (by rw [hw2]; rfl) rfl ?_
      refine am_e_ss 4 (q := (52, [(0, .inr (.inr (.inl (some 0)))), (1, .inl m), (2, .inl v)], [.inl m, .inr (.inr (.inl (some 4)))], (am_mm D I J ρ))) rfl ?_
      refine am_e_aaload (m := 6) (c := 24) rfl rfl (by decide) (by omega) (by omega) (by omega) ?_
      rw [show ((am_mm D I J ρ)).2.2.2 4 (m).toNat = some k from (show am_Rf ρ 4 (m).toNat = some k from hρk)]
      show am_E _ _ _ 53 [(0, .inr (.inr (.inl (some 0)))), (1, .inl m), (2, .inl v)] [.inr (.inr (.inl (some k)))] (am_mm D I J ρ) _
      refine am_e_gm (K := (S (26 + (m).toNat)).toNat) (f := 0) rfl hsk (by omega) (by decide) (by decide) (by decide) ?_
      show am_E _ _ _ 56 [(0, .inr (.inr (.inl (some 0)))), (1, .inl m), (2, .inl v)] [.inl ((I k 0))] (am_mm D I J ρ) _
      refine am_e_ireturn rfl rfl ?_
      have ev : sp_of S m v = (I k 0) := by
        unfold sp_of
        rw [if_neg (by omega), if_neg (by omega), if_pos (by omega)]
        exact hk0.symm
      rw [ev]
    · refine am_e_tabIn (t := 57) (off := 44) rfl ⟨by omega, by omega⟩ (by omega) (by rw [hw2]; rfl) rfl ?_
      refine am_e_ss 4 (q := (65, [(0, .inr (.inr (.inl (some 0)))), (1, .inl m), (2, .inl v)], [.inl m, .inr (.inr (.inl (some 4)))], (am_mm D I J ρ))) rfl ?_
      refine am_e_aaload (m := 6) (c := 24) rfl rfl (by decide) (by omega) (by omega) (by omega) ?_
      rw [show ((am_mm D I J ρ)).2.2.2 4 (m).toNat = some k from (show am_Rf ρ 4 (m).toNat = some k from hρk)]
      show am_E _ _ _ 66 [(0, .inr (.inr (.inl (some 0)))), (1, .inl m), (2, .inl v)] [.inr (.inr (.inl (some k)))] (am_mm D I J ρ) _
      refine am_e_gm (K := (S (26 + (m).toNat)).toNat) (f := 2) rfl hsk (by omega) (by decide) (by decide) (by decide) ?_
      show am_E _ _ _ 69 [(0, .inr (.inr (.inl (some 0)))), (1, .inl m), (2, .inl v)] [.inl ((I k 2))] (am_mm D I J ρ) _
      refine am_e_ireturn rfl rfl ?_
      have ev : sp_of S m v = (I k 2) := by
        unfold sp_of
        rw [if_neg (by omega), if_neg (by omega), if_neg (by omega), if_pos (by omega)]
        exact hk2.symm
      rw [ev]
    · refine am_e_tabIn (t := 70) (off := 57) rfl ⟨by omega, by omega⟩ (by omega) (by rw [hw2]; rfl) rfl ?_
      refine am_e_ss 5 (q := (81, [(0, .inr (.inr (.inl (some 0)))), (1, .inl m), (2, .inl v)], [.inl m, .inr (.inr (.inl (some 3)))], (am_mm D I J ρ))) rfl ?_
      refine am_e_iaload (m := 6) rfl rfl (by omega) (by omega) (by omega) ?_
      show am_E _ _ _ 82 [(0, .inr (.inr (.inl (some 0)))), (1, .inl m), (2, .inl v)] [.inl ((I 3 (m).toNat))] (am_mm D I J ρ) _
      refine am_e_ireturn rfl rfl ?_
      have ev : sp_of S m v = (I 3 (m).toNat) := by
        unfold sp_of
        rw [if_neg (by omega), if_neg (by omega), if_neg (by omega), if_neg (by omega), if_pos (by omega), hgl (m).toNat (by omega)]
        congr 1
        omega
      rw [ev]
    · refine am_e_tabIn (t := 83) (off := 70) rfl ⟨by omega, by omega⟩ (by omega) (by rw [hw2]; rfl) rfl ?_
      refine am_e_ss 4 (q := (91, [(0, .inr (.inr (.inl (some 0)))), (1, .inl m), (2, .inl v)], [.inl m, .inr (.inr (.inl (some 2)))], (am_mm D I J ρ))) rfl ?_
      refine am_e_virtual (Q := fun r => r = (some (.inl ((am_bi (sp_hp S (m).toNat = true)))), (am_mm D I J ρ))) rfl rfl (Nat.le_of_ble_eq_true rfl) rfl rfl (Nat.le_of_ble_eq_true rfl) (Nat.le_of_ble_eq_true rfl) (c_isHereI_2 _ (p := sp_hp S) hhr ⟨by omega, by omega⟩) ?_
      rintro r rfl
      show am_E _ _ _ 94 [(0, .inr (.inr (.inl (some 0)))), (1, .inl m), (2, .inl v)] [.inl ((am_bi (sp_hp S (m).toNat = true)))] (am_mm D I J ρ) _
      refine am_e_ifeq rfl (fun hw3 => ?_) (fun hw3 => ?_)
      · show am_E _ _ _ 101 [(0, .inr (.inr (.inl (some 0)))), (1, .inl m), (2, .inl v)] [] (am_mm D I J ρ) _
        refine am_e_ss 1 (q := (102, [(0, .inr (.inr (.inl (some 0)))), (1, .inl m), (2, .inl v)], [.inl 0], (am_mm D I J ρ))) rfl ?_
        refine am_e_ireturn rfl rfl ?_
        have ev : sp_of S m v = 0 := by
          unfold sp_of
          rw [if_neg (by omega), if_neg (by omega), if_neg (by omega), if_neg (by omega), if_neg (by omega)]
          have h7 := oH (m).toNat (by omega)
          rw [show 7 + (m).toNat = (7 + m).toNat by omega] at h7
          have hp := sp_hp_t (S := S) (m := (m).toNat)
          rw [show 7 + (m).toNat = (7 + m).toNat by omega] at hp
          have : ¬ S (7 + m).toNat = 0 := fun h => absurd (hp.mpr ⟨by omega, h⟩) (by assumption)
          omega
        rw [ev]
      · show am_E _ _ _ 97 [(0, .inr (.inr (.inl (some 0)))), (1, .inl m), (2, .inl v)] [] (am_mm D I J ρ) _
        refine am_e_ss 2 (q := (102, [(0, .inr (.inr (.inl (some 0)))), (1, .inl m), (2, .inl v)], [.inl 1], (am_mm D I J ρ))) rfl ?_
        refine am_e_ireturn rfl rfl ?_
        have ev : sp_of S m v = 1 := by
          unfold sp_of
          rw [if_neg (by omega), if_neg (by omega), if_neg (by omega), if_neg (by omega), if_neg (by omega)]
          have h7 := oH (m).toNat (by omega)
          rw [show 7 + (m).toNat = (7 + m).toNat by omega] at h7
          have hp := sp_hp_t (S := S) (m := (m).toNat)
          rw [show 7 + (m).toNat = (7 + m).toNat by omega] at hp
          have := (hp.mp (by assumption)).2
          omega
        rw [ev]
    · refine am_e_tabOut (t := 103) rfl ⟨by omega, by omega⟩ (by omega) rfl ?_
      refine am_e_ss 1 (q := (106, [(0, .inr (.inr (.inl (some 0)))), (1, .inl m), (2, .inl v)], [.inl (-10001)], (am_mm D I J ρ))) rfl ?_
      refine am_e_ireturn rfl rfl ?_
      rw [show sp_of S m v = -10001 by (unfold sp_of; (repeat' split) <;> first | rfl | (exfalso; omega))]
  · show am_E _ _ _ 8 [(0, .inr (.inr (.inl (some 0)))), (1, .inl m), (2, .inl v)] [] (am_mm D I J ρ) _
    refine am_e_ss 1 (q := (11, [(0, .inr (.inr (.inl (some 0)))), (1, .inl m), (2, .inl v)], [.inl (-10001)], (am_mm D I J ρ))) rfl ?_
    refine am_e_ireturn rfl rfl ?_
    rw [show sp_of S m v = -10001 by (unfold sp_of; (repeat' split) <;> first | rfl | (exfalso; omega))]
theorem c_at {X : Nat × (Nat → Int)} {D : List (Nat × Nat)} {I J : Nat → Nat → Int} {ρ : Nat → Nat → Option Nat} (d : Nat) {S : Nat → Int} {B : Int} (hok : r_ok S B) (hwf : sp_wfS S) (hh : c_hall D I ρ 0 S) {b v : Int} (hb : -2147483648 ≤ b ∧ b < 2147483648) (hv : -2147483648 ≤ v ∧ v < 2147483648) : am_E X (d + 1) 94 0 [(0, .inr (.inr (.inl (some 0)))), (1, .inl b), (2, .inl v)] [] (am_mm D I J ρ) (fun r => r = (some (.inl ((sp_at S b v))), (am_mm D I J ρ))) := by
  have hh0 := hh
  obtain ⟨⟨h12, h14, h16, h18, h110⟩, ⟨hr0, hhr, hhd, hgl⟩, ⟨htp, hhn⟩, hbk, hlo, hmem, c, hρc, ⟨hsc0, hcc, hc0, hcs⟩⟩ := hh
  have hsc : (am_S ++ D)[c]? = some (1, 10) := hsc0.1.1
  have h12 : I 1 2 = S 19 := h12
  have h14 : I 1 4 = S 20 := h14
  have h16 : I 1 6 = S 21 := h16
  have h18 : I 1 8 = S 23 := h18
  have h110 : I 1 10 = S 22 := h110
  have hr0 : I 2 0 = S 0 := hr0
  have hhr : I 2 1 = am_bits (sp_hp S) 6 := hhr
  have hhd : I 2 2 = am_bits (sp_dp S) 6 := hhd
  have hgl : ∀ m, m < (S 19).toNat → I 3 m = S (1 + m) := hgl
  have htp : ∀ i, i < (S 23).toNat → I 17 i = S (68 + i) := htp
  have hhn : ∀ i, i < (S 22).toNat → I 18 i = S (62 + i) := hhn
  have hbk : ∀ b, b < (S 20).toNat → I (6 + b) 0 = S (38 + b) ∧ I (6 + b) 1 = S (44 + b) ∧ I (6 + b) 2 = S (50 + b) ∧ I (6 + b) 3 = S (56 + b) := hbk
  have hlo : ∀ m b : Nat, m < (S 19).toNat → b < (S 20).toNat → I (20 + m) b = sp_like S m b ∧ I (27 + m) b = sp_odds S m b := hlo
  have hmem : c_mems D I ρ 4 S := hmem
  have hρc : ρ 1 5 = some c := hρc
  have hh := hh0
  have h19 := r_ok_19 hok
  have hokx := hok
  obtain ⟨o0, oG, oH, oD, o19, o20, o21, o22, o23, o24, oK, oV, oP, oM, oS, oY, oHd, oT, oC, oN⟩ := hok
  have hok := hokx
  refine am_e_ss 2 (q := (2, [(0, .inr (.inr (.inl (some 0)))), (1, .inl b), (2, .inl v)], [.inl b, .inr (.inr (.inl (some 0)))], (am_mm D I J ρ))) rfl ?_
  refine am_e_virtual (Q := fun r => r = (some (.inl ((am_bi (0 ≤ b ∧ b ≤ S 20 - 1)))), (am_mm D I J ρ))) rfl rfl (Nat.le_of_ble_eq_true rfl) rfl rfl (Nat.le_of_ble_eq_true rfl) (Nat.le_of_ble_eq_true rfl) (c_isBook _ (v := b) hok ⟨by omega, by omega⟩ h14) ?_
  rintro r rfl
  show am_E _ _ _ 5 [(0, .inr (.inr (.inl (some 0)))), (1, .inl b), (2, .inl v)] [.inl ((am_bi (0 ≤ b ∧ b ≤ S 20 - 1)))] (am_mm D I J ρ) _
  refine am_e_ifeq rfl (fun hw1 => ?_) (fun hw1 => ?_)
  · show am_E _ _ _ 17 [(0, .inr (.inr (.inl (some 0)))), (1, .inl b), (2, .inl v)] [] (am_mm D I J ρ) _
    refine am_e_ss 1 (q := (18, [(0, .inr (.inr (.inl (some 0)))), (1, .inl b), (2, .inl v)], [.inl (-1)], (am_mm D I J ρ))) rfl ?_
    refine am_e_ireturn rfl rfl ?_
    rw [show sp_at S b v = -1 by (unfold sp_at; (repeat' split) <;> first | rfl | (exfalso; omega))]
  · show am_E _ _ _ 8 [(0, .inr (.inr (.inl (some 0)))), (1, .inl b), (2, .inl v)] [] (am_mm D I J ρ) _
    refine am_e_ss 1 (q := (9, [(0, .inr (.inr (.inl (some 0)))), (1, .inl b), (2, .inl v)], [.inl v], (am_mm D I J ρ))) rfl ?_
    refine am_e_if2 rfl ⟨by omega, by omega⟩ (fun (hw2 : v < 0) => ?_) (fun (hw2 : ¬ (v < 0)) => ?_)
    · show am_E _ _ _ 17 [(0, .inr (.inr (.inl (some 0)))), (1, .inl b), (2, .inl v)] [] (am_mm D I J ρ) _
      refine am_e_ss 1 (q := (18, [(0, .inr (.inr (.inl (some 0)))), (1, .inl b), (2, .inl v)], [.inl (-1)], (am_mm D I J ρ))) rfl ?_
      refine am_e_ireturn rfl rfl ?_
      rw [show sp_at S b v = -1 by (unfold sp_at; (repeat' split) <;> first | rfl | (exfalso; omega))]
    · show am_E _ _ _ 12 [(0, .inr (.inr (.inl (some 0)))), (1, .inl b), (2, .inl v)] [] (am_mm D I J ρ) _
      refine am_e_ss 2 (q := (14, [(0, .inr (.inr (.inl (some 0)))), (1, .inl b), (2, .inl v)], [.inl 4, .inl v], (am_mm D I J ρ))) rfl ?_
      refine am_e_icmp2 rfl ⟨by omega, by omega⟩ ⟨by omega, by omega⟩ (fun (hw3 : v ≤ 4) => ?_) (fun (hw3 : ¬ (v ≤ 4)) => ?_)
      · show am_E _ _ _ 19 [(0, .inr (.inr (.inl (some 0)))), (1, .inl b), (2, .inl v)] [] (am_mm D I J ρ) _
        refine am_e_ss 2 (q := (21, [(0, .inr (.inr (.inl (some 0)))), (1, .inl b), (2, .inl v)], [.inl 4, .inl v], (am_mm D I J ρ))) rfl ?_
        refine am_e_icmp2 rfl ⟨by omega, by omega⟩ ⟨by omega, by omega⟩ (fun (hw4 : ¬ v = 4) => ?_) (fun (hw4 : ¬ (¬ v = 4)) => ?_)
        · show am_E _ _ _ 44 [(0, .inr (.inr (.inl (some 0)))), (1, .inl b), (2, .inl v)] [] (am_mm D I J ρ) _
          refine am_e_ss 4 (q := (52, [(0, .inr (.inr (.inl (some 0)))), (1, .inl b), (2, .inl v)], [.inl b, .inr (.inr (.inl (some 5)))], (am_mm D I J ρ))) rfl ?_
          refine am_e_aaload (m := 6) (c := 23) rfl rfl (by decide) (by omega) (by omega) (by omega) ?_
          rw [show ((am_mm D I J ρ)).2.2.2 5 (b).toNat = some (6 + (b).toNat) from (am_r5 (ρ := ρ) (by omega))]
          show am_E _ _ _ 53 [(0, .inr (.inr (.inl (some 0)))), (1, .inl b), (2, .inl v)] [.inr (.inr (.inl (some (6 + (b).toNat))))] (am_mm D I J ρ) _
          refine am_e_ss 1 (q := (54, [(0, .inr (.inr (.inl (some 0)))), (1, .inl b), (2, .inl v)], [.inl v, .inr (.inr (.inl (some (6 + (b).toNat))))], (am_mm D I J ρ))) rfl ?_
          refine am_e_iaload (m := 4) rfl (am_k6 (by omega)) (by omega) (by omega) (by omega) ?_
          show am_E _ _ _ 55 [(0, .inr (.inr (.inl (some 0)))), (1, .inl b), (2, .inl v)] [.inl ((I (6 + (b).toNat) (v).toNat))] (am_mm D I J ρ) _
          refine am_e_ireturn rfl rfl ?_
          have ev : sp_at S b v = (I (6 + (b).toNat) (v).toNat) := by
            unfold sp_at
            rw [if_neg (by omega), if_neg (by omega)]
            rw [if_neg (by omega)]
            have hb4 := hbk (b).toNat (by omega)
            rcases (show v = 0 ∨ v = 1 ∨ v = 2 ∨ v = 3 by omega) with rfl | rfl | rfl | rfl
            · rw [show (38 + 6 * 0 + b).toNat = 38 + (b).toNat by omega]; exact hb4.1.symm
            · rw [show (38 + 6 * 1 + b).toNat = 44 + (b).toNat by omega]; exact hb4.2.1.symm
            · rw [show (38 + 6 * 2 + b).toNat = 50 + (b).toNat by omega]; exact hb4.2.2.1.symm
            · rw [show (38 + 6 * 3 + b).toNat = 56 + (b).toNat by omega]; exact hb4.2.2.2.symm
          rw [ev]
        · show am_E _ _ _ 24 [(0, .inr (.inr (.inl (some 0)))), (1, .inl b), (2, .inl v)] [] (am_mm D I J ρ) _
          refine am_e_ss 4 (q := (32, [(0, .inr (.inr (.inl (some 0)))), (1, .inl b), (2, .inl v)], [.inl b, .inr (.inr (.inl (some 2)))], (am_mm D I J ρ))) rfl ?_
          refine am_e_virtual (Q := fun r => r = (some (.inl ((am_bi (sp_dp S (b).toNat = true)))), (am_mm D I J ρ))) rfl rfl (Nat.le_of_ble_eq_true rfl) rfl rfl (Nat.le_of_ble_eq_true rfl) (Nat.le_of_ble_eq_true rfl) (c_isHadI_2 _ (p := sp_dp S) hhd ⟨by omega, by omega⟩) ?_
          rintro r rfl
          show am_E _ _ _ 35 [(0, .inr (.inr (.inl (some 0)))), (1, .inl b), (2, .inl v)] [.inl ((am_bi (sp_dp S (b).toNat = true)))] (am_mm D I J ρ) _
          refine am_e_ifeq rfl (fun hw5 => ?_) (fun hw5 => ?_)
          · show am_E _ _ _ 42 [(0, .inr (.inr (.inl (some 0)))), (1, .inl b), (2, .inl v)] [] (am_mm D I J ρ) _
            refine am_e_ss 1 (q := (43, [(0, .inr (.inr (.inl (some 0)))), (1, .inl b), (2, .inl v)], [.inl 0], (am_mm D I J ρ))) rfl ?_
            refine am_e_ireturn rfl rfl ?_
            have ev : sp_at S b v = 0 := by
              unfold sp_at
              rw [if_neg (by omega), if_neg (by omega)]
              rw [if_pos (by omega)]
              have h7 := oD (b).toNat (by omega)
              rw [show 13 + (b).toNat = (13 + b).toNat by omega] at h7
              have hp := sp_dp_t (S := S) (b := (b).toNat)
              rw [show 13 + (b).toNat = (13 + b).toNat by omega] at hp
              have : ¬ (¬ S (13 + b).toNat = 0) := fun h => absurd (hp.mpr ⟨by omega, h⟩) (by assumption)
              omega
            rw [ev]
          · show am_E _ _ _ 38 [(0, .inr (.inr (.inl (some 0)))), (1, .inl b), (2, .inl v)] [] (am_mm D I J ρ) _
            refine am_e_ss 2 (q := (43, [(0, .inr (.inr (.inl (some 0)))), (1, .inl b), (2, .inl v)], [.inl 1], (am_mm D I J ρ))) rfl ?_
            refine am_e_ireturn rfl rfl ?_
            have ev : sp_at S b v = 1 := by
              unfold sp_at
              rw [if_neg (by omega), if_neg (by omega)]
              rw [if_pos (by omega)]
              have h7 := oD (b).toNat (by omega)
              rw [show 13 + (b).toNat = (13 + b).toNat by omega] at h7
              have hp := sp_dp_t (S := S) (b := (b).toNat)
              rw [show 13 + (b).toNat = (13 + b).toNat by omega] at hp
              have := (hp.mp (by assumption)).2
              omega
            rw [ev]
      · show am_E _ _ _ 17 [(0, .inr (.inr (.inl (some 0)))), (1, .inl b), (2, .inl v)] [] (am_mm D I J ρ) _
        refine am_e_ss 1 (q := (18, [(0, .inr (.inr (.inl (some 0)))), (1, .inl b), (2, .inl v)], [.inl (-1)], (am_mm D I J ρ))) rfl ?_
        refine am_e_ireturn rfl rfl ?_
        rw [show sp_at S b v = -1 by (unfold sp_at; (repeat' split) <;> first | rfl | (exfalso; omega))]
theorem c_told {X : Nat × (Nat → Int)} {D : List (Nat × Nat)} {I J : Nat → Nat → Int} {ρ : Nat → Nat → Option Nat} (d : Nat) {S : Nat → Int} {B : Int} (hok : r_ok S B) (hwf : sp_wfS S) (hh : c_hall D I ρ 0 S) {v : Int} (hv : -2147483648 ≤ v ∧ v < 2147483648) : am_E X d 95 0 [(0, .inr (.inr (.inl (some 0)))), (1, .inl v)] [] (am_mm D I J ρ) (fun r => r = (some (.inl ((sp_told S v))), (am_mm D I J ρ))) := by
  have hh0 := hh
  obtain ⟨⟨h12, h14, h16, h18, h110⟩, ⟨hr0, hhr, hhd, hgl⟩, ⟨htp, hhn⟩, hbk, hlo, hmem, c, hρc, ⟨hsc0, hcc, hc0, hcs⟩⟩ := hh
  have hsc : (am_S ++ D)[c]? = some (1, 10) := hsc0.1.1
  have h12 : I 1 2 = S 19 := h12
  have h14 : I 1 4 = S 20 := h14
  have h16 : I 1 6 = S 21 := h16
  have h18 : I 1 8 = S 23 := h18
  have h110 : I 1 10 = S 22 := h110
  have hr0 : I 2 0 = S 0 := hr0
  have hhr : I 2 1 = am_bits (sp_hp S) 6 := hhr
  have hhd : I 2 2 = am_bits (sp_dp S) 6 := hhd
  have hgl : ∀ m, m < (S 19).toNat → I 3 m = S (1 + m) := hgl
  have htp : ∀ i, i < (S 23).toNat → I 17 i = S (68 + i) := htp
  have hhn : ∀ i, i < (S 22).toNat → I 18 i = S (62 + i) := hhn
  have hbk : ∀ b, b < (S 20).toNat → I (6 + b) 0 = S (38 + b) ∧ I (6 + b) 1 = S (44 + b) ∧ I (6 + b) 2 = S (50 + b) ∧ I (6 + b) 3 = S (56 + b) := hbk
  have hlo : ∀ m b : Nat, m < (S 19).toNat → b < (S 20).toNat → I (20 + m) b = sp_like S m b ∧ I (27 + m) b = sp_odds S m b := hlo
  have hmem : c_mems D I ρ 4 S := hmem
  have hρc : ρ 1 5 = some c := hρc
  have hh := hh0
  have h19 := r_ok_19 hok
  have hokx := hok
  obtain ⟨o0, oG, oH, oD, o19, o20, o21, o22, o23, o24, oK, oV, oP, oM, oS, oY, oHd, oT, oC, oN⟩ := hok
  have hok := hokx
  refine am_e_ss 1 (q := (1, [(0, .inr (.inr (.inl (some 0)))), (1, .inl v)], [.inl v], (am_mm D I J ρ))) rfl ?_
  rcases (show v < 0 ∨ v = 0 ∨ v = 1 ∨ v = 2 ∨ v = 3 ∨ 3 < v by omega) with hw1 | hw1 | hw1 | hw1 | hw1 | hw1
  · refine am_e_tabOut (t := 90) rfl ⟨by omega, by omega⟩ (by omega) rfl ?_
    refine am_e_ss 1 (q := (91, [(0, .inr (.inr (.inl (some 0)))), (1, .inl v)], [.inl (-1)], (am_mm D I J ρ))) rfl ?_
    refine am_e_ireturn rfl rfl ?_
    have ev : sp_told S v = (-1) := by
      unfold sp_told
      (repeat' split) <;> first | rfl | (exfalso; omega)
    rw [ev]
  · refine am_e_tabIn (t := 32) (off := 31) rfl ⟨by omega, by omega⟩ (by omega) (by rw [hw1]; rfl) rfl ?_
    refine am_e_ss 4 (q := (42, [(0, .inr (.inr (.inl (some 0)))), (1, .inl v)], [.inl ((I 2 0))], (am_mm D I J ρ))) rfl ?_
    refine am_e_ireturn rfl rfl ?_
    have ev : sp_told S v = (I 2 0) := by
      unfold sp_told
      rw [if_pos (by omega)]
      exact hr0.symm
    rw [ev]
  · refine am_e_tabIn (t := 43) (off := 42) rfl ⟨by omega, by omega⟩ (by omega) (by rw [hw1]; rfl) rfl ?_
    refine am_e_ss 2 (q := (47, [(0, .inr (.inr (.inl (some 0)))), (1, .inl v)], [.inr (.inr (.inl (some 1)))], (am_mm D I J ρ))) rfl ?_
    refine am_e_getR (c := 3) (m := 14) (f := 5) (w := c) rfl rfl rfl (by decide) (by decide) rfl rfl hρc ?_
    show am_E _ _ _ 50 [(0, .inr (.inr (.inl (some 0)))), (1, .inl v)] [.inr (.inr (.inl (some c)))] (am_mm D I J ρ) _
    refine am_e_getfield (c := 1) (m := 10) (f := 0) rfl hsc rfl (by decide) (by decide) ?_
    show am_E _ _ _ 53 [(0, .inr (.inr (.inl (some 0)))), (1, .inl v)] [.inl ((I c 0))] (am_mm D I J ρ) _
    refine am_e_ireturn rfl rfl ?_
    have ev : sp_told S v = (I c 0) := by
      unfold sp_told
      rw [if_neg (by omega), if_pos (by omega)]
      exact hc0.symm
    rw [ev]
  · refine am_e_tabIn (t := 54) (off := 53) rfl ⟨by omega, by omega⟩ (by omega) (by rw [hw1]; rfl) rfl ?_
    refine am_e_ss 4 (q := (64, [(0, .inr (.inr (.inl (some 0)))), (1, .inl v)], [.inl ((I 2 1))], (am_mm D I J ρ))) rfl ?_
    refine am_e_ireturn rfl rfl ?_
    have ev : sp_told S v = (I 2 1) := by
      unfold sp_told
      rw [if_neg (by omega), if_neg (by omega), if_pos (by omega), sp_here_6 hok]
      exact hhr.symm
    rw [ev]
  · refine am_e_tabIn (t := 65) (off := 64) rfl ⟨by omega, by omega⟩ (by omega) (by rw [hw1]; rfl) rfl ?_
    refine am_e_ss 14 (q := (89, [(0, .inr (.inr (.inl (some 0)))), (1, .inl v)], [.inl ((Int32.ofInt ((Int32.ofInt 1 <<< (Int32.ofInt (I 1 4) &&& 31)).toInt - 1) &&& Int32.ofInt (Int32.ofInt (I 2 2) ^^^ Int32.ofInt (-1)).toInt).toInt)], (am_mm D I J ρ))) rfl ?_
    refine am_e_ireturn rfl rfl ?_
    have ev : sp_told S v = (Int32.ofInt ((Int32.ofInt 1 <<< (Int32.ofInt (I 1 4) &&& 31)).toInt - 1) &&& Int32.ofInt (Int32.ofInt (I 2 2) ^^^ Int32.ofInt (-1)).toInt).toInt := by
      unfold sp_told
      rw [if_neg (by omega), if_neg (by omega), if_neg (by omega), if_pos (by omega), hhd, h14]
      obtain ⟨n, hn⟩ : ∃ n : Nat, S 20 = (n : Int) := ⟨(S 20).toNat, by omega⟩
      rw [hn, am_bits_msk _ n (by omega)]
      unfold sp_open
      rw [am_bits_6 _ _ (by omega)]
      refine am_bits_cg 6 (fun x _ => ?_)
      unfold sp_dp
      rw [hn, show ((n : Int)).toNat = n by omega]
      by_cases e : x < n <;> simp [e]
    rw [ev]
  · refine am_e_tabOut (t := 90) rfl ⟨by omega, by omega⟩ (by omega) rfl ?_
    refine am_e_ss 1 (q := (91, [(0, .inr (.inr (.inl (some 0)))), (1, .inl v)], [.inl (-1)], (am_mm D I J ρ))) rfl ?_
    refine am_e_ireturn rfl rfl ?_
    have ev : sp_told S v = (-1) := by
      unfold sp_told
      (repeat' split) <;> first | rfl | (exfalso; omega)
    rw [ev]
theorem c_like {X : Nat × (Nat → Int)} {D : List (Nat × Nat)} {I J : Nat → Nat → Int} {ρ : Nat → Nat → Option Nat} (d : Nat) {S : Nat → Int} {B : Int} (hok : r_ok S B) (hwf : sp_wfS S) (hh : c_hall D I ρ 0 S) {m b : Int} (hm : -2147483648 ≤ m ∧ m < 2147483648) (hb : -2147483648 ≤ b ∧ b < 2147483648) : am_E X (d + 1) 97 0 [(0, .inr (.inr (.inl (some 0)))), (1, .inl m), (2, .inl b)] [] (am_mm D I J ρ) (fun r => r = (some (.inl ((sp_likeM S m b))), (am_mm D I J ρ))) := by
  have hh0 := hh
  obtain ⟨⟨h12, h14, h16, h18, h110⟩, ⟨hr0, hhr, hhd, hgl⟩, ⟨htp, hhn⟩, hbk, hlo, hmem, c, hρc, ⟨hsc0, hcc, hc0, hcs⟩⟩ := hh
  have hsc : (am_S ++ D)[c]? = some (1, 10) := hsc0.1.1
  have h12 : I 1 2 = S 19 := h12
  have h14 : I 1 4 = S 20 := h14
  have h16 : I 1 6 = S 21 := h16
  have h18 : I 1 8 = S 23 := h18
  have h110 : I 1 10 = S 22 := h110
  have hr0 : I 2 0 = S 0 := hr0
  have hhr : I 2 1 = am_bits (sp_hp S) 6 := hhr
  have hhd : I 2 2 = am_bits (sp_dp S) 6 := hhd
  have hgl : ∀ m, m < (S 19).toNat → I 3 m = S (1 + m) := hgl
  have htp : ∀ i, i < (S 23).toNat → I 17 i = S (68 + i) := htp
  have hhn : ∀ i, i < (S 22).toNat → I 18 i = S (62 + i) := hhn
  have hbk : ∀ b, b < (S 20).toNat → I (6 + b) 0 = S (38 + b) ∧ I (6 + b) 1 = S (44 + b) ∧ I (6 + b) 2 = S (50 + b) ∧ I (6 + b) 3 = S (56 + b) := hbk
  have hlo : ∀ m b : Nat, m < (S 19).toNat → b < (S 20).toNat → I (20 + m) b = sp_like S m b ∧ I (27 + m) b = sp_odds S m b := hlo
  have hmem : c_mems D I ρ 4 S := hmem
  have hρc : ρ 1 5 = some c := hρc
  have hh := hh0
  have h19 := r_ok_19 hok
  have hokx := hok
  obtain ⟨o0, oG, oH, oD, o19, o20, o21, o22, o23, o24, oK, oV, oP, oM, oS, oY, oHd, oT, oC, oN⟩ := hok
  have hok := hokx
  refine am_e_ss 2 (q := (2, [(0, .inr (.inr (.inl (some 0)))), (1, .inl m), (2, .inl b)], [.inl m, .inr (.inr (.inl (some 0)))], (am_mm D I J ρ))) rfl ?_
  refine am_e_virtual (Q := fun r => r = (some (.inl ((am_bi (0 ≤ m ∧ m ≤ S 19 - 1)))), (am_mm D I J ρ))) rfl rfl (Nat.le_of_ble_eq_true rfl) rfl rfl (Nat.le_of_ble_eq_true rfl) (Nat.le_of_ble_eq_true rfl) (c_isMember _ (v := m) hok ⟨by omega, by omega⟩ h12) ?_
  rintro r rfl
  show am_E _ _ _ 5 [(0, .inr (.inr (.inl (some 0)))), (1, .inl m), (2, .inl b)] [.inl ((am_bi (0 ≤ m ∧ m ≤ S 19 - 1)))] (am_mm D I J ρ) _
  refine am_e_ifeq rfl (fun hw1 => ?_) (fun hw1 => ?_)
  · show am_E _ _ _ 16 [(0, .inr (.inr (.inl (some 0)))), (1, .inl m), (2, .inl b)] [] (am_mm D I J ρ) _
    refine am_e_ss 1 (q := (19, [(0, .inr (.inr (.inl (some 0)))), (1, .inl m), (2, .inl b)], [.inl (-10001)], (am_mm D I J ρ))) rfl ?_
    refine am_e_ireturn rfl rfl ?_
    rw [show sp_likeM S m b = (-10001) by (unfold sp_likeM; (repeat' split) <;> first | rfl | (exfalso; omega))]
  · show am_E _ _ _ 8 [(0, .inr (.inr (.inl (some 0)))), (1, .inl m), (2, .inl b)] [] (am_mm D I J ρ) _
    refine am_e_ss 2 (q := (10, [(0, .inr (.inr (.inl (some 0)))), (1, .inl m), (2, .inl b)], [.inl b, .inr (.inr (.inl (some 0)))], (am_mm D I J ρ))) rfl ?_
    refine am_e_virtual (Q := fun r => r = (some (.inl ((am_bi (0 ≤ b ∧ b ≤ S 20 - 1)))), (am_mm D I J ρ))) rfl rfl (Nat.le_of_ble_eq_true rfl) rfl rfl (Nat.le_of_ble_eq_true rfl) (Nat.le_of_ble_eq_true rfl) (c_isBook _ (v := b) hok ⟨by omega, by omega⟩ h14) ?_
    rintro r rfl
    show am_E _ _ _ 13 [(0, .inr (.inr (.inl (some 0)))), (1, .inl m), (2, .inl b)] [.inl ((am_bi (0 ≤ b ∧ b ≤ S 20 - 1)))] (am_mm D I J ρ) _
    refine am_e_ifne rfl (fun hw2 => ?_) (fun hw2 => ?_)
    · show am_E _ _ _ 20 [(0, .inr (.inr (.inl (some 0)))), (1, .inl m), (2, .inl b)] [] (am_mm D I J ρ) _
      refine am_e_ss 4 (q := (28, [(0, .inr (.inr (.inl (some 0)))), (1, .inl m), (2, .inl b)], [.inl m, .inr (.inr (.inl (some 19)))], (am_mm D I J ρ))) rfl ?_
      refine am_e_aaload (m := 6) (c := 23) rfl rfl (by decide) (by omega) (by omega) (by omega) ?_
      rw [show ((am_mm D I J ρ)).2.2.2 19 (m).toNat = some (20 + (m).toNat) from (am_r19 (ρ := ρ) (by omega))]
      show am_E _ _ _ 29 [(0, .inr (.inr (.inl (some 0)))), (1, .inl m), (2, .inl b)] [.inr (.inr (.inl (some (20 + (m).toNat))))] (am_mm D I J ρ) _
      refine am_e_ss 1 (q := (30, [(0, .inr (.inr (.inl (some 0)))), (1, .inl m), (2, .inl b)], [.inl b, .inr (.inr (.inl (some (20 + (m).toNat))))], (am_mm D I J ρ))) rfl ?_
      refine am_e_iaload (m := 6) rfl (am_k20 (by omega)) (by omega) (by omega) (by omega) ?_
      show am_E _ _ _ 31 [(0, .inr (.inr (.inl (some 0)))), (1, .inl m), (2, .inl b)] [.inl ((I (20 + (m).toNat) (b).toNat))] (am_mm D I J ρ) _
      refine am_e_ireturn rfl rfl ?_
      have hl := (hlo (m).toNat (b).toNat (by omega) (by omega)).1
      rw [show ((m.toNat : Nat) : Int) = m by omega, show ((b.toNat : Nat) : Int) = b by omega] at hl
      rw [show sp_likeM S m b = (I (20 + (m).toNat) (b).toNat) by (unfold sp_likeM; rw [if_neg (by omega), if_neg (by omega)]; exact hl.symm)]
    · show am_E _ _ _ 16 [(0, .inr (.inr (.inl (some 0)))), (1, .inl m), (2, .inl b)] [] (am_mm D I J ρ) _
      refine am_e_ss 1 (q := (19, [(0, .inr (.inr (.inl (some 0)))), (1, .inl m), (2, .inl b)], [.inl (-10001)], (am_mm D I J ρ))) rfl ?_
      refine am_e_ireturn rfl rfl ?_
      rw [show sp_likeM S m b = (-10001) by (unfold sp_likeM; (repeat' split) <;> first | rfl | (exfalso; omega))]
theorem c_reads {X : Nat × (Nat → Int)} {D : List (Nat × Nat)} {I J : Nat → Nat → Int} {ρ : Nat → Nat → Option Nat} (d : Nat) {S : Nat → Int} {B : Int} (hok : r_ok S B) (hwf : sp_wfS S) (hh : c_hall D I ρ 0 S) {m b : Int} (hm : -2147483648 ≤ m ∧ m < 2147483648) (hb : -2147483648 ≤ b ∧ b < 2147483648) : am_E X (d + 1) 102 0 [(0, .inr (.inr (.inl (some 0)))), (1, .inl m), (2, .inl b)] [] (am_mm D I J ρ) (fun r => r = (some (.inl ((sp_readsM S m b))), (am_mm D I J ρ))) := by
  have hh0 := hh
  obtain ⟨⟨h12, h14, h16, h18, h110⟩, ⟨hr0, hhr, hhd, hgl⟩, ⟨htp, hhn⟩, hbk, hlo, hmem, c, hρc, ⟨hsc0, hcc, hc0, hcs⟩⟩ := hh
  have hsc : (am_S ++ D)[c]? = some (1, 10) := hsc0.1.1
  have h12 : I 1 2 = S 19 := h12
  have h14 : I 1 4 = S 20 := h14
  have h16 : I 1 6 = S 21 := h16
  have h18 : I 1 8 = S 23 := h18
  have h110 : I 1 10 = S 22 := h110
  have hr0 : I 2 0 = S 0 := hr0
  have hhr : I 2 1 = am_bits (sp_hp S) 6 := hhr
  have hhd : I 2 2 = am_bits (sp_dp S) 6 := hhd
  have hgl : ∀ m, m < (S 19).toNat → I 3 m = S (1 + m) := hgl
  have htp : ∀ i, i < (S 23).toNat → I 17 i = S (68 + i) := htp
  have hhn : ∀ i, i < (S 22).toNat → I 18 i = S (62 + i) := hhn
  have hbk : ∀ b, b < (S 20).toNat → I (6 + b) 0 = S (38 + b) ∧ I (6 + b) 1 = S (44 + b) ∧ I (6 + b) 2 = S (50 + b) ∧ I (6 + b) 3 = S (56 + b) := hbk
  have hlo : ∀ m b : Nat, m < (S 19).toNat → b < (S 20).toNat → I (20 + m) b = sp_like S m b ∧ I (27 + m) b = sp_odds S m b := hlo
  have hmem : c_mems D I ρ 4 S := hmem
  have hρc : ρ 1 5 = some c := hρc
  have hh := hh0
  have h19 := r_ok_19 hok
  have hokx := hok
  obtain ⟨o0, oG, oH, oD, o19, o20, o21, o22, o23, o24, oK, oV, oP, oM, oS, oY, oHd, oT, oC, oN⟩ := hok
  have hok := hokx
  refine am_e_ss 2 (q := (2, [(0, .inr (.inr (.inl (some 0)))), (1, .inl m), (2, .inl b)], [.inl m, .inr (.inr (.inl (some 0)))], (am_mm D I J ρ))) rfl ?_
  refine am_e_virtual (Q := fun r => r = (some (.inl ((am_bi (0 ≤ m ∧ m ≤ S 19 - 1)))), (am_mm D I J ρ))) rfl rfl (Nat.le_of_ble_eq_true rfl) rfl rfl (Nat.le_of_ble_eq_true rfl) (Nat.le_of_ble_eq_true rfl) (c_isMember _ (v := m) hok ⟨by omega, by omega⟩ h12) ?_
  rintro r rfl
  show am_E _ _ _ 5 [(0, .inr (.inr (.inl (some 0)))), (1, .inl m), (2, .inl b)] [.inl ((am_bi (0 ≤ m ∧ m ≤ S 19 - 1)))] (am_mm D I J ρ) _
  refine am_e_ifeq rfl (fun hw1 => ?_) (fun hw1 => ?_)
  · show am_E _ _ _ 16 [(0, .inr (.inr (.inl (some 0)))), (1, .inl m), (2, .inl b)] [] (am_mm D I J ρ) _
    refine am_e_ss 1 (q := (17, [(0, .inr (.inr (.inl (some 0)))), (1, .inl m), (2, .inl b)], [.inl (-1)], (am_mm D I J ρ))) rfl ?_
    refine am_e_ireturn rfl rfl ?_
    rw [show sp_readsM S m b = (-1) by (unfold sp_readsM; (repeat' split) <;> first | rfl | (exfalso; omega))]
  · show am_E _ _ _ 8 [(0, .inr (.inr (.inl (some 0)))), (1, .inl m), (2, .inl b)] [] (am_mm D I J ρ) _
    refine am_e_ss 2 (q := (10, [(0, .inr (.inr (.inl (some 0)))), (1, .inl m), (2, .inl b)], [.inl b, .inr (.inr (.inl (some 0)))], (am_mm D I J ρ))) rfl ?_
    refine am_e_virtual (Q := fun r => r = (some (.inl ((am_bi (0 ≤ b ∧ b ≤ S 20 - 1)))), (am_mm D I J ρ))) rfl rfl (Nat.le_of_ble_eq_true rfl) rfl rfl (Nat.le_of_ble_eq_true rfl) (Nat.le_of_ble_eq_true rfl) (c_isBook _ (v := b) hok ⟨by omega, by omega⟩ h14) ?_
    rintro r rfl
    show am_E _ _ _ 13 [(0, .inr (.inr (.inl (some 0)))), (1, .inl m), (2, .inl b)] [.inl ((am_bi (0 ≤ b ∧ b ≤ S 20 - 1)))] (am_mm D I J ρ) _
    refine am_e_ifne rfl (fun hw2 => ?_) (fun hw2 => ?_)
    · show am_E _ _ _ 18 [(0, .inr (.inr (.inl (some 0)))), (1, .inl m), (2, .inl b)] [] (am_mm D I J ρ) _
      refine am_e_ss 4 (q := (26, [(0, .inr (.inr (.inl (some 0)))), (1, .inl m), (2, .inl b)], [.inl m, .inr (.inr (.inl (some 26)))], (am_mm D I J ρ))) rfl ?_
      refine am_e_aaload (m := 6) (c := 23) rfl rfl (by decide) (by omega) (by omega) (by omega) ?_
      rw [show ((am_mm D I J ρ)).2.2.2 26 (m).toNat = some (27 + (m).toNat) from (am_r26 (ρ := ρ) (by omega))]
      show am_E _ _ _ 27 [(0, .inr (.inr (.inl (some 0)))), (1, .inl m), (2, .inl b)] [.inr (.inr (.inl (some (27 + (m).toNat))))] (am_mm D I J ρ) _
      refine am_e_ss 1 (q := (28, [(0, .inr (.inr (.inl (some 0)))), (1, .inl m), (2, .inl b)], [.inl b, .inr (.inr (.inl (some (27 + (m).toNat))))], (am_mm D I J ρ))) rfl ?_
      refine am_e_iaload (m := 6) rfl (am_k27 (by omega)) (by omega) (by omega) (by omega) ?_
      show am_E _ _ _ 29 [(0, .inr (.inr (.inl (some 0)))), (1, .inl m), (2, .inl b)] [.inl ((I (27 + (m).toNat) (b).toNat))] (am_mm D I J ρ) _
      refine am_e_ireturn rfl rfl ?_
      have hl := (hlo (m).toNat (b).toNat (by omega) (by omega)).2
      rw [show ((m.toNat : Nat) : Int) = m by omega, show ((b.toNat : Nat) : Int) = b by omega] at hl
      rw [show sp_readsM S m b = (I (27 + (m).toNat) (b).toNat) by (unfold sp_readsM; rw [if_neg (by omega), if_neg (by omega)]; exact hl.symm)]
    · show am_E _ _ _ 16 [(0, .inr (.inr (.inl (some 0)))), (1, .inl m), (2, .inl b)] [] (am_mm D I J ρ) _
      refine am_e_ss 1 (q := (17, [(0, .inr (.inr (.inl (some 0)))), (1, .inl m), (2, .inl b)], [.inl (-1)], (am_mm D I J ρ))) rfl ?_
      refine am_e_ireturn rfl rfl ?_
      rw [show sp_readsM S m b = (-1) by (unfold sp_readsM; (repeat' split) <;> first | rfl | (exfalso; omega))]
theorem c_attendsI {X : Nat × (Nat → Int)} {D : List (Nat × Nat)} {I J : Nat → Nat → Int} {ρ : Nat → Nat → Option Nat} (d : Nat) {S : Nat → Int} {B mo m b : Int} (hok : r_ok S B) (hm : 0 ≤ m ∧ m < S 19) (hb : 0 ≤ b ∧ b < S 20) (hmo : mo = S 0) (hmh : c_mh D I ρ S) : am_E X (d + 1) 30 0 [(0, .inr (.inr (.inl (some 1)))), (1, .inl m), (2, .inl b), (3, .inl mo)] [] (am_mm D I J ρ) (fun r => r = (some (.inl (sp_cmi S m b)), am_mm D I J ρ)) := by
  obtain ⟨mn, rfl⟩ : ∃ mn : Nat, m = (mn : Int) := ⟨m.toNat, by omega⟩
  obtain ⟨bn, rfl⟩ : ∃ bn : Nat, b = (bn : Int) := ⟨b.toNat, by omega⟩
  exact c_attends d hok (by omega) (by omega) hmo hmh
theorem c_comes {X : Nat × (Nat → Int)} {D : List (Nat × Nat)} {I J : Nat → Nat → Int} {ρ : Nat → Nat → Option Nat} (d : Nat) {S : Nat → Int} {B : Int} (hok : r_ok S B) (hwf : sp_wfS S) (hh : c_hall D I ρ 0 S) {m b : Int} (hm : -2147483648 ≤ m ∧ m < 2147483648) (hb : -2147483648 ≤ b ∧ b < 2147483648) : am_E X (d + 2) 103 0 [(0, .inr (.inr (.inl (some 0)))), (1, .inl m), (2, .inl b)] [] (am_mm D I J ρ) (fun r => r = (some (.inl ((sp_comesM S m b))), (am_mm D I J ρ))) := by
  have hh0 := hh
  obtain ⟨⟨h12, h14, h16, h18, h110⟩, ⟨hr0, hhr, hhd, hgl⟩, ⟨htp, hhn⟩, hbk, hlo, hmem, c, hρc, ⟨hsc0, hcc, hc0, hcs⟩⟩ := hh
  have hsc : (am_S ++ D)[c]? = some (1, 10) := hsc0.1.1
  have h12 : I 1 2 = S 19 := h12
  have h14 : I 1 4 = S 20 := h14
  have h16 : I 1 6 = S 21 := h16
  have h18 : I 1 8 = S 23 := h18
  have h110 : I 1 10 = S 22 := h110
  have hr0 : I 2 0 = S 0 := hr0
  have hhr : I 2 1 = am_bits (sp_hp S) 6 := hhr
  have hhd : I 2 2 = am_bits (sp_dp S) 6 := hhd
  have hgl : ∀ m, m < (S 19).toNat → I 3 m = S (1 + m) := hgl
  have htp : ∀ i, i < (S 23).toNat → I 17 i = S (68 + i) := htp
  have hhn : ∀ i, i < (S 22).toNat → I 18 i = S (62 + i) := hhn
  have hbk : ∀ b, b < (S 20).toNat → I (6 + b) 0 = S (38 + b) ∧ I (6 + b) 1 = S (44 + b) ∧ I (6 + b) 2 = S (50 + b) ∧ I (6 + b) 3 = S (56 + b) := hbk
  have hlo : ∀ m b : Nat, m < (S 19).toNat → b < (S 20).toNat → I (20 + m) b = sp_like S m b ∧ I (27 + m) b = sp_odds S m b := hlo
  have hmem : c_mems D I ρ 4 S := hmem
  have hρc : ρ 1 5 = some c := hρc
  have hh := hh0
  have h19 := r_ok_19 hok
  have hokx := hok
  obtain ⟨o0, oG, oH, oD, o19, o20, o21, o22, o23, o24, oK, oV, oP, oM, oS, oY, oHd, oT, oC, oN⟩ := hok
  have hok := hokx
  have cm01 := sp_cmi_01 S m b
  refine am_e_ss 2 (q := (2, [(0, .inr (.inr (.inl (some 0)))), (1, .inl m), (2, .inl b)], [.inl m, .inr (.inr (.inl (some 0)))], (am_mm D I J ρ))) rfl ?_
  refine am_e_virtual (Q := fun r => r = (some (.inl ((am_bi (0 ≤ m ∧ m ≤ S 19 - 1)))), (am_mm D I J ρ))) rfl rfl (Nat.le_of_ble_eq_true rfl) rfl rfl (Nat.le_of_ble_eq_true rfl) (Nat.le_of_ble_eq_true rfl) (c_isMember _ (v := m) hok ⟨by omega, by omega⟩ h12) ?_
  rintro r rfl
  show am_E _ _ _ 5 [(0, .inr (.inr (.inl (some 0)))), (1, .inl m), (2, .inl b)] [.inl ((am_bi (0 ≤ m ∧ m ≤ S 19 - 1)))] (am_mm D I J ρ) _
  refine am_e_ifeq rfl (fun hw1 => ?_) (fun hw1 => ?_)
  · show am_E _ _ _ 16 [(0, .inr (.inr (.inl (some 0)))), (1, .inl m), (2, .inl b)] [] (am_mm D I J ρ) _
    refine am_e_ss 1 (q := (17, [(0, .inr (.inr (.inl (some 0)))), (1, .inl m), (2, .inl b)], [.inl (-1)], (am_mm D I J ρ))) rfl ?_
    refine am_e_ireturn rfl rfl ?_
    rw [show sp_comesM S m b = (-1) by (unfold sp_comesM; (repeat' split) <;> first | omega | (exfalso; omega))]
  · show am_E _ _ _ 8 [(0, .inr (.inr (.inl (some 0)))), (1, .inl m), (2, .inl b)] [] (am_mm D I J ρ) _
    refine am_e_ss 2 (q := (10, [(0, .inr (.inr (.inl (some 0)))), (1, .inl m), (2, .inl b)], [.inl b, .inr (.inr (.inl (some 0)))], (am_mm D I J ρ))) rfl ?_
    refine am_e_virtual (Q := fun r => r = (some (.inl ((am_bi (0 ≤ b ∧ b ≤ S 20 - 1)))), (am_mm D I J ρ))) rfl rfl (Nat.le_of_ble_eq_true rfl) rfl rfl (Nat.le_of_ble_eq_true rfl) (Nat.le_of_ble_eq_true rfl) (c_isBook _ (v := b) hok ⟨by omega, by omega⟩ h14) ?_
    rintro r rfl
    show am_E _ _ _ 13 [(0, .inr (.inr (.inl (some 0)))), (1, .inl m), (2, .inl b)] [.inl ((am_bi (0 ≤ b ∧ b ≤ S 20 - 1)))] (am_mm D I J ρ) _
    refine am_e_ifne rfl (fun hw2 => ?_) (fun hw2 => ?_)
    · show am_E _ _ _ 18 [(0, .inr (.inr (.inl (some 0)))), (1, .inl m), (2, .inl b)] [] (am_mm D I J ρ) _
      refine am_e_ss 8 (q := (34, [(0, .inr (.inr (.inl (some 0)))), (1, .inl m), (2, .inl b)], [.inl ((I 2 0)), .inl b, .inl m, .inr (.inr (.inl (some 1)))], (am_mm D I J ρ))) rfl ?_
      refine am_e_virtual (Q := fun r => r = (some (.inl ((sp_cmi S m b))), (am_mm D I J ρ))) rfl rfl (Nat.le_of_ble_eq_true rfl) rfl rfl (Nat.le_of_ble_eq_true rfl) (Nat.le_of_ble_eq_true rfl) (c_attendsI _ hok ⟨by omega, by omega⟩ ⟨by omega, by omega⟩ hr0 (c_hall_mh hh)) ?_
      rintro r rfl
      show am_E _ _ _ 37 [(0, .inr (.inr (.inl (some 0)))), (1, .inl m), (2, .inl b)] [.inl ((sp_cmi S m b))] (am_mm D I J ρ) _
      refine am_e_if2 rfl ⟨by omega, by omega⟩ (fun (hw3 : (sp_cmi S m b) = 0) => ?_) (fun (hw3 : ¬ ((sp_cmi S m b) = 0)) => ?_)
      · show am_E _ _ _ 44 [(0, .inr (.inr (.inl (some 0)))), (1, .inl m), (2, .inl b)] [] (am_mm D I J ρ) _
        refine am_e_ss 1 (q := (45, [(0, .inr (.inr (.inl (some 0)))), (1, .inl m), (2, .inl b)], [.inl 0], (am_mm D I J ρ))) rfl ?_
        refine am_e_ireturn rfl rfl ?_
        rw [show sp_comesM S m b = 0 by (unfold sp_comesM; (repeat' split) <;> first | omega | (exfalso; omega))]
      · show am_E _ _ _ 40 [(0, .inr (.inr (.inl (some 0)))), (1, .inl m), (2, .inl b)] [] (am_mm D I J ρ) _
        refine am_e_ss 2 (q := (45, [(0, .inr (.inr (.inl (some 0)))), (1, .inl m), (2, .inl b)], [.inl 1], (am_mm D I J ρ))) rfl ?_
        refine am_e_ireturn rfl rfl ?_
        rw [show sp_comesM S m b = 1 by (unfold sp_comesM; (repeat' split) <;> first | omega | (exfalso; omega))]
    · show am_E _ _ _ 16 [(0, .inr (.inr (.inl (some 0)))), (1, .inl m), (2, .inl b)] [] (am_mm D I J ρ) _
      refine am_e_ss 1 (q := (17, [(0, .inr (.inr (.inl (some 0)))), (1, .inl m), (2, .inl b)], [.inl (-1)], (am_mm D I J ρ))) rfl ?_
      refine am_e_ireturn rfl rfl ?_
      rw [show sp_comesM S m b = (-1) by (unfold sp_comesM; (repeat' split) <;> first | omega | (exfalso; omega))]
theorem c_count {X : Nat × (Nat → Int)} {D : List (Nat × Nat)} {I J : Nat → Nat → Int} {ρ : Nat → Nat → Option Nat} (d : Nat) {S : Nat → Int} {B : Int} (hok : r_ok S B) (hwf : sp_wfS S) (hh : c_hall D I ρ 0 S) {v : Int} (hv : -2147483648 ≤ v ∧ v < 2147483648) : am_E X d 121 0 [(0, .inr (.inr (.inl (some 0)))), (1, .inl v)] [] (am_mm D I J ρ) (fun r => r = (some (.inl ((sp_count S (I 99 0) v))), (am_mm D I J ρ))) := by
  have hh0 := hh
  obtain ⟨⟨h12, h14, h16, h18, h110⟩, ⟨hr0, hhr, hhd, hgl⟩, ⟨htp, hhn⟩, hbk, hlo, hmem, c, hρc, ⟨hsc0, hcc, hc0, hcs⟩⟩ := hh
  have hsc : (am_S ++ D)[c]? = some (1, 10) := hsc0.1.1
  have h12 : I 1 2 = S 19 := h12
  have h14 : I 1 4 = S 20 := h14
  have h16 : I 1 6 = S 21 := h16
  have h18 : I 1 8 = S 23 := h18
  have h110 : I 1 10 = S 22 := h110
  have hr0 : I 2 0 = S 0 := hr0
  have hhr : I 2 1 = am_bits (sp_hp S) 6 := hhr
  have hhd : I 2 2 = am_bits (sp_dp S) 6 := hhd
  have hgl : ∀ m, m < (S 19).toNat → I 3 m = S (1 + m) := hgl
  have htp : ∀ i, i < (S 23).toNat → I 17 i = S (68 + i) := htp
  have hhn : ∀ i, i < (S 22).toNat → I 18 i = S (62 + i) := hhn
  have hbk : ∀ b, b < (S 20).toNat → I (6 + b) 0 = S (38 + b) ∧ I (6 + b) 1 = S (44 + b) ∧ I (6 + b) 2 = S (50 + b) ∧ I (6 + b) 3 = S (56 + b) := hbk
  have hlo : ∀ m b : Nat, m < (S 19).toNat → b < (S 20).toNat → I (20 + m) b = sp_like S m b ∧ I (27 + m) b = sp_odds S m b := hlo
  have hmem : c_mems D I ρ 4 S := hmem
  have hρc : ρ 1 5 = some c := hρc
  have hh := hh0
  have h19 := r_ok_19 hok
  have hokx := hok
  obtain ⟨o0, oG, oH, oD, o19, o20, o21, o22, o23, o24, oK, oV, oP, oM, oS, oY, oHd, oT, oC, oN⟩ := hok
  have hok := hokx
  refine am_e_ss 1 (q := (1, [(0, .inr (.inr (.inl (some 0)))), (1, .inl v)], [.inl v], (am_mm D I J ρ))) rfl ?_
  rcases (show v < 0 ∨ v = 0 ∨ v = 1 ∨ v = 2 ∨ v = 3 ∨ v = 4 ∨ v = 5 ∨ 5 < v by omega) with hw1 | hw1 | hw1 | hw1 | hw1 | hw1 | hw1 | hw1
  · refine am_e_tabOut (t := 87) rfl ⟨by omega, by omega⟩ (by omega) rfl ?_
    refine am_e_ss 1 (q := (88, [(0, .inr (.inr (.inl (some 0)))), (1, .inl v)], [.inl (-1)], (am_mm D I J ρ))) rfl ?_
    refine am_e_ireturn rfl rfl ?_
    rw [show sp_count S (I 99 0) v = (-1) by (unfold sp_count; (repeat' split) <;> first | rfl | (exfalso; omega) | omega)]
  · refine am_e_tabIn (t := 40) (off := 39) rfl ⟨by omega, by omega⟩ (by omega) (by rw [hw1]; rfl) rfl ?_
    refine am_e_ss 3 (q := (47, [(0, .inr (.inr (.inl (some 0)))), (1, .inl v)], [.inl ((I 1 2))], (am_mm D I J ρ))) rfl ?_
    refine am_e_ireturn rfl rfl ?_
    rw [show sp_count S (I 99 0) v = (I 1 2) by (unfold sp_count; (repeat' split) <;> first | rfl | (exfalso; omega) | omega)]
  · refine am_e_tabIn (t := 48) (off := 47) rfl ⟨by omega, by omega⟩ (by omega) (by rw [hw1]; rfl) rfl ?_
    refine am_e_ss 3 (q := (55, [(0, .inr (.inr (.inl (some 0)))), (1, .inl v)], [.inl ((I 1 4))], (am_mm D I J ρ))) rfl ?_
    refine am_e_ireturn rfl rfl ?_
    rw [show sp_count S (I 99 0) v = (I 1 4) by (unfold sp_count; (repeat' split) <;> first | rfl | (exfalso; omega) | omega)]
  · refine am_e_tabIn (t := 56) (off := 55) rfl ⟨by omega, by omega⟩ (by omega) (by rw [hw1]; rfl) rfl ?_
    refine am_e_ss 3 (q := (63, [(0, .inr (.inr (.inl (some 0)))), (1, .inl v)], [.inl ((I 1 6))], (am_mm D I J ρ))) rfl ?_
    refine am_e_ireturn rfl rfl ?_
    rw [show sp_count S (I 99 0) v = (I 1 6) by (unfold sp_count; (repeat' split) <;> first | rfl | (exfalso; omega) | omega)]
  · refine am_e_tabIn (t := 64) (off := 63) rfl ⟨by omega, by omega⟩ (by omega) (by rw [hw1]; rfl) rfl ?_
    refine am_e_ss 3 (q := (71, [(0, .inr (.inr (.inl (some 0)))), (1, .inl v)], [.inl ((I 1 10))], (am_mm D I J ρ))) rfl ?_
    refine am_e_ireturn rfl rfl ?_
    rw [show sp_count S (I 99 0) v = (I 1 10) by (unfold sp_count; (repeat' split) <;> first | rfl | (exfalso; omega) | omega)]
  · refine am_e_tabIn (t := 72) (off := 71) rfl ⟨by omega, by omega⟩ (by omega) (by rw [hw1]; rfl) rfl ?_
    refine am_e_ss 3 (q := (79, [(0, .inr (.inr (.inl (some 0)))), (1, .inl v)], [.inl ((I 1 8))], (am_mm D I J ρ))) rfl ?_
    refine am_e_ireturn rfl rfl ?_
    rw [show sp_count S (I 99 0) v = (I 1 8) by (unfold sp_count; (repeat' split) <;> first | rfl | (exfalso; omega) | omega)]
  · refine am_e_tabIn (t := 80) (off := 79) rfl ⟨by omega, by omega⟩ (by omega) (by rw [hw1]; rfl) rfl ?_
    refine am_e_ss 4 (q := (86, [(0, .inr (.inr (.inl (some 0)))), (1, .inl v)], [.inl ((I 99 0))], (am_mm D I J ρ))) rfl ?_
    refine am_e_ireturn rfl rfl ?_
    rw [show sp_count S (I 99 0) v = (I 99 0) by (unfold sp_count; (repeat' split) <;> first | rfl | (exfalso; omega) | omega)]
  · refine am_e_tabOut (t := 87) rfl ⟨by omega, by omega⟩ (by omega) rfl ?_
    refine am_e_ss 1 (q := (88, [(0, .inr (.inr (.inl (some 0)))), (1, .inl v)], [.inl (-1)], (am_mm D I J ρ))) rfl ?_
    refine am_e_ireturn rfl rfl ?_
    rw [show sp_count S (I 99 0) v = (-1) by (unfold sp_count; (repeat' split) <;> first | rfl | (exfalso; omega) | omega)]
theorem c_trace {X : Nat × (Nat → Int)} {D : List (Nat × Nat)} {I J : Nat → Nat → Int} {ρ : Nat → Nat → Option Nat} (d : Nat) {i ran : Int} {row : Nat → Int} (hi : -2147483648 ≤ i ∧ i < 2147483648) (hran : 0 ≤ ran ∧ ran ≤ 100) (h0 : I 99 0 = ran) (hrow : ∀ i : Nat, i < 20 → (i : Int) < ran → I 99 (1 + i) = row i) : am_E X d 117 0 [(0, .inr (.inr (.inl (some 0)))), (1, .inl i)] [] (am_mm D I J ρ) (fun r => r = (some (.inl ((sp_trace ran row i))), (am_mm D I J ρ))) := by
  refine am_e_ss 1 (q := (1, [(0, .inr (.inr (.inl (some 0)))), (1, .inl i)], [.inl i], (am_mm D I J ρ))) rfl ?_
  refine am_e_if2 rfl ⟨by omega, by omega⟩ (fun (hw1 : i < 0) => ?_) (fun (hw1 : ¬ (i < 0)) => ?_)
  · show am_E _ _ _ 20 [(0, .inr (.inr (.inl (some 0)))), (1, .inl i)] [] (am_mm D I J ρ) _
    refine am_e_ss 1 (q := (21, [(0, .inr (.inr (.inl (some 0)))), (1, .inl i)], [.inl (-1)], (am_mm D I J ρ))) rfl ?_
    refine am_e_ireturn rfl rfl ?_
    rw [show sp_trace ran row i = -1 by (unfold sp_trace; (repeat' split) <;> first | rfl | (exfalso; omega))]
  · show am_E _ _ _ 4 [(0, .inr (.inr (.inl (some 0)))), (1, .inl i)] [] (am_mm D I J ρ) _
    refine am_e_ss 2 (q := (7, [(0, .inr (.inr (.inl (some 0)))), (1, .inl i)], [.inl 20, .inl i], (am_mm D I J ρ))) rfl ?_
    refine am_e_icmp2 rfl ⟨by omega, by omega⟩ ⟨by omega, by omega⟩ (fun (hw2 : 20 ≤ i) => ?_) (fun (hw2 : ¬ (20 ≤ i)) => ?_)
    · show am_E _ _ _ 20 [(0, .inr (.inr (.inl (some 0)))), (1, .inl i)] [] (am_mm D I J ρ) _
      refine am_e_ss 1 (q := (21, [(0, .inr (.inr (.inl (some 0)))), (1, .inl i)], [.inl (-1)], (am_mm D I J ρ))) rfl ?_
      refine am_e_ireturn rfl rfl ?_
      rw [show sp_trace ran row i = -1 by (unfold sp_trace; (repeat' split) <;> first | rfl | (exfalso; omega))]
    · show am_E _ _ _ 10 [(0, .inr (.inr (.inl (some 0)))), (1, .inl i)] [] (am_mm D I J ρ) _
      refine am_e_ss 5 (q := (17, [(0, .inr (.inr (.inl (some 0)))), (1, .inl i)], [.inl ((I 99 0)), .inl i], (am_mm D I J ρ))) rfl ?_
      refine am_e_icmp2 rfl ⟨by omega, by omega⟩ ⟨by omega, by omega⟩ (fun (hw3 : i < (I 99 0)) => ?_) (fun (hw3 : ¬ (i < (I 99 0))) => ?_)
      · show am_E _ _ _ 22 [(0, .inr (.inr (.inl (some 0)))), (1, .inl i)] [] (am_mm D I J ρ) _
        refine am_e_ss 5 (q := (29, [(0, .inr (.inr (.inl (some 0)))), (1, .inl i)], [.inl (1 + i), .inr (.inr (.inl (some 99)))], (am_mm D I J ρ))) rfl ?_
        refine am_e_iaload (m := 21) rfl rfl (by omega) (by omega) (by omega) ?_
        show am_E _ _ _ 30 [(0, .inr (.inr (.inl (some 0)))), (1, .inl i)] [.inl ((I 99 ((1 + i)).toNat))] (am_mm D I J ρ) _
        refine am_e_ireturn rfl rfl ?_
        have hr := hrow (i).toNat (by omega) (by omega)
        rw [show 1 + (i).toNat = (1 + i).toNat by omega] at hr
        have ev : sp_trace ran row i = row (i).toNat := by
          unfold sp_trace
          rw [if_pos (by split <;> omega)]
        rw [ev, ← hr]
      · show am_E _ _ _ 20 [(0, .inr (.inr (.inl (some 0)))), (1, .inl i)] [] (am_mm D I J ρ) _
        refine am_e_ss 1 (q := (21, [(0, .inr (.inr (.inl (some 0)))), (1, .inl i)], [.inl (-1)], (am_mm D I J ρ))) rfl ?_
        refine am_e_ireturn rfl rfl ?_
        rw [show sp_trace ran row i = -1 by (unfold sp_trace; (repeat' split) <;> first | rfl | (exfalso; omega))]
