/-! THE CLASS: act, as -/
def c_actl (S : Nat → Int) (m a x : Int) : Int × List Int := if (0 ≤ m ∧ m ≤ S 19 - 1) ∧ (0 ≤ a ∧ a ≤ 2) then sp_act (S (26 + m).toNat) m (S (32 + m).toNat) a x else (0, [])
theorem c_bg_nil {I : Nat → Nat → Int} : c_bg (am_up I 99 0 0) 0 [] = am_up I 99 0 0 := by
  funext c j
  unfold c_bg am_up am_rs
  by_cases e : c = 99
  · subst e
    by_cases e2 : j = 0
    · subst e2; rfl
    · rw [if_pos rfl, if_neg e2]
  · rw [if_neg e]
theorem c_act {X : Nat × (Nat → Int)} {D : List (Nat × Nat)} {I J : Nat → Nat → Int} {ρ : Nat → Nat → Option Nat} (d : Nat) {S : Nat → Int} {B : Int} (hok : r_ok S B) (hwf : sp_wfS S) (hh : c_hall D I ρ 0 S) {m a x : Int} (hm : -2147483648 ≤ m ∧ m < 2147483648) (ha : -2147483648 ≤ a ∧ a < 2147483648) : am_E X (d + 7) 116 0 [(0, .inr (.inr (.inl (some 0)))), (1, .inl m), (2, .inl a), (3, .inl x)] [] (am_mm D I J ρ) (fun z => z = (some (.inl (c_actl S m a x).1), am_mm D (c_bg (am_up I 99 0 0) 0 (c_actl S m a x).2) J ρ)) := by
  have hh0 := hh
  obtain ⟨⟨h12, h14, h16, h18, h110⟩, ⟨hr0, hhr, hhd, hgl⟩, ⟨htp, hhn⟩, hbk, hlo, hmem, c, hρc, ⟨hsc0, hcc, hc0, hcs⟩⟩ := hh
  have hsc : (am_S ++ D)[c]? = some (1, 10) := hsc0.1.1
  have h12 : I 1 2 = S 19 := h12
  have h14 : I 1 4 = S 20 := h14
  have h16 : I 1 6 = S 21 := h16
  have h18 : I 1 8 = S 23 := h18
  have h110 : I 1 10 = S 22 := h110
  have hr0 : I 2 0 = S 0 := hr0
  have hhr : I 2 1 = am_bits (sp_hp S) 6 := hhr
  have hhd : I 2 2 = am_bits (sp_dp S) 6 := hhd
  have hgl : ∀ m, m < (S 19).toNat → I 3 m = S (1 + m) := hgl
  have htp : ∀ i, i < (S 23).toNat → I 17 i = S (68 + i) := htp
  have hhn : ∀ i, i < (S 22).toNat → I 18 i = S (62 + i) := hhn
  have hbk : ∀ b, b < (S 20).toNat → I (6 + b) 0 = S (38 + b) ∧ I (6 + b) 1 = S (44 + b) ∧ I (6 + b) 2 = S (50 + b) ∧ I (6 + b) 3 = S (56 + b) := hbk
  have hlo : ∀ m b : Nat, m < (S 19).toNat → b < (S 20).toNat → I (20 + m) b = sp_like S m b ∧ I (27 + m) b = sp_odds S m b := hlo
  have hmem : c_mems D I ρ 4 S := hmem
  have hρc : ρ 1 5 = some c := hρc
  have hh := hh0
  have h19 := r_ok_19 hok
  have hokx := hok
  obtain ⟨o0, oG, oH, oD, o19, o20, o21, o22, o23, o24, oK, oV, oP, oM, oS, oY, oHd, oT, oC, oN⟩ := hok
  have hok := hokx
  refine am_e_ss 7 (q := (9, [(0, .inr (.inr (.inl (some 0)))), (1, .inl m), (2, .inl a), (3, .inl x)], [.inl m, .inr (.inr (.inl (some 0)))], (am_mm D (am_up I 99 0 0) J ρ))) rfl ?_
  refine am_e_virtual (Q := fun r => r = (some (.inl ((am_bi (0 ≤ m ∧ m ≤ S 19 - 1)))), (am_mm D (am_up I 99 0 0) J ρ))) rfl rfl (Nat.le_of_ble_eq_true rfl) rfl rfl (Nat.le_of_ble_eq_true rfl) (Nat.le_of_ble_eq_true rfl) (c_isMember _ (v := m) hok ⟨by omega, by omega⟩ h12) ?_
  rintro r rfl
  show am_E _ _ _ 12 [(0, .inr (.inr (.inl (some 0)))), (1, .inl m), (2, .inl a), (3, .inl x)] [.inl ((am_bi (0 ≤ m ∧ m ≤ S 19 - 1)))] (am_mm D (am_up I 99 0 0) J ρ) _
  refine am_e_ifne rfl (fun hw1 => ?_) (fun hw1 => ?_)
  · show am_E _ _ _ 17 [(0, .inr (.inr (.inl (some 0)))), (1, .inl m), (2, .inl a), (3, .inl x)] [] (am_mm D (am_up I 99 0 0) J ρ) _
    obtain ⟨k, hρk, hk124, hsk, hk0, hk1, hk2⟩ := hmem (m).toNat (by omega)
    have oKm := oK (m).toNat (by omega)
    have oKm0 := oKm
    have oVm := oV (m).toNat (by omega)
    have e26 : 26 + (m).toNat = (26 + m).toNat := by omega
    have e32 : 32 + (m).toNat = (32 + m).toNat := by omega
    rw [e26] at hk0 oKm
    rw [e32] at hk2 oVm
    have g1 : (am_up I 99 0 0) k 1 = m := (if_neg (by omega)).trans (hk1.trans (by omega))
    have g2 : (am_up I 99 0 0) k 2 = S (32 + m).toNat := (if_neg (by omega)).trans hk2
    have hn : (am_up I 99 0 0) 99 0 = ((0 : Nat) : Int) := rfl
    have eK : (((S (26 + (m).toNat)).toNat : Nat) : Int) = S (26 + m).toNat := by rw [e26]; omega
    refine am_e_ss 1 (q := (18, [(0, .inr (.inr (.inl (some 0)))), (1, .inl m), (2, .inl a), (3, .inl x)], [.inl a], (am_mm D (am_up I 99 0 0) J ρ))) rfl ?_
    rcases (show a < 0 ∨ a = 0 ∨ a = 1 ∨ a = 2 ∨ 2 < a by omega) with hw2 | hw2 | hw2 | hw2 | hw2
    · refine am_e_tabOut (t := 98) rfl ⟨by omega, by omega⟩ (by omega) rfl ?_
      refine am_e_ss 1 (q := (99, [(0, .inr (.inr (.inl (some 0)))), (1, .inl m), (2, .inl a), (3, .inl x)], [.inl 0], (am_mm D (am_up I 99 0 0) J ρ))) rfl ?_
      refine am_e_ireturn rfl rfl ?_
      rw [show c_actl S m a x = (0, []) by (unfold c_actl; rw [if_neg (by omega)]), c_bg_nil]
    · refine am_e_tabIn (t := 44) (off := 26) rfl ⟨by omega, by omega⟩ (by omega) (by rw [hw2]; rfl) rfl ?_
      refine am_e_ss 4 (q := (52, [(0, .inr (.inr (.inl (some 0)))), (1, .inl m), (2, .inl a), (3, .inl x)], [.inl m, .inr (.inr (.inl (some 4)))], (am_mm D (am_up I 99 0 0) J ρ))) rfl ?_
      refine am_e_aaload (m := 6) (c := 24) rfl rfl (by decide) (by omega) (by omega) (by omega) ?_
      rw [show ((am_mm D (am_up I 99 0 0) J ρ)).2.2.2 4 (m).toNat = some k from (show am_Rf ρ 4 (m).toNat = some k from hρk)]
      show am_E _ _ _ 53 [(0, .inr (.inr (.inl (some 0)))), (1, .inl m), (2, .inl a), (3, .inl x)] [.inr (.inr (.inl (some k)))] (am_mm D (am_up I 99 0 0) J ρ) _
      refine am_e_ss 3 (q := (58, [(0, .inr (.inr (.inl (some 0)))), (1, .inl m), (2, .inl a), (3, .inl x)], [.inr (.inr (.inl (some 99))), .inl x, .inr (.inr (.inl (some k)))], (am_mm D (am_up I 99 0 0) J ρ))) rfl ?_
      refine am_e_vm (K := (S (26 + (m).toNat)).toNat) (tg := (am_tg [38, 44, 38, 38, 44, 63, 38])) (N := 3) (Q := fun r => ∃ Q258, r = (some (.inl ((sp_wish ((S (26 + (m).toNat)).toNat : Int) m x).1)), (am_mm D (c_bg (am_up I 99 0 0) 0 (sp_wish ((S (26 + (m).toNat)).toNat : Int) m x).2) J ρ)) ∧ True) rfl rfl (Nat.le_of_ble_eq_true rfl) hsk (by omega) (by decide) (Nat.le_of_ble_eq_true rfl) (Nat.le_of_ble_eq_true rfl) (by decide) ((m_wish _ (n := 0) (by omega) hsk hk124 g1 hn (by omega)).imp (fun q h => ⟨I, h, True.intro⟩)) ?_
      rintro r ⟨Q258, rfl, -⟩
      show am_E _ _ _ 61 [(0, .inr (.inr (.inl (some 0)))), (1, .inl m), (2, .inl a), (3, .inl x)] [.inl ((sp_wish ((S (26 + (m).toNat)).toNat : Int) m x).1)] (am_mm D (c_bg (am_up I 99 0 0) 0 (sp_wish ((S (26 + (m).toNat)).toNat : Int) m x).2) J ρ) _
      refine am_e_ireturn rfl rfl ?_
      rw [eK, show c_actl S m a x = sp_wish (S (26 + m).toNat) m x by (unfold c_actl sp_act; rw [if_pos (by omega), if_pos (by omega)])]
    · refine am_e_tabIn (t := 62) (off := 44) rfl ⟨by omega, by omega⟩ (by omega) (by rw [hw2]; rfl) rfl ?_
      refine am_e_ss 4 (q := (70, [(0, .inr (.inr (.inl (some 0)))), (1, .inl m), (2, .inl a), (3, .inl x)], [.inl m, .inr (.inr (.inl (some 4)))], (am_mm D (am_up I 99 0 0) J ρ))) rfl ?_
      refine am_e_aaload (m := 6) (c := 24) rfl rfl (by decide) (by omega) (by omega) (by omega) ?_
      rw [show ((am_mm D (am_up I 99 0 0) J ρ)).2.2.2 4 (m).toNat = some k from (show am_Rf ρ 4 (m).toNat = some k from hρk)]
      show am_E _ _ _ 71 [(0, .inr (.inr (.inl (some 0)))), (1, .inl m), (2, .inl a), (3, .inl x)] [.inr (.inr (.inl (some k)))] (am_mm D (am_up I 99 0 0) J ρ) _
      refine am_e_ss 3 (q := (76, [(0, .inr (.inr (.inl (some 0)))), (1, .inl m), (2, .inl a), (3, .inl x)], [.inr (.inr (.inl (some 99))), .inl x, .inr (.inr (.inl (some k)))], (am_mm D (am_up I 99 0 0) J ρ))) rfl ?_
      refine am_e_vm (K := (S (26 + (m).toNat)).toNat) (tg := (am_tg [39, 39, 47, 39, 39, 47, 4])) (N := 3) (Q := fun r => ∃ Q259, r = (some (.inl ((sp_rd ((S (26 + (m).toNat)).toNat : Int) m (S (32 + m).toNat) x).1)), (am_mm D (c_bg (am_up I 99 0 0) 0 (sp_rd ((S (26 + (m).toNat)).toNat : Int) m (S (32 + m).toNat) x).2) J ρ)) ∧ True) rfl rfl (Nat.le_of_ble_eq_true rfl) hsk (by omega) (by decide) (Nat.le_of_ble_eq_true rfl) (Nat.le_of_ble_eq_true rfl) (by decide) ((m_read _ (n := 0) (by omega) hsk hk124 g1 g2 hn (by omega)).imp (fun q h => ⟨I, h, True.intro⟩)) ?_
      rintro r ⟨Q259, rfl, -⟩
      show am_E _ _ _ 79 [(0, .inr (.inr (.inl (some 0)))), (1, .inl m), (2, .inl a), (3, .inl x)] [.inl ((sp_rd ((S (26 + (m).toNat)).toNat : Int) m (S (32 + m).toNat) x).1)] (am_mm D (c_bg (am_up I 99 0 0) 0 (sp_rd ((S (26 + (m).toNat)).toNat : Int) m (S (32 + m).toNat) x).2) J ρ) _
      refine am_e_ireturn rfl rfl ?_
      rw [eK, show c_actl S m a x = sp_rd (S (26 + m).toNat) m (S (32 + m).toNat) x by (unfold c_actl sp_act; rw [if_pos (by omega), if_neg (by omega), if_pos (by omega)])]
    · refine am_e_tabIn (t := 80) (off := 62) rfl ⟨by omega, by omega⟩ (by omega) (by rw [hw2]; rfl) rfl ?_
      refine am_e_ss 4 (q := (88, [(0, .inr (.inr (.inl (some 0)))), (1, .inl m), (2, .inl a), (3, .inl x)], [.inl m, .inr (.inr (.inl (some 4)))], (am_mm D (am_up I 99 0 0) J ρ))) rfl ?_
      refine am_e_aaload (m := 6) (c := 24) rfl rfl (by decide) (by omega) (by omega) (by omega) ?_
      rw [show ((am_mm D (am_up I 99 0 0) J ρ)).2.2.2 4 (m).toNat = some k from (show am_Rf ρ 4 (m).toNat = some k from hρk)]
      show am_E _ _ _ 89 [(0, .inr (.inr (.inl (some 0)))), (1, .inl m), (2, .inl a), (3, .inl x)] [.inr (.inr (.inl (some k)))] (am_mm D (am_up I 99 0 0) J ρ) _
      refine am_e_ss 3 (q := (94, [(0, .inr (.inr (.inl (some 0)))), (1, .inl m), (2, .inl a), (3, .inl x)], [.inr (.inr (.inl (some 99))), .inl x, .inr (.inr (.inl (some k)))], (am_mm D (am_up I 99 0 0) J ρ))) rfl ?_
      refine am_e_vm (K := (S (26 + (m).toNat)).toNat) (tg := (am_tg [40, 40, 40, 60, 23, 40, 60])) (N := 3) (Q := fun r => ∃ Q260, r = (some (.inl ((sp_tk ((S (26 + (m).toNat)).toNat : Int) m (S (32 + m).toNat) x).1)), (am_mm D (c_bg (am_up I 99 0 0) 0 (sp_tk ((S (26 + (m).toNat)).toNat : Int) m (S (32 + m).toNat) x).2) J ρ)) ∧ True) rfl rfl (Nat.le_of_ble_eq_true rfl) hsk (by omega) (by decide) (Nat.le_of_ble_eq_true rfl) (Nat.le_of_ble_eq_true rfl) (by decide) ((m_talk _ (n := 0) (by omega) hsk hk124 g1 g2 hn (by omega)).imp (fun q h => ⟨I, h, True.intro⟩)) ?_
      rintro r ⟨Q260, rfl, -⟩
      show am_E _ _ _ 97 [(0, .inr (.inr (.inl (some 0)))), (1, .inl m), (2, .inl a), (3, .inl x)] [.inl ((sp_tk ((S (26 + (m).toNat)).toNat : Int) m (S (32 + m).toNat) x).1)] (am_mm D (c_bg (am_up I 99 0 0) 0 (sp_tk ((S (26 + (m).toNat)).toNat : Int) m (S (32 + m).toNat) x).2) J ρ) _
      refine am_e_ireturn rfl rfl ?_
      rw [eK, show c_actl S m a x = sp_tk (S (26 + m).toNat) m (S (32 + m).toNat) x by (unfold c_actl sp_act; rw [if_pos (by omega), if_neg (by omega), if_neg (by omega)])]
    · refine am_e_tabOut (t := 98) rfl ⟨by omega, by omega⟩ (by omega) rfl ?_
      refine am_e_ss 1 (q := (99, [(0, .inr (.inr (.inl (some 0)))), (1, .inl m), (2, .inl a), (3, .inl x)], [.inl 0], (am_mm D (am_up I 99 0 0) J ρ))) rfl ?_
      refine am_e_ireturn rfl rfl ?_
      rw [show c_actl S m a x = (0, []) by (unfold c_actl; rw [if_neg (by omega)]), c_bg_nil]
  · show am_E _ _ _ 15 [(0, .inr (.inr (.inl (some 0)))), (1, .inl m), (2, .inl a), (3, .inl x)] [] (am_mm D (am_up I 99 0 0) J ρ) _
    refine am_e_ss 1 (q := (16, [(0, .inr (.inr (.inl (some 0)))), (1, .inl m), (2, .inl a), (3, .inl x)], [.inl 0], (am_mm D (am_up I 99 0 0) J ρ))) rfl ?_
    refine am_e_ireturn rfl rfl ?_
    rw [show c_actl S m a x = (0, []) by (unfold c_actl; rw [if_neg (by omega)]), c_bg_nil]
theorem c_as {X : Nat × (Nat → Int)} {D : List (Nat × Nat)} {I J : Nat → Nat → Int} {ρ : Nat → Nat → Option Nat} (d : Nat) {S : Nat → Int} {B : Int} (hok : r_ok S B) (hwf : sp_wfS S) (hh : c_hall D I ρ 0 S) {m q : Int} (hm : -2147483648 ≤ m ∧ m < 2147483648) (hq : -2147483648 ≤ q ∧ q < 2147483648) : am_E X (d + 1) 118 0 [(0, .inr (.inr (.inl (some 0)))), (1, .inl m), (2, .inl q)] [] (am_mm D I J ρ) (fun r => r = (some (.inl ((sp_as S m q))), (am_mm D I J ρ))) := by
  have hh0 := hh
  obtain ⟨⟨h12, h14, h16, h18, h110⟩, ⟨hr0, hhr, hhd, hgl⟩, ⟨htp, hhn⟩, hbk, hlo, hmem, c, hρc, ⟨hsc0, hcc, hc0, hcs⟩⟩ := hh
  have hsc : (am_S ++ D)[c]? = some (1, 10) := hsc0.1.1
  have h12 : I 1 2 = S 19 := h12
  have h14 : I 1 4 = S 20 := h14
  have h16 : I 1 6 = S 21 := h16
  have h18 : I 1 8 = S 23 := h18
  have h110 : I 1 10 = S 22 := h110
  have hr0 : I 2 0 = S 0 := hr0
  have hhr : I 2 1 = am_bits (sp_hp S) 6 := hhr
  have hhd : I 2 2 = am_bits (sp_dp S) 6 := hhd
  have hgl : ∀ m, m < (S 19).toNat → I 3 m = S (1 + m) := hgl
  have htp : ∀ i, i < (S 23).toNat → I 17 i = S (68 + i) := htp
  have hhn : ∀ i, i < (S 22).toNat → I 18 i = S (62 + i) := hhn
  have hbk : ∀ b, b < (S 20).toNat → I (6 + b) 0 = S (38 + b) ∧ I (6 + b) 1 = S (44 + b) ∧ I (6 + b) 2 = S (50 + b) ∧ I (6 + b) 3 = S (56 + b) := hbk
  have hlo : ∀ m b : Nat, m < (S 19).toNat → b < (S 20).toNat → I (20 + m) b = sp_like S m b ∧ I (27 + m) b = sp_odds S m b := hlo
  have hmem : c_mems D I ρ 4 S := hmem
  have hρc : ρ 1 5 = some c := hρc
  have hh := hh0
  have h19 := r_ok_19 hok
  have hokx := hok
  obtain ⟨o0, oG, oH, oD, o19, o20, o21, o22, o23, o24, oK, oV, oP, oM, oS, oY, oHd, oT, oC, oN⟩ := hok
  have hok := hokx
  refine am_e_ss 2 (q := (2, [(0, .inr (.inr (.inl (some 0)))), (1, .inl m), (2, .inl q)], [.inl m, .inr (.inr (.inl (some 0)))], (am_mm D I J ρ))) rfl ?_
  refine am_e_virtual (Q := fun r => r = (some (.inl ((am_bi (0 ≤ m ∧ m ≤ S 19 - 1)))), (am_mm D I J ρ))) rfl rfl (Nat.le_of_ble_eq_true rfl) rfl rfl (Nat.le_of_ble_eq_true rfl) (Nat.le_of_ble_eq_true rfl) (c_isMember _ (v := m) hok ⟨by omega, by omega⟩ h12) ?_
  rintro r rfl
  show am_E _ _ _ 5 [(0, .inr (.inr (.inl (some 0)))), (1, .inl m), (2, .inl q)] [.inl ((am_bi (0 ≤ m ∧ m ≤ S 19 - 1)))] (am_mm D I J ρ) _
  refine am_e_ifeq rfl (fun hw1 => ?_) (fun hw1 => ?_)
  · show am_E _ _ _ 18 [(0, .inr (.inr (.inl (some 0)))), (1, .inl m), (2, .inl q)] [] (am_mm D I J ρ) _
    refine am_e_ss 1 (q := (19, [(0, .inr (.inr (.inl (some 0)))), (1, .inl m), (2, .inl q)], [.inl (-1)], (am_mm D I J ρ))) rfl ?_
    refine am_e_ireturn rfl rfl ?_
    rw [show sp_as S m q = -1 by (unfold sp_as; (repeat' split) <;> first | rfl | (exfalso; omega))]
  · show am_E _ _ _ 8 [(0, .inr (.inr (.inl (some 0)))), (1, .inl m), (2, .inl q)] [] (am_mm D I J ρ) _
    refine am_e_ss 1 (q := (9, [(0, .inr (.inr (.inl (some 0)))), (1, .inl m), (2, .inl q)], [.inl q], (am_mm D I J ρ))) rfl ?_
    refine am_e_if2 rfl ⟨by omega, by omega⟩ (fun (hw2 : q < 0) => ?_) (fun (hw2 : ¬ (q < 0)) => ?_)
    · show am_E _ _ _ 18 [(0, .inr (.inr (.inl (some 0)))), (1, .inl m), (2, .inl q)] [] (am_mm D I J ρ) _
      refine am_e_ss 1 (q := (19, [(0, .inr (.inr (.inl (some 0)))), (1, .inl m), (2, .inl q)], [.inl (-1)], (am_mm D I J ρ))) rfl ?_
      refine am_e_ireturn rfl rfl ?_
      rw [show sp_as S m q = -1 by (unfold sp_as; (repeat' split) <;> first | rfl | (exfalso; omega))]
    · show am_E _ _ _ 12 [(0, .inr (.inr (.inl (some 0)))), (1, .inl m), (2, .inl q)] [] (am_mm D I J ρ) _
      refine am_e_ss 2 (q := (15, [(0, .inr (.inr (.inl (some 0)))), (1, .inl m), (2, .inl q)], [.inl 7, .inl q], (am_mm D I J ρ))) rfl ?_
      refine am_e_icmp2 rfl ⟨by omega, by omega⟩ ⟨by omega, by omega⟩ (fun (hw3 : q < 7) => ?_) (fun (hw3 : ¬ (q < 7)) => ?_)
      · show am_E _ _ _ 20 [(0, .inr (.inr (.inl (some 0)))), (1, .inl m), (2, .inl q)] [] (am_mm D I J ρ) _
        obtain ⟨k, hρk, hk124, hsk, hk0, hk1, hk2⟩ := hmem (m).toNat (by omega)
        have oKm := oK (m).toNat (by omega)
        have oKm0 := oKm
        have oVm := oV (m).toNat (by omega)
        have e26 : 26 + (m).toNat = (26 + m).toNat := by omega
        have e32 : 32 + (m).toNat = (32 + m).toNat := by omega
        rw [e26] at hk0 oKm
        rw [e32] at hk2 oVm
        have eK : (((S (26 + (m).toNat)).toNat : Nat) : Int) = S (26 + m).toNat := by rw [e26]; omega
        have g0 : I k 0 = (((S (26 + (m).toNat)).toNat : Nat) : Int) := hk0.trans eK.symm
        refine am_e_ss 4 (q := (28, [(0, .inr (.inr (.inl (some 0)))), (1, .inl m), (2, .inl q)], [.inl m, .inr (.inr (.inl (some 4)))], (am_mm D I J ρ))) rfl ?_
        refine am_e_aaload (m := 6) (c := 24) rfl rfl (by decide) (by omega) (by omega) (by omega) ?_
        rw [show ((am_mm D I J ρ)).2.2.2 4 (m).toNat = some k from (show am_Rf ρ 4 (m).toNat = some k from hρk)]
        show am_E _ _ _ 29 [(0, .inr (.inr (.inl (some 0)))), (1, .inl m), (2, .inl q)] [.inr (.inr (.inl (some k)))] (am_mm D I J ρ) _
        refine am_e_ss 3 (q := (32, [(3, .inr (.inr (.inl (some k)))), (0, .inr (.inr (.inl (some 0)))), (1, .inl m), (2, .inl q)], [.inl q, .inr (.inr (.inl (some k)))], (am_mm D I J ρ))) rfl ?_
        refine am_e_vm (K := (S (26 + (m).toNat)).toNat) (tg := (am_tg [33, 33, 33, 33, 33, 33, 33])) (N := 2) (Q := fun r => ∃ Q261, r = (some (.inl ((am_bi (q = 0 ∨ q = ((S (26 + (m).toNat)).toNat : Int) ∨ (0 < q ∧ q < 4 ∧ ((S (26 + (m).toNat)).toNat : Int) = q + 3))))), (am_mm D I J ρ)) ∧ True) rfl rfl (Nat.le_of_ble_eq_true rfl) hsk (by omega) (by decide) (Nat.le_of_ble_eq_true rfl) (Nat.le_of_ble_eq_true rfl) (by decide) ((m_kind _ (K := (S (26 + (m).toNat)).toNat) (q := q) (by omega) hsk hk124 ⟨by omega, by omega⟩ g0).imp (fun q h => ⟨I, h, True.intro⟩)) ?_
        rintro r ⟨Q261, rfl, -⟩
        show am_E _ _ _ 35 [(3, .inr (.inr (.inl (some k)))), (0, .inr (.inr (.inl (some 0)))), (1, .inl m), (2, .inl q)] [.inl ((am_bi (q = 0 ∨ q = ((S (26 + (m).toNat)).toNat : Int) ∨ (0 < q ∧ q < 4 ∧ ((S (26 + (m).toNat)).toNat : Int) = q + 3))))] (am_mm D I J ρ) _
        refine am_e_ifeq rfl (fun hw4 => ?_) (fun hw4 => ?_)
        · show am_E _ _ _ 45 [(3, .inr (.inr (.inl (some k)))), (0, .inr (.inr (.inl (some 0)))), (1, .inl m), (2, .inl q)] [] (am_mm D I J ρ) _
          refine am_e_ss 1 (q := (47, [(3, .inr (.inr (.inl (some k)))), (0, .inr (.inr (.inl (some 0)))), (1, .inl m), (2, .inl q)], [.inl (-6)], (am_mm D I J ρ))) rfl ?_
          refine am_e_ireturn rfl rfl ?_
          have ev : sp_as S m q = (-6) := by
            unfold sp_as
            rw [if_neg (by omega), if_neg (by omega)]
            rw [if_neg (by omega)]
          rw [ev]
        · show am_E _ _ _ 38 [(3, .inr (.inr (.inl (some k)))), (0, .inr (.inr (.inl (some 0)))), (1, .inl m), (2, .inl q)] [] (am_mm D I J ρ) _
          refine am_e_ss 1 (q := (39, [(3, .inr (.inr (.inl (some k)))), (0, .inr (.inr (.inl (some 0)))), (1, .inl m), (2, .inl q)], [.inr (.inr (.inl (some k)))], (am_mm D I J ρ))) rfl ?_
          refine am_e_gm (K := (S (26 + (m).toNat)).toNat) (f := 2) rfl hsk (by omega) (by decide) (by decide) (by decide) ?_
          show am_E _ _ _ 42 [(3, .inr (.inr (.inl (some k)))), (0, .inr (.inr (.inl (some 0)))), (1, .inl m), (2, .inl q)] [.inl ((I k 2))] (am_mm D I J ρ) _
          refine am_e_ss 1 (q := (47, [(3, .inr (.inr (.inl (some k)))), (0, .inr (.inr (.inl (some 0)))), (1, .inl m), (2, .inl q)], [.inl ((I k 2))], (am_mm D I J ρ))) rfl ?_
          refine am_e_ireturn rfl rfl ?_
          have ev : sp_as S m q = (I k 2) := by
            unfold sp_as
            rw [if_neg (by omega), if_neg (by omega)]
            rw [if_pos (by omega)]
            exact hk2.symm
          rw [ev]
      · show am_E _ _ _ 18 [(0, .inr (.inr (.inl (some 0)))), (1, .inl m), (2, .inl q)] [] (am_mm D I J ρ) _
        refine am_e_ss 1 (q := (19, [(0, .inr (.inr (.inl (some 0)))), (1, .inl m), (2, .inl q)], [.inl (-1)], (am_mm D I J ρ))) rfl ?_
        refine am_e_ireturn rfl rfl ?_
        rw [show sp_as S m q = -1 by (unfold sp_as; (repeat' split) <;> first | rfl | (exfalso; omega))]
