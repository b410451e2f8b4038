theorem c_silence_3 {X : Nat × (Nat → Int)} {D : List (Nat × Nat)} {I J : Nat → Nat → Int} {ρ : Nat → Nat → Option Nat} (d : Nat) {S : Nat → Int} {B : Int} {VL : Nat → List Nat} (hok : r_ok S B) (hm : 3 < (S 19).toNat) (h3 : I 71 3 = sp_ops S) (hvoi : c_voi I VL (S 19).toNat) (hv : sp_vcs S VL)  : am_E X (d + 1) 83 0 [(0, .inr (.inr (.inl (some 71)))), (1, .inl 3)] [] (am_mm D I J ρ) (fun r => ∃ Q, r = (none, am_mm D (am_wp uW I Q) J ρ) ∧ Q 71 6 = am_bits (sp_spk (sp_set VL 3 []) (S 19).toNat) 6 ∧ c_tal Q (sp_set VL 3 []) (S 19).toNat ∧ (∀ i, i < 6 → Q 98 i = I 84 i) ∧ (∀ j, j < 6 → ∀ i, Q (81 + j) i = I (81 + j) i)) := by
  have h19 := r_ok_19 hok
  have ob := sp_ops_b hok
  refine am_e_ss 9 (q := (14, [(0, .inr (.inr (.inl (some 71)))), (1, .inl 3)], [.inl 6, .inl 0, .inr (.inr (.inl (some 98))), .inl 0, .inr (.inr (.inl (some 84)))], (am_mm D I J ρ))) rfl ?_
  refine am_e_cp (k := 98) (q := 84) (a := 6) (b := 6) (dp := 0) (sp := 0) (n' := 6) rfl rfl rfl rfl rfl (by decide) (by decide) (by decide) (Nat.le_of_ble_eq_true rfl) ?_
  show am_E _ _ _ 17 [(0, .inr (.inr (.inl (some 71)))), (1, .inl 3)] [] (am_mm D (am_cpg I 98 0 84 0 6) J ρ) _
  refine am_e_ss 2 (q := (19, [(0, .inr (.inr (.inl (some 71)))), (1, .inl 3)], [.inl 3, .inr (.inr (.inl (some 71)))], (am_mm D (am_cpg I 98 0 84 0 6) J ρ))) rfl ?_
  refine am_e_virtual (Q := fun r => r = (some (.inl ((am_bi (sp_spk VL (S 19).toNat 3 = true)))), (am_mm D (am_cpg I 98 0 84 0 6) J ρ))) rfl rfl (Nat.le_of_ble_eq_true rfl) rfl rfl (Nat.le_of_ble_eq_true rfl) (Nat.le_of_ble_eq_true rfl) (c_speaks _ (m := 3) (p := sp_spk VL (S 19).toNat) hvoi.1 (by omega)) ?_
  rintro r rfl
  show am_E _ _ _ 22 [(0, .inr (.inr (.inl (some 71)))), (1, .inl 3)] [.inl ((am_bi (sp_spk VL (S 19).toNat 3 = true)))] (am_mm D (am_cpg I 98 0 84 0 6) J ρ) _
  refine am_e_ifeq rfl (fun hw1 => ?_) (fun hw1 => ?_)
  · show am_E _ _ _ 50 [(0, .inr (.inr (.inl (some 71)))), (1, .inl 3)] [] (am_mm D (am_cpg I 98 0 84 0 6) J ρ) _
    refine am_e_return rfl rfl ?_
    have hse : (sp_set VL 3 []) = VL := by
      have e : VL 3 = [] := by
        cases hL : VL 3 with
        | nil => rfl
        | cons a r => exact absurd (show sp_spk VL (S 19).toNat 3 = true by unfold sp_spk; rw [hL]; simp; omega) (by assumption)
      rw [← e]
      exact sp_set_self
    refine ⟨_, am_r_wp uW (am_k_cpg (fun _ => rfl) (am_k_id)), ?_, ?_, ?_, ?_⟩
    · show I 71 6 = _
      rw [hvoi.1, hse]
    · rw [hse]
      exact ⟨hvoi.2.2.1, fun a b ha hb => (if_neg (by omega)).trans (hvoi.2.2.2 a b ha hb)⟩
    · intro i hi
      show am_cpg I 98 0 84 0 6 98 i = _
      refine (if_pos ⟨rfl, by omega, by omega⟩).trans ?_
      congr 1
      omega
    · intro j hj i
      exact if_neg (by omega)
  · show am_E _ _ _ 25 [(0, .inr (.inr (.inl (some 71)))), (1, .inl 3)] [] (am_mm D (am_cpg I 98 0 84 0 6) J ρ) _
    have hne : ¬ VL 3 = [] := by
      intro e
      have h : sp_spk VL (S 19).toNat 3 = true := by assumption
      unfold sp_spk at h
      simp [e] at h
    obtain ⟨hnd, hlen, hmm⟩ : (VL 3).Nodup ∧ ((VL 3).length : Int) = sp_ops S ∧ ∀ x, x ∈ VL 3 ↔ (x < (S 20).toNat ∧ S (13 + x) = 0) := by
      rcases (hv 3 hm).1 with h | h
      · exact absurd h hne
      · exact ⟨h.1, h.2.1.1, h.2.2⟩
    have hx6 : ∀ x ∈ VL 3, x < 6 := fun x hx => by have := (hmm x).mp hx; omega
    refine am_e_ss 16 (q := (47, [(0, .inr (.inr (.inl (some 71)))), (1, .inl 3)], [.inl (-1), .inr (.inr (.inl (some 84))), .inr (.inr (.inl (some 71)))], (am_mm D (am_up (am_cpg I 98 0 84 0 6) 71 6 (Int32.ofInt (I 71 6) &&& Int32.ofInt (Int32.ofInt (Int32.ofInt 1 <<< (Int32.ofInt 3 &&& 31)).toInt ^^^ Int32.ofInt (-1)).toInt).toInt) J ρ))) rfl ?_
    refine am_e_virtual (Q := fun r => ∃ Q180, r = (none, (am_mm D (am_wp uT (am_up (am_cpg I 98 0 84 0 6) 71 6 (Int32.ofInt (I 71 6) &&& Int32.ofInt (Int32.ofInt (Int32.ofInt 1 <<< (Int32.ofInt 3 &&& 31)).toInt ^^^ Int32.ofInt (-1)).toInt).toInt) Q180) J ρ)) ∧ c_talQ (am_up (am_cpg I 98 0 84 0 6) 71 6 (Int32.ofInt (I 71 6) &&& Int32.ofInt (Int32.ofInt (Int32.ofInt 1 <<< (Int32.ofInt 3 &&& 31)).toInt ^^^ Int32.ofInt (-1)).toInt).toInt) Q180 (-1) (VL 3)) rfl rfl (Nat.le_of_ble_eq_true rfl) rfl rfl (Nat.le_of_ble_eq_true rfl) (Nat.le_of_ble_eq_true rfl) (c_tally_84 _ (z := (-1)) (L := VL 3) (Or.inr rfl) (h3.trans hlen.symm) (by omega) hnd hx6 (hvoi.2.1 3 hm hne)) ?_
    rintro r ⟨Q180, rfl, htqm⟩
    show am_E _ _ _ 50 [(0, .inr (.inr (.inl (some 71)))), (1, .inl 3)] [] (am_mm D (am_wp uT (am_up (am_cpg I 98 0 84 0 6) 71 6 (Int32.ofInt (I 71 6) &&& Int32.ofInt (Int32.ofInt (Int32.ofInt 1 <<< (Int32.ofInt 3 &&& 31)).toInt ^^^ Int32.ofInt (-1)).toInt).toInt) Q180) J ρ) _
    refine am_e_return rfl rfl ?_
    refine ⟨_, am_r_wp uW (am_k_wp (uT_uW) (am_k_up rfl (am_k_cpg (fun _ => rfl) (am_k_id)))), ?_, ?_, ?_, ?_⟩
    · show (Int32.ofInt (I 71 6) &&& Int32.ofInt (Int32.ofInt (Int32.ofInt 1 <<< (Int32.ofInt 3 &&& 31)).toInt ^^^ Int32.ofInt (-1)).toInt).toInt = _
      rw [hvoi.1]
      refine (am_bits_clr _ 3 (by omega)).trans ?_
      exact am_bits_cg 6 (fun x _ => (sp_spk_set0 x).symm)
    · have h0 : c_tal (am_up (am_cpg I 98 0 84 0 6) 71 6 (Int32.ofInt (I 71 6) &&& Int32.ofInt (Int32.ofInt (Int32.ofInt 1 <<< (Int32.ofInt 3 &&& 31)).toInt ^^^ Int32.ofInt (-1)).toInt).toInt) (sp_set VL 3 (VL 3)) (S 19).toNat := by
        rw [sp_set_self]
        exact ⟨hvoi.2.2.1, fun a b ha hb => (am_up_ne2 (by omega)).trans ((if_neg (by omega)).trans (hvoi.2.2.2 a b ha hb))⟩
      have h1 := c_tal_sub h0 hm htqm
      exact ⟨h1.1, fun a b ha hb => (am_wp_in (by rcases (show a = 0 ∨ a = 1 ∨ a = 2 ∨ a = 3 ∨ a = 4 ∨ a = 5 by omega) with rfl | rfl | rfl | rfl | rfl | rfl <;> rfl)).trans (h1.2 a b ha hb)⟩
    · intro i hi
      show am_cpg I 98 0 84 0 6 98 i = _
      refine (if_pos ⟨rfl, by omega, by omega⟩).trans ?_
      congr 1
      omega
    · intro j hj i
      exact (am_wp_off (by rcases (show j = 0 ∨ j = 1 ∨ j = 2 ∨ j = 3 ∨ j = 4 ∨ j = 5 by omega) with rfl | rfl | rfl | rfl | rfl | rfl <;> rfl)).trans ((am_up_ne2 (by omega)).trans (if_neg (by omega)))
theorem c_tell_3_l {X : Nat × (Nat → Int)} {D : List (Nat × Nat)} {I J : Nat → Nat → Int} {ρ : Nat → Nat → Option Nat} (d : Nat) {S : Nat → Int} {B way g : Int} {VL : Nat → List Nat} (hok : r_ok S B) (hwf : sp_wfS S) (hm : 3 < (S 19).toNat) (hh : S (7 + 3) = 0) (hway : 0 ≤ way ∧ way ≤ 5) (hg : g = 0 ∨ g = 1) (h5 : sp_ops S ≤ 5) (h71 : ρ 71 1 = some 2) (h12 : I 1 2 = S 19) (hr0 : I 2 0 = S 0) (hhr : I 2 1 = am_bits (sp_hp S) 6) (hlk : ∀ b : Nat, b < (S 20).toNat → I 23 b = sp_like S (3 : Int) b) (hord : c_ords I S) (hv : sp_vcs S VL) (ho : ¬ sp_ops S = 0) {sp fnd more res : Int} {rr : Nat} {q : List Nat} {rs : List (List Nat)} (hsp : (sp = 1 ∧ sp_spk VL (S 19).toNat 3 = true) ∨ (sp = 0 ∧ ¬ sp_spk VL (S 19).toNat 3 = true)) (ht6 : I 71 6 = am_bits (fun x => sp_spk (sp_set VL 3 []) (S 19).toNat x || x == 3) 6) (htal : c_tal I (sp_set VL 3 []) (S 19).toNat) (hrows : ∀ j, j < (S 19).toNat → ¬ VL j = [] → j ≠ 3 → am_rowl (I (81 + j)) 0 (VL j)) (h98 : ¬ VL 3 = [] → am_rowl (I 98) 0 (VL 3)) (hst : (more = 1 ∧ fnd = -5 ∧ res = sp_ff1 g (sp_cho S VL way) (fun x => sp_like S (3 : Int) x) (fun p => sp_cho S (sp_set VL 3 p) way) (q :: rs) ∧ nx_ch (q :: rs) = true ∧ am_rowl (I 97) 0 q ∧ rr + rs.length < 120 ∧ ∀ p ∈ q :: rs, sp_voice S p ∧ ¬ p = []) ∨ ((more = 0 ∨ (more = 1 ∧ ¬ fnd = -5)) ∧ res = fnd ∧ rr ≤ 120 ∧ (fnd = -5 ∨ (0 ≤ fnd ∧ fnd ≤ 5))))  : am_E X (d + 5) 82 64 [(9, .inl (rr : Int)), (8, .inl more), (7, .inl fnd), (6, .inr (.inr (.inl (some 23)))), (5, .inl sp), (4, .inl ((sp_cho S VL way))), (3, .inl g), (2, .inl way), (1, .inl 3), (0, .inr (.inr (.inl (some 71))))] [] (am_mm D I J ρ) (fun r => ∃ Q, r = (some (.inl res), am_mm D (am_wp uW I Q) J ρ) ∧ c_voi Q VL (S 19).toNat) := by
  have h19 := r_ok_19 hok
  have ob := sp_ops_b hok
  have hord0 := hord
  obtain ⟨h3, hob, hO⟩ := hord
  have hord := hord0
  have h120 : rr ≤ 120 := by rcases hst with h | h <;> omega
  have hmo : more = 0 ∨ more = 1 := by rcases hst with h | h <;> omega
  have hfb : -5 ≤ fnd ∧ fnd ≤ 5 := by rcases hst with h | h <;> omega
  have hub0 := sp_cho_b (way := way) hok (sp_vcs_vo hok hv) ho
  have hnn01 : ∀ q : List Nat, (if nx q = none then (0 : Int) else 1) = 0 ∨ (if nx q = none then (0 : Int) else 1) = 1 := fun q => by split <;> simp
  refine am_e_ss 2 (q := (68, [(9, .inl (rr : Int)), (8, .inl more), (7, .inl fnd), (6, .inr (.inr (.inl (some 23)))), (5, .inl sp), (4, .inl ((sp_cho S VL way))), (3, .inl g), (2, .inl way), (1, .inl 3), (0, .inr (.inr (.inl (some 71))))], [.inl 120, .inl (rr : Int)], (am_mm D I J ρ))) rfl ?_
  refine am_e_icmp2 rfl ⟨by omega, by omega⟩ ⟨by omega, by omega⟩ (fun (hw1 : 120 ≤ (rr : Int)) => ?_) (fun (hw1 : ¬ (120 ≤ (rr : Int))) => ?_)
  · show am_E _ _ _ 173 [(9, .inl (rr : Int)), (8, .inl more), (7, .inl fnd), (6, .inr (.inr (.inl (some 23)))), (5, .inl sp), (4, .inl ((sp_cho S VL way))), (3, .inl g), (2, .inl way), (1, .inl 3), (0, .inr (.inr (.inl (some 71))))] [] (am_mm D I J ρ) _
    refine am_e_ss 19 (q := (201, [(9, .inl (rr : Int)), (8, .inl more), (7, .inl fnd), (6, .inr (.inr (.inl (some 23)))), (5, .inl sp), (4, .inl ((sp_cho S VL way))), (3, .inl g), (2, .inl way), (1, .inl 3), (0, .inr (.inr (.inl (some 71))))], [.inl 6, .inl 0, .inr (.inr (.inl (some 84))), .inl 0, .inr (.inr (.inl (some 98)))], (am_mm D (am_up I 71 6 (Int32.ofInt (I 71 6) &&& Int32.ofInt (Int32.ofInt (Int32.ofInt 1 <<< (Int32.ofInt 3 &&& 31)).toInt ^^^ Int32.ofInt (-1)).toInt).toInt) J ρ))) rfl ?_
    refine am_e_cp (k := 84) (q := 98) (a := 6) (b := 6) (dp := 0) (sp := 0) (n' := 6) rfl rfl rfl rfl rfl (by decide) (by decide) (by decide) (Nat.le_of_ble_eq_true rfl) ?_
    show am_E _ _ _ 204 [(9, .inl (rr : Int)), (8, .inl more), (7, .inl fnd), (6, .inr (.inr (.inl (some 23)))), (5, .inl sp), (4, .inl ((sp_cho S VL way))), (3, .inl g), (2, .inl way), (1, .inl 3), (0, .inr (.inr (.inl (some 71))))] [] (am_mm D (am_cpg (am_up I 71 6 (Int32.ofInt (I 71 6) &&& Int32.ofInt (Int32.ofInt (Int32.ofInt 1 <<< (Int32.ofInt 3 &&& 31)).toInt ^^^ Int32.ofInt (-1)).toInt).toInt) 84 0 98 0 6) J ρ) _
    have hp6 : (Int32.ofInt (I 71 6) &&& Int32.ofInt (Int32.ofInt (Int32.ofInt 1 <<< (Int32.ofInt 3 &&& 31)).toInt ^^^ Int32.ofInt (-1)).toInt).toInt = am_bits (sp_spk (sp_set VL 3 []) (S 19).toNat) 6 := by
      rw [ht6]
      refine (am_bits_clr _ 3 (by omega)).trans ?_
      refine am_bits_cg 6 (fun x _ => ?_)
      rw [sp_spk_set0]
      cases hx : (x == 3) <;> simp
    have hresf : res = fnd := by
      rcases hst with ⟨h1, h2, h3, h4, h5, h6, h7⟩ | h
      · exfalso; omega
      · exact h.2.1
    refine am_e_ss 1 (q := (206, [(9, .inl (rr : Int)), (8, .inl more), (7, .inl fnd), (6, .inr (.inr (.inl (some 23)))), (5, .inl sp), (4, .inl ((sp_cho S VL way))), (3, .inl g), (2, .inl way), (1, .inl 3), (0, .inr (.inr (.inl (some 71))))], [.inl sp], (am_mm D (am_cpg (am_up I 71 6 (Int32.ofInt (I 71 6) &&& Int32.ofInt (Int32.ofInt (Int32.ofInt 1 <<< (Int32.ofInt 3 &&& 31)).toInt ^^^ Int32.ofInt (-1)).toInt).toInt) 84 0 98 0 6) J ρ))) rfl ?_
    refine am_e_if2 rfl ⟨by omega, by omega⟩ (fun (hw2 : sp = 0) => ?_) (fun (hw2 : ¬ (sp = 0)) => ?_)
    · show am_E _ _ _ 214 [(9, .inl (rr : Int)), (8, .inl more), (7, .inl fnd), (6, .inr (.inr (.inl (some 23)))), (5, .inl sp), (4, .inl ((sp_cho S VL way))), (3, .inl g), (2, .inl way), (1, .inl 3), (0, .inr (.inr (.inl (some 71))))] [] (am_mm D (am_cpg (am_up I 71 6 (Int32.ofInt (I 71 6) &&& Int32.ofInt (Int32.ofInt (Int32.ofInt 1 <<< (Int32.ofInt 3 &&& 31)).toInt ^^^ Int32.ofInt (-1)).toInt).toInt) 84 0 98 0 6) J ρ) _
      refine am_e_ss 1 (q := (216, [(9, .inl (rr : Int)), (8, .inl more), (7, .inl fnd), (6, .inr (.inr (.inl (some 23)))), (5, .inl sp), (4, .inl ((sp_cho S VL way))), (3, .inl g), (2, .inl way), (1, .inl 3), (0, .inr (.inr (.inl (some 71))))], [.inl fnd], (am_mm D (am_cpg (am_up I 71 6 (Int32.ofInt (I 71 6) &&& Int32.ofInt (Int32.ofInt (Int32.ofInt 1 <<< (Int32.ofInt 3 &&& 31)).toInt ^^^ Int32.ofInt (-1)).toInt).toInt) 84 0 98 0 6) J ρ))) rfl ?_
      refine am_e_ireturn rfl rfl ?_
      have hspf : ¬ sp_spk VL (S 19).toNat 3 = true := by rcases hsp with h | h; omega; exact h.2
      rw [hresf]
      have hse : sp_set VL 3 [] = VL := by
        have e : VL 3 = [] := by
          cases hL : VL 3 with
          | nil => rfl
          | cons a r => exact absurd (show sp_spk VL (S 19).toNat 3 = true by unfold sp_spk; rw [hL]; simp; omega) hspf
        rw [← e]
        exact sp_set_self
      refine ⟨_, am_r_wp uW (am_k_cpg (fun _ => rfl) (am_k_up rfl (am_k_id))), ?_, ?_, ?_⟩
      · rw [hse] at hp6
        exact hp6
      · intro j hj hjn
        have e : j ≠ 3 := by
          intro e
          subst e
          have : sp_set VL 3 [] 3 = [] := sp_set_at
          rw [hse] at this
          exact hjn this
        exact am_rowl_cg (hrows j hj hjn e) (fun i _ => (if_neg (by omega)).trans (am_up_ne2 (by omega)))
      · rw [hse] at htal
        exact ⟨htal.1, fun a b ha hb => (if_neg (by omega)).trans ((am_up_ne2 (by omega)).trans (htal.2 a b ha hb))⟩
    · show am_E _ _ _ 209 [(9, .inl (rr : Int)), (8, .inl more), (7, .inl fnd), (6, .inr (.inr (.inl (some 23)))), (5, .inl sp), (4, .inl ((sp_cho S VL way))), (3, .inl g), (2, .inl way), (1, .inl 3), (0, .inr (.inr (.inl (some 71))))] [] (am_mm D (am_cpg (am_up I 71 6 (Int32.ofInt (I 71 6) &&& Int32.ofInt (Int32.ofInt (Int32.ofInt 1 <<< (Int32.ofInt 3 &&& 31)).toInt ^^^ Int32.ofInt (-1)).toInt).toInt) 84 0 98 0 6) J ρ) _
      have hspt : sp_spk VL (S 19).toNat 3 = true := by rcases hsp with h | h; exact h.2; omega
      have hne : ¬ VL 3 = [] := by
        intro e
        have h := hspt
        unfold sp_spk at h
        simp [e] at h
      obtain ⟨hnd, hlen, hmm⟩ : (VL 3).Nodup ∧ ((VL 3).length : Int) = sp_ops S ∧ ∀ x, x ∈ VL 3 ↔ (x < (S 20).toNat ∧ S (13 + x) = 0) := by
        rcases (hv 3 hm).1 with h | h
        · exact absurd h hne
        · exact ⟨h.1, h.2.1.1, h.2.2⟩
      have hx6 : ∀ x ∈ VL 3, x < 6 := fun x hx => by have := (hmm x).mp hx; omega
      have hrow98 : am_rowl (am_cpg (am_up I 71 6 (Int32.ofInt (I 71 6) &&& Int32.ofInt (Int32.ofInt (Int32.ofInt 1 <<< (Int32.ofInt 3 &&& 31)).toInt ^^^ Int32.ofInt (-1)).toInt).toInt) 84 0 98 0 6 84) 0 (VL 3) := am_rowl_cpg (h98 hne) (by omega)
      refine am_e_ss 2 (q := (211, [(9, .inl (rr : Int)), (8, .inl more), (7, .inl fnd), (6, .inr (.inr (.inl (some 23)))), (5, .inl sp), (4, .inl ((sp_cho S VL way))), (3, .inl g), (2, .inl way), (1, .inl 3), (0, .inr (.inr (.inl (some 71))))], [.inl 3, .inr (.inr (.inl (some 71)))], (am_mm D (am_cpg (am_up I 71 6 (Int32.ofInt (I 71 6) &&& Int32.ofInt (Int32.ofInt (Int32.ofInt 1 <<< (Int32.ofInt 3 &&& 31)).toInt ^^^ Int32.ofInt (-1)).toInt).toInt) 84 0 98 0 6) J ρ))) rfl ?_
      refine am_e_virtual (Q := fun r => ∃ Q181, r = (none, (am_mm D (am_wp uTc (am_cpg (am_up I 71 6 (Int32.ofInt (I 71 6) &&& Int32.ofInt (Int32.ofInt (Int32.ofInt 1 <<< (Int32.ofInt 3 &&& 31)).toInt ^^^ Int32.ofInt (-1)).toInt).toInt) 84 0 98 0 6) Q181) J ρ)) ∧ Q181 71 6 = am_bits (fun x => sp_spk (sp_set VL 3 []) (S 19).toNat x || x == 3) 6 ∧ c_talQ (am_cpg (am_up I 71 6 (Int32.ofInt (I 71 6) &&& Int32.ofInt (Int32.ofInt (Int32.ofInt 1 <<< (Int32.ofInt 3 &&& 31)).toInt ^^^ Int32.ofInt (-1)).toInt).toInt) 84 0 98 0 6) Q181 1 (VL 3)) rfl rfl (Nat.le_of_ble_eq_true rfl) rfl rfl (Nat.le_of_ble_eq_true rfl) (Nat.le_of_ble_eq_true rfl) (c_hear _ (m := 3) (p := sp_spk (sp_set VL 3 []) (S 19).toNat) (L := VL 3) (by omega) hp6 (h3.trans hlen.symm) (by omega) hnd hx6 hrow98) ?_
      rintro r ⟨Q181, rfl, ⟨e6, etq⟩⟩
      show am_E _ _ _ 214 [(9, .inl (rr : Int)), (8, .inl more), (7, .inl fnd), (6, .inr (.inr (.inl (some 23)))), (5, .inl sp), (4, .inl ((sp_cho S VL way))), (3, .inl g), (2, .inl way), (1, .inl 3), (0, .inr (.inr (.inl (some 71))))] [] (am_mm D (am_wp uTc (am_cpg (am_up I 71 6 (Int32.ofInt (I 71 6) &&& Int32.ofInt (Int32.ofInt (Int32.ofInt 1 <<< (Int32.ofInt 3 &&& 31)).toInt ^^^ Int32.ofInt (-1)).toInt).toInt) 84 0 98 0 6) Q181) J ρ) _
      refine am_e_ss 1 (q := (216, [(9, .inl (rr : Int)), (8, .inl more), (7, .inl fnd), (6, .inr (.inr (.inl (some 23)))), (5, .inl sp), (4, .inl ((sp_cho S VL way))), (3, .inl g), (2, .inl way), (1, .inl 3), (0, .inr (.inr (.inl (some 71))))], [.inl fnd], (am_mm D (am_wp uTc (am_cpg (am_up I 71 6 (Int32.ofInt (I 71 6) &&& Int32.ofInt (Int32.ofInt (Int32.ofInt 1 <<< (Int32.ofInt 3 &&& 31)).toInt ^^^ Int32.ofInt (-1)).toInt).toInt) 84 0 98 0 6) Q181) J ρ))) rfl ?_
      refine am_e_ireturn rfl rfl ?_
      rw [hresf]
      refine ⟨_, am_r_wp uW (am_k_wp (uTc_uW) (am_k_cpg (fun _ => rfl) (am_k_up rfl (am_k_id)))), ?_, ?_, ?_⟩
      · show Q181 71 6 = _
        rw [e6]
        refine am_bits_cg 6 (fun x _ => ?_)
        rw [sp_spk_set0]
        cases hx : (x == 3) with
        | false => simp
        | true =>
          have : x = 3 := by simpa using hx
          subst this
          simp [hspt]
      · intro j hj hjn
        by_cases e : j = 3
        · subst e
          exact hrow98
        · exact am_rowl_cg (hrows j hj hjn e) (fun i _ => (am_wp_off (show uTc (81 + j) _ = false from (by rcases (show j = 0 ∨ j = 1 ∨ j = 2 ∨ j = 3 ∨ j = 4 ∨ j = 5 by omega) with rfl | rfl | rfl | rfl | rfl | rfl <;> rfl))).trans ((if_neg (by omega)).trans (am_up_ne2 (by omega))))
      · have h1 : c_tal (am_cpg (am_up I 71 6 (Int32.ofInt (I 71 6) &&& Int32.ofInt (Int32.ofInt (Int32.ofInt 1 <<< (Int32.ofInt 3 &&& 31)).toInt ^^^ Int32.ofInt (-1)).toInt).toInt) 84 0 98 0 6) (sp_set VL 3 []) (S 19).toNat := ⟨htal.1, fun a b ha hb => (if_neg (by omega)).trans ((am_up_ne2 (by omega)).trans (htal.2 a b ha hb))⟩
        have h2 := c_tal_add h1 hm etq
        rw [sp_set_self] at h2
        exact ⟨h2.1, fun a b ha hb => (am_wp_in (by rcases (show a = 0 ∨ a = 1 ∨ a = 2 ∨ a = 3 ∨ a = 4 ∨ a = 5 by omega) with rfl | rfl | rfl | rfl | rfl | rfl <;> rfl)).trans (h2.2 a b ha hb)⟩
  · show am_E _ _ _ 71 [(9, .inl (rr : Int)), (8, .inl more), (7, .inl fnd), (6, .inr (.inr (.inl (some 23)))), (5, .inl sp), (4, .inl ((sp_cho S VL way))), (3, .inl g), (2, .inl way), (1, .inl 3), (0, .inr (.inr (.inl (some 71))))] [] (am_mm D I J ρ) _
    refine am_e_ss 1 (q := (73, [(9, .inl (rr : Int)), (8, .inl more), (7, .inl fnd), (6, .inr (.inr (.inl (some 23)))), (5, .inl sp), (4, .inl ((sp_cho S VL way))), (3, .inl g), (2, .inl way), (1, .inl 3), (0, .inr (.inr (.inl (some 71))))], [.inl more], (am_mm D I J ρ))) rfl ?_
    refine am_e_if2 rfl ⟨by omega, by omega⟩ (fun (hw3 : more = 0) => ?_) (fun (hw3 : ¬ (more = 0)) => ?_)
    · show am_E _ _ _ 173 [(9, .inl (rr : Int)), (8, .inl more), (7, .inl fnd), (6, .inr (.inr (.inl (some 23)))), (5, .inl sp), (4, .inl ((sp_cho S VL way))), (3, .inl g), (2, .inl way), (1, .inl 3), (0, .inr (.inr (.inl (some 71))))] [] (am_mm D I J ρ) _
      refine am_e_ss 19 (q := (201, [(9, .inl (rr : Int)), (8, .inl more), (7, .inl fnd), (6, .inr (.inr (.inl (some 23)))), (5, .inl sp), (4, .inl ((sp_cho S VL way))), (3, .inl g), (2, .inl way), (1, .inl 3), (0, .inr (.inr (.inl (some 71))))], [.inl 6, .inl 0, .inr (.inr (.inl (some 84))), .inl 0, .inr (.inr (.inl (some 98)))], (am_mm D (am_up I 71 6 (Int32.ofInt (I 71 6) &&& Int32.ofInt (Int32.ofInt (Int32.ofInt 1 <<< (Int32.ofInt 3 &&& 31)).toInt ^^^ Int32.ofInt (-1)).toInt).toInt) J ρ))) rfl ?_
      refine am_e_cp (k := 84) (q := 98) (a := 6) (b := 6) (dp := 0) (sp := 0) (n' := 6) rfl rfl rfl rfl rfl (by decide) (by decide) (by decide) (Nat.le_of_ble_eq_true rfl) ?_
      show am_E _ _ _ 204 [(9, .inl (rr : Int)), (8, .inl more), (7, .inl fnd), (6, .inr (.inr (.inl (some 23)))), (5, .inl sp), (4, .inl ((sp_cho S VL way))), (3, .inl g), (2, .inl way), (1, .inl 3), (0, .inr (.inr (.inl (some 71))))] [] (am_mm D (am_cpg (am_up I 71 6 (Int32.ofInt (I 71 6) &&& Int32.ofInt (Int32.ofInt (Int32.ofInt 1 <<< (Int32.ofInt 3 &&& 31)).toInt ^^^ Int32.ofInt (-1)).toInt).toInt) 84 0 98 0 6) J ρ) _
      have hp6 : (Int32.ofInt (I 71 6) &&& Int32.ofInt (Int32.ofInt (Int32.ofInt 1 <<< (Int32.ofInt 3 &&& 31)).toInt ^^^ Int32.ofInt (-1)).toInt).toInt = am_bits (sp_spk (sp_set VL 3 []) (S 19).toNat) 6 := by
        rw [ht6]
        refine (am_bits_clr _ 3 (by omega)).trans ?_
        refine am_bits_cg 6 (fun x _ => ?_)
        rw [sp_spk_set0]
        cases hx : (x == 3) <;> simp
      have hresf : res = fnd := by
        rcases hst with ⟨h1, h2, h3, h4, h5, h6, h7⟩ | h
        · exfalso; omega
        · exact h.2.1
      refine am_e_ss 1 (q := (206, [(9, .inl (rr : Int)), (8, .inl more), (7, .inl fnd), (6, .inr (.inr (.inl (some 23)))), (5, .inl sp), (4, .inl ((sp_cho S VL way))), (3, .inl g), (2, .inl way), (1, .inl 3), (0, .inr (.inr (.inl (some 71))))], [.inl sp], (am_mm D (am_cpg (am_up I 71 6 (Int32.ofInt (I 71 6) &&& Int32.ofInt (Int32.ofInt (Int32.ofInt 1 <<< (Int32.ofInt 3 &&& 31)).toInt ^^^ Int32.ofInt (-1)).toInt).toInt) 84 0 98 0 6) J ρ))) rfl ?_
      refine am_e_if2 rfl ⟨by omega, by omega⟩ (fun (hw4 : sp = 0) => ?_) (fun (hw4 : ¬ (sp = 0)) => ?_)
      · show am_E _ _ _ 214 [(9, .inl (rr : Int)), (8, .inl more), (7, .inl fnd), (6, .inr (.inr (.inl (some 23)))), (5, .inl sp), (4, .inl ((sp_cho S VL way))), (3, .inl g), (2, .inl way), (1, .inl 3), (0, .inr (.inr (.inl (some 71))))] [] (am_mm D (am_cpg (am_up I 71 6 (Int32.ofInt (I 71 6) &&& Int32.ofInt (Int32.ofInt (Int32.ofInt 1 <<< (Int32.ofInt 3 &&& 31)).toInt ^^^ Int32.ofInt (-1)).toInt).toInt) 84 0 98 0 6) J ρ) _
        refine am_e_ss 1 (q := (216, [(9, .inl (rr : Int)), (8, .inl more), (7, .inl fnd), (6, .inr (.inr (.inl (some 23)))), (5, .inl sp), (4, .inl ((sp_cho S VL way))), (3, .inl g), (2, .inl way), (1, .inl 3), (0, .inr (.inr (.inl (some 71))))], [.inl fnd], (am_mm D (am_cpg (am_up I 71 6 (Int32.ofInt (I 71 6) &&& Int32.ofInt (Int32.ofInt (Int32.ofInt 1 <<< (Int32.ofInt 3 &&& 31)).toInt ^^^ Int32.ofInt (-1)).toInt).toInt) 84 0 98 0 6) J ρ))) rfl ?_
        refine am_e_ireturn rfl rfl ?_
        have hspf : ¬ sp_spk VL (S 19).toNat 3 = true := by rcases hsp with h | h; omega; exact h.2
        rw [hresf]
        have hse : sp_set VL 3 [] = VL := by
          have e : VL 3 = [] := by
            cases hL : VL 3 with
            | nil => rfl
            | cons a r => exact absurd (show sp_spk VL (S 19).toNat 3 = true by unfold sp_spk; rw [hL]; simp; omega) hspf
          rw [← e]
          exact sp_set_self
        refine ⟨_, am_r_wp uW (am_k_cpg (fun _ => rfl) (am_k_up rfl (am_k_id))), ?_, ?_, ?_⟩
        · rw [hse] at hp6
          exact hp6
        · intro j hj hjn
          have e : j ≠ 3 := by
            intro e
            subst e
            have : sp_set VL 3 [] 3 = [] := sp_set_at
            rw [hse] at this
            exact hjn this
          exact am_rowl_cg (hrows j hj hjn e) (fun i _ => (if_neg (by omega)).trans (am_up_ne2 (by omega)))
        · rw [hse] at htal
          exact ⟨htal.1, fun a b ha hb => (if_neg (by omega)).trans ((am_up_ne2 (by omega)).trans (htal.2 a b ha hb))⟩
      · show am_E _ _ _ 209 [(9, .inl (rr : Int)), (8, .inl more), (7, .inl fnd), (6, .inr (.inr (.inl (some 23)))), (5, .inl sp), (4, .inl ((sp_cho S VL way))), (3, .inl g), (2, .inl way), (1, .inl 3), (0, .inr (.inr (.inl (some 71))))] [] (am_mm D (am_cpg (am_up I 71 6 (Int32.ofInt (I 71 6) &&& Int32.ofInt (Int32.ofInt (Int32.ofInt 1 <<< (Int32.ofInt 3 &&& 31)).toInt ^^^ Int32.ofInt (-1)).toInt).toInt) 84 0 98 0 6) J ρ) _
        have hspt : sp_spk VL (S 19).toNat 3 = true := by rcases hsp with h | h; exact h.2; omega
        have hne : ¬ VL 3 = [] := by
          intro e
          have h := hspt
          unfold sp_spk at h
          simp [e] at h
        obtain ⟨hnd, hlen, hmm⟩ : (VL 3).Nodup ∧ ((VL 3).length : Int) = sp_ops S ∧ ∀ x, x ∈ VL 3 ↔ (x < (S 20).toNat ∧ S (13 + x) = 0) := by
          rcases (hv 3 hm).1 with h | h
          · exact absurd h hne
          · exact ⟨h.1, h.2.1.1, h.2.2⟩
        have hx6 : ∀ x ∈ VL 3, x < 6 := fun x hx => by have := (hmm x).mp hx; omega
        have hrow98 : am_rowl (am_cpg (am_up I 71 6 (Int32.ofInt (I 71 6) &&& Int32.ofInt (Int32.ofInt (Int32.ofInt 1 <<< (Int32.ofInt 3 &&& 31)).toInt ^^^ Int32.ofInt (-1)).toInt).toInt) 84 0 98 0 6 84) 0 (VL 3) := am_rowl_cpg (h98 hne) (by omega)
        refine am_e_ss 2 (q := (211, [(9, .inl (rr : Int)), (8, .inl more), (7, .inl fnd), (6, .inr (.inr (.inl (some 23)))), (5, .inl sp), (4, .inl ((sp_cho S VL way))), (3, .inl g), (2, .inl way), (1, .inl 3), (0, .inr (.inr (.inl (some 71))))], [.inl 3, .inr (.inr (.inl (some 71)))], (am_mm D (am_cpg (am_up I 71 6 (Int32.ofInt (I 71 6) &&& Int32.ofInt (Int32.ofInt (Int32.ofInt 1 <<< (Int32.ofInt 3 &&& 31)).toInt ^^^ Int32.ofInt (-1)).toInt).toInt) 84 0 98 0 6) J ρ))) rfl ?_
        refine am_e_virtual (Q := fun r => ∃ Q182, r = (none, (am_mm D (am_wp uTc (am_cpg (am_up I 71 6 (Int32.ofInt (I 71 6) &&& Int32.ofInt (Int32.ofInt (Int32.ofInt 1 <<< (Int32.ofInt 3 &&& 31)).toInt ^^^ Int32.ofInt (-1)).toInt).toInt) 84 0 98 0 6) Q182) J ρ)) ∧ Q182 71 6 = am_bits (fun x => sp_spk (sp_set VL 3 []) (S 19).toNat x || x == 3) 6 ∧ c_talQ (am_cpg (am_up I 71 6 (Int32.ofInt (I 71 6) &&& Int32.ofInt (Int32.ofInt (Int32.ofInt 1 <<< (Int32.ofInt 3 &&& 31)).toInt ^^^ Int32.ofInt (-1)).toInt).toInt) 84 0 98 0 6) Q182 1 (VL 3)) rfl rfl (Nat.le_of_ble_eq_true rfl) rfl rfl (Nat.le_of_ble_eq_true rfl) (Nat.le_of_ble_eq_true rfl) (c_hear _ (m := 3) (p := sp_spk (sp_set VL 3 []) (S 19).toNat) (L := VL 3) (by omega) hp6 (h3.trans hlen.symm) (by omega) hnd hx6 hrow98) ?_
        rintro r ⟨Q182, rfl, ⟨e6, etq⟩⟩
        show am_E _ _ _ 214 [(9, .inl (rr : Int)), (8, .inl more), (7, .inl fnd), (6, .inr (.inr (.inl (some 23)))), (5, .inl sp), (4, .inl ((sp_cho S VL way))), (3, .inl g), (2, .inl way), (1, .inl 3), (0, .inr (.inr (.inl (some 71))))] [] (am_mm D (am_wp uTc (am_cpg (am_up I 71 6 (Int32.ofInt (I 71 6) &&& Int32.ofInt (Int32.ofInt (Int32.ofInt 1 <<< (Int32.ofInt 3 &&& 31)).toInt ^^^ Int32.ofInt (-1)).toInt).toInt) 84 0 98 0 6) Q182) J ρ) _
        refine am_e_ss 1 (q := (216, [(9, .inl (rr : Int)), (8, .inl more), (7, .inl fnd), (6, .inr (.inr (.inl (some 23)))), (5, .inl sp), (4, .inl ((sp_cho S VL way))), (3, .inl g), (2, .inl way), (1, .inl 3), (0, .inr (.inr (.inl (some 71))))], [.inl fnd], (am_mm D (am_wp uTc (am_cpg (am_up I 71 6 (Int32.ofInt (I 71 6) &&& Int32.ofInt (Int32.ofInt (Int32.ofInt 1 <<< (Int32.ofInt 3 &&& 31)).toInt ^^^ Int32.ofInt (-1)).toInt).toInt) 84 0 98 0 6) Q182) J ρ))) rfl ?_
        refine am_e_ireturn rfl rfl ?_
        rw [hresf]
        refine ⟨_, am_r_wp uW (am_k_wp (uTc_uW) (am_k_cpg (fun _ => rfl) (am_k_up rfl (am_k_id)))), ?_, ?_, ?_⟩
        · show Q182 71 6 = _
          rw [e6]
          refine am_bits_cg 6 (fun x _ => ?_)
          rw [sp_spk_set0]
          cases hx : (x == 3) with
          | false => simp
          | true =>
            have : x = 3 := by simpa using hx
            subst this
            simp [hspt]
        · intro j hj hjn
          by_cases e : j = 3
          · subst e
            exact hrow98
          · exact am_rowl_cg (hrows j hj hjn e) (fun i _ => (am_wp_off (show uTc (81 + j) _ = false from (by rcases (show j = 0 ∨ j = 1 ∨ j = 2 ∨ j = 3 ∨ j = 4 ∨ j = 5 by omega) with rfl | rfl | rfl | rfl | rfl | rfl <;> rfl))).trans ((if_neg (by omega)).trans (am_up_ne2 (by omega))))
        · have h1 : c_tal (am_cpg (am_up I 71 6 (Int32.ofInt (I 71 6) &&& Int32.ofInt (Int32.ofInt (Int32.ofInt 1 <<< (Int32.ofInt 3 &&& 31)).toInt ^^^ Int32.ofInt (-1)).toInt).toInt) 84 0 98 0 6) (sp_set VL 3 []) (S 19).toNat := ⟨htal.1, fun a b ha hb => (if_neg (by omega)).trans ((am_up_ne2 (by omega)).trans (htal.2 a b ha hb))⟩
          have h2 := c_tal_add h1 hm etq
          rw [sp_set_self] at h2
          exact ⟨h2.1, fun a b ha hb => (am_wp_in (by rcases (show a = 0 ∨ a = 1 ∨ a = 2 ∨ a = 3 ∨ a = 4 ∨ a = 5 by omega) with rfl | rfl | rfl | rfl | rfl | rfl <;> rfl)).trans (h2.2 a b ha hb)⟩
    · show am_E _ _ _ 76 [(9, .inl (rr : Int)), (8, .inl more), (7, .inl fnd), (6, .inr (.inr (.inl (some 23)))), (5, .inl sp), (4, .inl ((sp_cho S VL way))), (3, .inl g), (2, .inl way), (1, .inl 3), (0, .inr (.inr (.inl (some 71))))] [] (am_mm D I J ρ) _
      refine am_e_ss 2 (q := (80, [(9, .inl (rr : Int)), (8, .inl more), (7, .inl fnd), (6, .inr (.inr (.inl (some 23)))), (5, .inl sp), (4, .inl ((sp_cho S VL way))), (3, .inl g), (2, .inl way), (1, .inl 3), (0, .inr (.inr (.inl (some 71))))], [.inl (-5), .inl fnd], (am_mm D I J ρ))) rfl ?_
      refine am_e_icmp2 rfl ⟨by omega, by omega⟩ ⟨by omega, by omega⟩ (fun (hw5 : ¬ fnd = (-5)) => ?_) (fun (hw5 : ¬ (¬ fnd = (-5))) => ?_)
      · show am_E _ _ _ 173 [(9, .inl (rr : Int)), (8, .inl more), (7, .inl fnd), (6, .inr (.inr (.inl (some 23)))), (5, .inl sp), (4, .inl ((sp_cho S VL way))), (3, .inl g), (2, .inl way), (1, .inl 3), (0, .inr (.inr (.inl (some 71))))] [] (am_mm D I J ρ) _
        refine am_e_ss 19 (q := (201, [(9, .inl (rr : Int)), (8, .inl more), (7, .inl fnd), (6, .inr (.inr (.inl (some 23)))), (5, .inl sp), (4, .inl ((sp_cho S VL way))), (3, .inl g), (2, .inl way), (1, .inl 3), (0, .inr (.inr (.inl (some 71))))], [.inl 6, .inl 0, .inr (.inr (.inl (some 84))), .inl 0, .inr (.inr (.inl (some 98)))], (am_mm D (am_up I 71 6 (Int32.ofInt (I 71 6) &&& Int32.ofInt (Int32.ofInt (Int32.ofInt 1 <<< (Int32.ofInt 3 &&& 31)).toInt ^^^ Int32.ofInt (-1)).toInt).toInt) J ρ))) rfl ?_
        refine am_e_cp (k := 84) (q := 98) (a := 6) (b := 6) (dp := 0) (sp := 0) (n' := 6) rfl rfl rfl rfl rfl (by decide) (by decide) (by decide) (Nat.le_of_ble_eq_true rfl) ?_
        show am_E _ _ _ 204 [(9, .inl (rr : Int)), (8, .inl more), (7, .inl fnd), (6, .inr (.inr (.inl (some 23)))), (5, .inl sp), (4, .inl ((sp_cho S VL way))), (3, .inl g), (2, .inl way), (1, .inl 3), (0, .inr (.inr (.inl (some 71))))] [] (am_mm D (am_cpg (am_up I 71 6 (Int32.ofInt (I 71 6) &&& Int32.ofInt (Int32.ofInt (Int32.ofInt 1 <<< (Int32.ofInt 3 &&& 31)).toInt ^^^ Int32.ofInt (-1)).toInt).toInt) 84 0 98 0 6) J ρ) _
        have hp6 : (Int32.ofInt (I 71 6) &&& Int32.ofInt (Int32.ofInt (Int32.ofInt 1 <<< (Int32.ofInt 3 &&& 31)).toInt ^^^ Int32.ofInt (-1)).toInt).toInt = am_bits (sp_spk (sp_set VL 3 []) (S 19).toNat) 6 := by
          rw [ht6]
          refine (am_bits_clr _ 3 (by omega)).trans ?_
          refine am_bits_cg 6 (fun x _ => ?_)
          rw [sp_spk_set0]
          cases hx : (x == 3) <;> simp
        have hresf : res = fnd := by
          rcases hst with ⟨h1, h2, h3, h4, h5, h6, h7⟩ | h
          · exfalso; omega
          · exact h.2.1
        refine am_e_ss 1 (q := (206, [(9, .inl (rr : Int)), (8, .inl more), (7, .inl fnd), (6, .inr (.inr (.inl (some 23)))), (5, .inl sp), (4, .inl ((sp_cho S VL way))), (3, .inl g), (2, .inl way), (1, .inl 3), (0, .inr (.inr (.inl (some 71))))], [.inl sp], (am_mm D (am_cpg (am_up I 71 6 (Int32.ofInt (I 71 6) &&& Int32.ofInt (Int32.ofInt (Int32.ofInt 1 <<< (Int32.ofInt 3 &&& 31)).toInt ^^^ Int32.ofInt (-1)).toInt).toInt) 84 0 98 0 6) J ρ))) rfl ?_
        refine am_e_if2 rfl ⟨by omega, by omega⟩ (fun (hw6 : sp = 0) => ?_) (fun (hw6 : ¬ (sp = 0)) => ?_)
        · show am_E _ _ _ 214 [(9, .inl (rr : Int)), (8, .inl more), (7, .inl fnd), (6, .inr (.inr (.inl (some 23)))), (5, .inl sp), (4, .inl ((sp_cho S VL way))), (3, .inl g), (2, .inl way), (1, .inl 3), (0, .inr (.inr (.inl (some 71))))] [] (am_mm D (am_cpg (am_up I 71 6 (Int32.ofInt (I 71 6) &&& Int32.ofInt (Int32.ofInt (Int32.ofInt 1 <<< (Int32.ofInt 3 &&& 31)).toInt ^^^ Int32.ofInt (-1)).toInt).toInt) 84 0 98 0 6) J ρ) _
          refine am_e_ss 1 (q := (216, [(9, .inl (rr : Int)), (8, .inl more), (7, .inl fnd), (6, .inr (.inr (.inl (some 23)))), (5, .inl sp), (4, .inl ((sp_cho S VL way))), (3, .inl g), (2, .inl way), (1, .inl 3), (0, .inr (.inr (.inl (some 71))))], [.inl fnd], (am_mm D (am_cpg (am_up I 71 6 (Int32.ofInt (I 71 6) &&& Int32.ofInt (Int32.ofInt (Int32.ofInt 1 <<< (Int32.ofInt 3 &&& 31)).toInt ^^^ Int32.ofInt (-1)).toInt).toInt) 84 0 98 0 6) J ρ))) rfl ?_
          refine am_e_ireturn rfl rfl ?_
          have hspf : ¬ sp_spk VL (S 19).toNat 3 = true := by rcases hsp with h | h; omega; exact h.2
          rw [hresf]
          have hse : sp_set VL 3 [] = VL := by
            have e : VL 3 = [] := by
              cases hL : VL 3 with
              | nil => rfl
              | cons a r => exact absurd (show sp_spk VL (S 19).toNat 3 = true by unfold sp_spk; rw [hL]; simp; omega) hspf
            rw [← e]
            exact sp_set_self
          refine ⟨_, am_r_wp uW (am_k_cpg (fun _ => rfl) (am_k_up rfl (am_k_id))), ?_, ?_, ?_⟩
          · rw [hse] at hp6
            exact hp6
          · intro j hj hjn
            have e : j ≠ 3 := by
              intro e
              subst e
              have : sp_set VL 3 [] 3 = [] := sp_set_at
              rw [hse] at this
              exact hjn this
            exact am_rowl_cg (hrows j hj hjn e) (fun i _ => (if_neg (by omega)).trans (am_up_ne2 (by omega)))
          · rw [hse] at htal
            exact ⟨htal.1, fun a b ha hb => (if_neg (by omega)).trans ((am_up_ne2 (by omega)).trans (htal.2 a b ha hb))⟩
        · show am_E _ _ _ 209 [(9, .inl (rr : Int)), (8, .inl more), (7, .inl fnd), (6, .inr (.inr (.inl (some 23)))), (5, .inl sp), (4, .inl ((sp_cho S VL way))), (3, .inl g), (2, .inl way), (1, .inl 3), (0, .inr (.inr (.inl (some 71))))] [] (am_mm D (am_cpg (am_up I 71 6 (Int32.ofInt (I 71 6) &&& Int32.ofInt (Int32.ofInt (Int32.ofInt 1 <<< (Int32.ofInt 3 &&& 31)).toInt ^^^ Int32.ofInt (-1)).toInt).toInt) 84 0 98 0 6) J ρ) _
          have hspt : sp_spk VL (S 19).toNat 3 = true := by rcases hsp with h | h; exact h.2; omega
          have hne : ¬ VL 3 = [] := by
            intro e
            have h := hspt
            unfold sp_spk at h
            simp [e] at h
          obtain ⟨hnd, hlen, hmm⟩ : (VL 3).Nodup ∧ ((VL 3).length : Int) = sp_ops S ∧ ∀ x, x ∈ VL 3 ↔ (x < (S 20).toNat ∧ S (13 + x) = 0) := by
            rcases (hv 3 hm).1 with h | h
            · exact absurd h hne
            · exact ⟨h.1, h.2.1.1, h.2.2⟩
          have hx6 : ∀ x ∈ VL 3, x < 6 := fun x hx => by have := (hmm x).mp hx; omega
          have hrow98 : am_rowl (am_cpg (am_up I 71 6 (Int32.ofInt (I 71 6) &&& Int32.ofInt (Int32.ofInt (Int32.ofInt 1 <<< (Int32.ofInt 3 &&& 31)).toInt ^^^ Int32.ofInt (-1)).toInt).toInt) 84 0 98 0 6 84) 0 (VL 3) := am_rowl_cpg (h98 hne) (by omega)
          refine am_e_ss 2 (q := (211, [(9, .inl (rr : Int)), (8, .inl more), (7, .inl fnd), (6, .inr (.inr (.inl (some 23)))), (5, .inl sp), (4, .inl ((sp_cho S VL way))), (3, .inl g), (2, .inl way), (1, .inl 3), (0, .inr (.inr (.inl (some 71))))], [.inl 3, .inr (.inr (.inl (some 71)))], (am_mm D (am_cpg (am_up I 71 6 (Int32.ofInt (I 71 6) &&& Int32.ofInt (Int32.ofInt (Int32.ofInt 1 <<< (Int32.ofInt 3 &&& 31)).toInt ^^^ Int32.ofInt (-1)).toInt).toInt) 84 0 98 0 6) J ρ))) rfl ?_
          refine am_e_virtual (Q := fun r => ∃ Q183, r = (none, (am_mm D (am_wp uTc (am_cpg (am_up I 71 6 (Int32.ofInt (I 71 6) &&& Int32.ofInt (Int32.ofInt (Int32.ofInt 1 <<< (Int32.ofInt 3 &&& 31)).toInt ^^^ Int32.ofInt (-1)).toInt).toInt) 84 0 98 0 6) Q183) J ρ)) ∧ Q183 71 6 = am_bits (fun x => sp_spk (sp_set VL 3 []) (S 19).toNat x || x == 3) 6 ∧ c_talQ (am_cpg (am_up I 71 6 (Int32.ofInt (I 71 6) &&& Int32.ofInt (Int32.ofInt (Int32.ofInt 1 <<< (Int32.ofInt 3 &&& 31)).toInt ^^^ Int32.ofInt (-1)).toInt).toInt) 84 0 98 0 6) Q183 1 (VL 3)) rfl rfl (Nat.le_of_ble_eq_true rfl) rfl rfl (Nat.le_of_ble_eq_true rfl) (Nat.le_of_ble_eq_true rfl) (c_hear _ (m := 3) (p := sp_spk (sp_set VL 3 []) (S 19).toNat) (L := VL 3) (by omega) hp6 (h3.trans hlen.symm) (by omega) hnd hx6 hrow98) ?_
          rintro r ⟨Q183, rfl, ⟨e6, etq⟩⟩
          show am_E _ _ _ 214 [(9, .inl (rr : Int)), (8, .inl more), (7, .inl fnd), (6, .inr (.inr (.inl (some 23)))), (5, .inl sp), (4, .inl ((sp_cho S VL way))), (3, .inl g), (2, .inl way), (1, .inl 3), (0, .inr (.inr (.inl (some 71))))] [] (am_mm D (am_wp uTc (am_cpg (am_up I 71 6 (Int32.ofInt (I 71 6) &&& Int32.ofInt (Int32.ofInt (Int32.ofInt 1 <<< (Int32.ofInt 3 &&& 31)).toInt ^^^ Int32.ofInt (-1)).toInt).toInt) 84 0 98 0 6) Q183) J ρ) _
          refine am_e_ss 1 (q := (216, [(9, .inl (rr : Int)), (8, .inl more), (7, .inl fnd), (6, .inr (.inr (.inl (some 23)))), (5, .inl sp), (4, .inl ((sp_cho S VL way))), (3, .inl g), (2, .inl way), (1, .inl 3), (0, .inr (.inr (.inl (some 71))))], [.inl fnd], (am_mm D (am_wp uTc (am_cpg (am_up I 71 6 (Int32.ofInt (I 71 6) &&& Int32.ofInt (Int32.ofInt (Int32.ofInt 1 <<< (Int32.ofInt 3 &&& 31)).toInt ^^^ Int32.ofInt (-1)).toInt).toInt) 84 0 98 0 6) Q183) J ρ))) rfl ?_
          refine am_e_ireturn rfl rfl ?_
          rw [hresf]
          refine ⟨_, am_r_wp uW (am_k_wp (uTc_uW) (am_k_cpg (fun _ => rfl) (am_k_up rfl (am_k_id)))), ?_, ?_, ?_⟩
          · show Q183 71 6 = _
            rw [e6]
            refine am_bits_cg 6 (fun x _ => ?_)
            rw [sp_spk_set0]
            cases hx : (x == 3) with
            | false => simp
            | true =>
              have : x = 3 := by simpa using hx
              subst this
              simp [hspt]
          · intro j hj hjn
            by_cases e : j = 3
            · subst e
              exact hrow98
            · exact am_rowl_cg (hrows j hj hjn e) (fun i _ => (am_wp_off (show uTc (81 + j) _ = false from (by rcases (show j = 0 ∨ j = 1 ∨ j = 2 ∨ j = 3 ∨ j = 4 ∨ j = 5 by omega) with rfl | rfl | rfl | rfl | rfl | rfl <;> rfl))).trans ((if_neg (by omega)).trans (am_up_ne2 (by omega))))
          · have h1 : c_tal (am_cpg (am_up I 71 6 (Int32.ofInt (I 71 6) &&& Int32.ofInt (Int32.ofInt (Int32.ofInt 1 <<< (Int32.ofInt 3 &&& 31)).toInt ^^^ Int32.ofInt (-1)).toInt).toInt) 84 0 98 0 6) (sp_set VL 3 []) (S 19).toNat := ⟨htal.1, fun a b ha hb => (if_neg (by omega)).trans ((am_up_ne2 (by omega)).trans (htal.2 a b ha hb))⟩
            have h2 := c_tal_add h1 hm etq
            rw [sp_set_self] at h2
            exact ⟨h2.1, fun a b ha hb => (am_wp_in (by rcases (show a = 0 ∨ a = 1 ∨ a = 2 ∨ a = 3 ∨ a = 4 ∨ a = 5 by omega) with rfl | rfl | rfl | rfl | rfl | rfl <;> rfl)).trans (h2.2 a b ha hb)⟩
      · show am_E _ _ _ 83 [(9, .inl (rr : Int)), (8, .inl more), (7, .inl fnd), (6, .inr (.inr (.inl (some 23)))), (5, .inl sp), (4, .inl ((sp_cho S VL way))), (3, .inl g), (2, .inl way), (1, .inl 3), (0, .inr (.inr (.inl (some 71))))] [] (am_mm D I J ρ) _
        obtain ⟨hq1, hq2, hres, hch, hq97, hrl, hvs⟩ : more = 1 ∧ fnd = -5 ∧ res = sp_ff1 g (sp_cho S VL way) (fun x => sp_like S (3 : Int) x) (fun p => sp_cho S (sp_set VL 3 p) way) (q :: rs) ∧ nx_ch (q :: rs) = true ∧ am_rowl (I 97) 0 q ∧ rr + rs.length < 120 ∧ ∀ p ∈ q :: rs, sp_voice S p ∧ ¬ p = [] := by
          rcases hst with h | h
          · exact h
          · exfalso; omega
        obtain ⟨hqv, hqe⟩ := hvs q List.mem_cons_self
        obtain ⟨hqn, hql, hqm⟩ : q.Nodup ∧ (q.length : Int) = sp_ops S ∧ ∀ x, x ∈ q ↔ (x < (S 20).toNat ∧ S (13 + x) = 0) := by
          rcases hqv with h | h
          · exact absurd h hqe
          · exact ⟨h.1, h.2.1.1, h.2.2⟩
        have hq6 : ∀ x ∈ q, x < 6 := fun x hx => by have := (hqm x).mp hx; omega
        have hcb := sp_cho_b (way := way) hok (sp_vcs_vo hok (sp_set_vcs hv hqv hh)) ho
        have hub := sp_cho_b (way := way) hok (sp_vcs_vo hok hv) ho
        refine am_e_ss 9 (q := (97, [(9, .inl (rr : Int)), (8, .inl more), (7, .inl fnd), (6, .inr (.inr (.inl (some 23)))), (5, .inl sp), (4, .inl ((sp_cho S VL way))), (3, .inl g), (2, .inl way), (1, .inl 3), (0, .inr (.inr (.inl (some 71))))], [.inl 6, .inl 0, .inr (.inr (.inl (some 84))), .inl 0, .inr (.inr (.inl (some 97)))], (am_mm D I J ρ))) rfl ?_
        refine am_e_cp (k := 84) (q := 97) (a := 6) (b := 6) (dp := 0) (sp := 0) (n' := 6) rfl rfl rfl rfl rfl (by decide) (by decide) (by decide) (Nat.le_of_ble_eq_true rfl) ?_
        show am_E _ _ _ 100 [(9, .inl (rr : Int)), (8, .inl more), (7, .inl fnd), (6, .inr (.inr (.inl (some 23)))), (5, .inl sp), (4, .inl ((sp_cho S VL way))), (3, .inl g), (2, .inl way), (1, .inl 3), (0, .inr (.inr (.inl (some 71))))] [] (am_mm D (am_cpg I 84 0 97 0 6) J ρ) _
        refine am_e_ss 4 (q := (106, [(9, .inl (rr : Int)), (8, .inl more), (7, .inl fnd), (6, .inr (.inr (.inl (some 23)))), (5, .inl sp), (4, .inl ((sp_cho S VL way))), (3, .inl g), (2, .inl way), (1, .inl 3), (0, .inr (.inr (.inl (some 71))))], [.inl 1, .inr (.inr (.inl (some 97))), .inr (.inr (.inl (some 71)))], (am_mm D (am_cpg I 84 0 97 0 6) J ρ))) rfl ?_
        refine am_e_virtual (Q := fun r => ∃ Q184, r = (none, (am_mm D (am_wp uT (am_cpg I 84 0 97 0 6) Q184) J ρ)) ∧ c_talQ (am_cpg I 84 0 97 0 6) Q184 1 (q)) rfl rfl (Nat.le_of_ble_eq_true rfl) rfl rfl (Nat.le_of_ble_eq_true rfl) (Nat.le_of_ble_eq_true rfl) (c_tally_97 _ (z := 1) (L := q) (Or.inl rfl) (h3.trans hql.symm) (by omega) hqn hq6 hq97) ?_
        rintro r ⟨Q184, rfl, htq⟩
        show am_E _ _ _ 109 [(9, .inl (rr : Int)), (8, .inl more), (7, .inl fnd), (6, .inr (.inr (.inl (some 23)))), (5, .inl sp), (4, .inl ((sp_cho S VL way))), (3, .inl g), (2, .inl way), (1, .inl 3), (0, .inr (.inr (.inl (some 71))))] [] (am_mm D (am_wp uT (am_cpg I 84 0 97 0 6) Q184) J ρ) _
        have hordK : c_ords (am_wp uT (am_cpg I 84 0 97 0 6) Q184) S := ⟨h3, hob, fun j hj => am_rowl_cg (hO j hj) (fun i _ => (am_wp_off (show uT (74 + j) _ = false from (by rcases (show j = 0 ∨ j = 1 ∨ j = 2 ∨ j = 3 ∨ j = 4 ∨ j = 5 by omega) with rfl | rfl | rfl | rfl | rfl | rfl <;> rfl))).trans (if_neg (by omega)))⟩
        have htalK : c_tal (am_wp uT (am_cpg I 84 0 97 0 6) Q184) (sp_set VL 3 q) (S 19).toNat := by
          have h1 : c_tal (am_cpg I 84 0 97 0 6) (sp_set VL 3 []) (S 19).toNat := ⟨htal.1, fun a b ha hb => (if_neg (by omega)).trans (htal.2 a b ha hb)⟩
          have h2 := c_tal_add h1 hm htq
          exact ⟨h2.1, fun a b ha hb => (am_wp_in (by rcases (show a = 0 ∨ a = 1 ∨ a = 2 ∨ a = 3 ∨ a = 4 ∨ a = 5 by omega) with rfl | rfl | rfl | rfl | rfl | rfl <;> rfl)).trans (h2.2 a b ha hb)⟩
        have hvoiK : c_voi (am_wp uT (am_cpg I 84 0 97 0 6) Q184) (sp_set VL 3 q) (S 19).toNat := by
          refine ⟨?_, ?_, htalK⟩
          · show I 71 6 = _
            rw [ht6]
            refine am_bits_cg 6 (fun x _ => ?_)
            rw [sp_spk_set hm hqe, sp_spk_set0]
            cases hx : (x == 3) <;> simp
          · intro j hj hjn
            by_cases e : j = 3
            · subst e
              rw [sp_set_at] at hjn ⊢
              exact am_rowl_cpg hq97 (show q.length ≤ 6 by omega)
            · rw [sp_set_ne e] at hjn ⊢
              exact am_rowl_cg (hrows j hj hjn e) (fun i _ => (am_wp_off (show uT (81 + j) _ = false from (by rcases (show j = 0 ∨ j = 1 ∨ j = 2 ∨ j = 3 ∨ j = 4 ∨ j = 5 by omega) with rfl | rfl | rfl | rfl | rfl | rfl <;> rfl))).trans (if_neg (by omega)))
        refine am_e_ss 2 (q := (111, [(9, .inl (rr : Int)), (8, .inl more), (7, .inl fnd), (6, .inr (.inr (.inl (some 23)))), (5, .inl sp), (4, .inl ((sp_cho S VL way))), (3, .inl g), (2, .inl way), (1, .inl 3), (0, .inr (.inr (.inl (some 71))))], [.inl way, .inr (.inr (.inl (some 71)))], (am_mm D (am_wp uT (am_cpg I 84 0 97 0 6) Q184) J ρ))) rfl ?_
        refine am_e_virtual (Q := fun r => r = (some (.inl ((sp_cho S (sp_set VL 3 q) way))), (am_mm D (am_wp uT (am_cpg I 84 0 97 0 6) Q184) J ρ))) rfl rfl (Nat.le_of_ble_eq_true rfl) rfl rfl (Nat.le_of_ble_eq_true rfl) (Nat.le_of_ble_eq_true rfl) (c_pick_2 _ (VL := sp_set VL 3 q) hok hordK (fun _ => hvoiK) (sp_set_vcs hv hqv hh) hway h71 h12 hr0 hhr) ?_
        rintro r rfl
        show am_E _ _ _ 114 [(9, .inl (rr : Int)), (8, .inl more), (7, .inl fnd), (6, .inr (.inr (.inl (some 23)))), (5, .inl sp), (4, .inl ((sp_cho S VL way))), (3, .inl g), (2, .inl way), (1, .inl 3), (0, .inr (.inr (.inl (some 71))))] [.inl ((sp_cho S (sp_set VL 3 q) way))] (am_mm D (am_wp uT (am_cpg I 84 0 97 0 6) Q184) J ρ) _
        refine am_e_ss 5 (q := (122, [(10, .inl ((sp_cho S (sp_set VL 3 q) way))), (9, .inl (rr : Int)), (8, .inl more), (7, .inl fnd), (6, .inr (.inr (.inl (some 23)))), (5, .inl sp), (4, .inl ((sp_cho S VL way))), (3, .inl g), (2, .inl way), (1, .inl 3), (0, .inr (.inr (.inl (some 71))))], [.inl (-1), .inr (.inr (.inl (some 97))), .inr (.inr (.inl (some 71)))], (am_mm D (am_wp uT (am_cpg I 84 0 97 0 6) Q184) J ρ))) rfl ?_
        refine am_e_virtual (Q := fun r => ∃ Q185, r = (none, (am_mm D (am_wp uT (am_wp uT (am_cpg I 84 0 97 0 6) Q184) Q185) J ρ)) ∧ c_talQ (am_wp uT (am_cpg I 84 0 97 0 6) Q184) Q185 (-1) (q)) rfl rfl (Nat.le_of_ble_eq_true rfl) rfl rfl (Nat.le_of_ble_eq_true rfl) (Nat.le_of_ble_eq_true rfl) (c_tally_97 _ (z := (-1)) (L := q) (Or.inr rfl) (h3.trans hql.symm) (by omega) hqn hq6 hq97) ?_
        rintro r ⟨Q185, rfl, htqm⟩
        show am_E _ _ _ 125 [(10, .inl ((sp_cho S (sp_set VL 3 q) way))), (9, .inl (rr : Int)), (8, .inl more), (7, .inl fnd), (6, .inr (.inr (.inl (some 23)))), (5, .inl sp), (4, .inl ((sp_cho S VL way))), (3, .inl g), (2, .inl way), (1, .inl 3), (0, .inr (.inr (.inl (some 71))))] [] (am_mm D (am_wp uT (am_wp uT (am_cpg I 84 0 97 0 6) Q184) Q185) J ρ) _
        refine am_e_ss 1 (q := (127, [(10, .inl ((sp_cho S (sp_set VL 3 q) way))), (9, .inl (rr : Int)), (8, .inl more), (7, .inl fnd), (6, .inr (.inr (.inl (some 23)))), (5, .inl sp), (4, .inl ((sp_cho S VL way))), (3, .inl g), (2, .inl way), (1, .inl 3), (0, .inr (.inr (.inl (some 71))))], [.inl ((sp_cho S (sp_set VL 3 q) way))], (am_mm D (am_wp uT (am_wp uT (am_cpg I 84 0 97 0 6) Q184) Q185) J ρ))) rfl ?_
        refine am_e_if2 rfl ⟨by omega, by omega⟩ (fun (hw7 : (sp_cho S (sp_set VL 3 q) way) < 0) => ?_) (fun (hw7 : ¬ ((sp_cho S (sp_set VL 3 q) way) < 0)) => ?_)
        · show am_E _ _ _ 161 [(10, .inl ((sp_cho S (sp_set VL 3 q) way))), (9, .inl (rr : Int)), (8, .inl more), (7, .inl fnd), (6, .inr (.inr (.inl (some 23)))), (5, .inl sp), (4, .inl ((sp_cho S VL way))), (3, .inl g), (2, .inl way), (1, .inl 3), (0, .inr (.inr (.inl (some 71))))] [] (am_mm D (am_wp uT (am_wp uT (am_cpg I 84 0 97 0 6) Q184) Q185) J ρ) _
          have hq97b : am_rowl ((am_wp uT (am_wp uT (am_cpg I 84 0 97 0 6) Q184) Q185) 97) 0 q := hq97
          refine am_e_ss 1 (q := (162, [(10, .inl ((sp_cho S (sp_set VL 3 q) way))), (9, .inl (rr : Int)), (8, .inl more), (7, .inl fnd), (6, .inr (.inr (.inl (some 23)))), (5, .inl sp), (4, .inl ((sp_cho S VL way))), (3, .inl g), (2, .inl way), (1, .inl 3), (0, .inr (.inr (.inl (some 71))))], [.inr (.inr (.inl (some 71)))], (am_mm D (am_wp uT (am_wp uT (am_cpg I 84 0 97 0 6) Q184) Q185) J ρ))) rfl ?_
          refine am_e_virtual (Q := fun r => ∃ Q186, r = (some (.inl ((if nx q = none then 0 else 1))), (am_mm D (am_wp uN (am_wp uT (am_wp uT (am_cpg I 84 0 97 0 6) Q184) Q185) Q186) J ρ)) ∧ ∀ q2, nx q = some q2 → am_rowl (Q186 97) 0 q2) rfl rfl (Nat.le_of_ble_eq_true rfl) rfl rfl (Nat.le_of_ble_eq_true rfl) (Nat.le_of_ble_eq_true rfl) (c_next _ (q := q) (h3.trans hql.symm) (by omega) hq6 hq97 hqe) ?_
          rintro r ⟨Q186, rfl, hnq⟩
          show am_E _ _ _ 165 [(10, .inl ((sp_cho S (sp_set VL 3 q) way))), (9, .inl (rr : Int)), (8, .inl more), (7, .inl fnd), (6, .inr (.inr (.inl (some 23)))), (5, .inl sp), (4, .inl ((sp_cho S VL way))), (3, .inl g), (2, .inl way), (1, .inl 3), (0, .inr (.inr (.inl (some 71))))] [.inl ((if nx q = none then 0 else 1))] (am_mm D (am_wp uN (am_wp uT (am_wp uT (am_cpg I 84 0 97 0 6) Q184) Q185) Q186) J ρ) _
          refine am_e_ss 3 (q := (64, [(9, .inl ((rr : Int) + 1)), (8, .inl ((if nx q = none then 0 else 1))), (10, .inl ((sp_cho S (sp_set VL 3 q) way))), (7, .inl fnd), (6, .inr (.inr (.inl (some 23)))), (5, .inl sp), (4, .inl ((sp_cho S VL way))), (3, .inl g), (2, .inl way), (1, .inl 3), (0, .inr (.inr (.inl (some 71))))], [], (am_mm D (am_wp uN (am_wp uT (am_wp uT (am_cpg I 84 0 97 0 6) Q184) Q185) Q186) J ρ))) rfl ?_
          have htalM : c_tal (am_wp uN (am_wp uT (am_wp uT (am_cpg I 84 0 97 0 6) Q184) Q185) Q186) (sp_set VL 3 []) (S 19).toNat := by
            have h2 := c_tal_sub htalK hm htqm
            exact ⟨h2.1, fun a b ha hb => (am_wp_off (show uN (91 + a) b = false from (by rcases (show a = 0 ∨ a = 1 ∨ a = 2 ∨ a = 3 ∨ a = 4 ∨ a = 5 by omega) with rfl | rfl | rfl | rfl | rfl | rfl <;> rfl))).trans ((am_wp_in (by rcases (show a = 0 ∨ a = 1 ∨ a = 2 ∨ a = 3 ∨ a = 4 ∨ a = 5 by omega) with rfl | rfl | rfl | rfl | rfl | rfl <;> rfl)).trans (h2.2 a b ha hb))⟩
          have hordM : c_ords (am_wp uN (am_wp uT (am_wp uT (am_cpg I 84 0 97 0 6) Q184) Q185) Q186) S := ⟨h3, hob, fun j hj => am_rowl_cg (hordK.2.2 j hj) (fun i _ => (am_wp_off (show uN (74 + j) _ = false from (by rcases (show j = 0 ∨ j = 1 ∨ j = 2 ∨ j = 3 ∨ j = 4 ∨ j = 5 by omega) with rfl | rfl | rfl | rfl | rfl | rfl <;> rfl))).trans (am_wp_off (show uT (74 + j) _ = false from (by rcases (show j = 0 ∨ j = 1 ∨ j = 2 ∨ j = 3 ∨ j = 4 ∨ j = 5 by omega) with rfl | rfl | rfl | rfl | rfl | rfl <;> rfl))))⟩
          have hrowsM : ∀ j, j < (S 19).toNat → ¬ VL j = [] → j ≠ 3 → am_rowl ((am_wp uN (am_wp uT (am_wp uT (am_cpg I 84 0 97 0 6) Q184) Q185) Q186) (81 + j)) 0 (VL j) := fun j hj hn hne => am_rowl_cg (hrows j hj hn hne) (fun i _ => (am_wp_off (show uN (81 + j) _ = false from (by rcases (show j = 0 ∨ j = 1 ∨ j = 2 ∨ j = 3 ∨ j = 4 ∨ j = 5 by omega) with rfl | rfl | rfl | rfl | rfl | rfl <;> rfl))).trans ((am_wp_off (show uT (81 + j) _ = false from (by rcases (show j = 0 ∨ j = 1 ∨ j = 2 ∨ j = 3 ∨ j = 4 ∨ j = 5 by omega) with rfl | rfl | rfl | rfl | rfl | rfl <;> rfl))).trans ((am_wp_off (show uT (81 + j) _ = false from (by rcases (show j = 0 ∨ j = 1 ∨ j = 2 ∨ j = 3 ∨ j = 4 ∨ j = 5 by omega) with rfl | rfl | rfl | rfl | rfl | rfl <;> rfl))).trans (if_neg (by omega)))))
          rw [sp_ff1_c] at hres
          rw [if_neg (by (try dsimp only); omega)] at hres
          cases rs with
          | nil =>
            have hnn := nx_ch_1 hch
            have hst2 : ((if nx q = none then 0 else 1 : Int) = 1 ∧ fnd = -5 ∧ res = sp_ff1 g (sp_cho S VL way) (fun x => sp_like S (3 : Int) x) (fun p => sp_cho S (sp_set VL 3 p) way) ([] :: []) ∧ nx_ch ([] :: []) = true ∧ am_rowl ((am_wp uN (am_wp uT (am_wp uT (am_cpg I 84 0 97 0 6) Q184) Q185) Q186) 97) 0 [] ∧ (rr + 1) + ([] : List (List Nat)).length < 120 ∧ ∀ p ∈ ([] :: [] : List (List Nat)), sp_voice S p ∧ ¬ p = []) ∨ (((if nx q = none then 0 else 1 : Int) = 0 ∨ ((if nx q = none then 0 else 1 : Int) = 1 ∧ ¬ fnd = -5)) ∧ res = fnd ∧ rr + 1 ≤ 120 ∧ (fnd = -5 ∨ (0 ≤ fnd ∧ fnd ≤ 5))) := Or.inr ⟨Or.inl (if_pos hnn), by rw [hres, hq2]; rfl, by simp at hrl; omega, Or.inl hq2⟩
            refine (am_less (lv := [(9, .inl ((rr + 1) : Int)), (8, .inl ((if nx q = none then 0 else 1))), (7, .inl fnd), (6, .inr (.inr (.inl (some 23)))), (5, .inl sp), (4, .inl ((sp_cho S VL way))), (3, .inl g), (2, .inl way), (1, .inl 3), (0, .inr (.inr (.inl (some 71))))]) rfl (List.forall_mem_cons.mpr ⟨rfl, List.forall_mem_cons.mpr ⟨rfl, List.forall_mem_cons.mpr ⟨rfl, List.forall_mem_cons.mpr ⟨rfl, List.forall_mem_cons.mpr ⟨rfl, List.forall_mem_cons.mpr ⟨rfl, List.forall_mem_cons.mpr ⟨rfl, List.forall_mem_cons.mpr ⟨rfl, List.forall_mem_cons.mpr ⟨rfl, List.forall_mem_cons.mpr ⟨rfl, List.forall_mem_nil _⟩⟩⟩⟩⟩⟩⟩⟩⟩⟩) (c_tell_3_l (I := am_wp uN (am_wp uT (am_wp uT (am_cpg I 84 0 97 0 6) Q184) Q185) Q186) d (VL := VL) (rr := rr + 1) (q := []) (rs := []) hok hwf hm hh hway hg h5 h71 h12 hr0 hhr hlk hordM hv ho hsp ht6 htalM hrowsM h98 hst2)).imp ?_
            rintro r ⟨Q9, rfl, h9⟩
            exact ⟨Q9, am_r_wk uW (am_k_wp (uN_uW) (am_k_wp (uT_uW) (am_k_wp (uT_uW) (am_k_cpg (fun _ => rfl) (am_k_id))))), h9⟩
          | cons q2 rs2 =>
            obtain ⟨hn2, hch2⟩ := nx_ch_c hch
            rw [List.length_cons] at hrl
            have hst2 : ((if nx q = none then 0 else 1 : Int) = 1 ∧ fnd = -5 ∧ res = sp_ff1 g (sp_cho S VL way) (fun x => sp_like S (3 : Int) x) (fun p => sp_cho S (sp_set VL 3 p) way) (q2 :: rs2) ∧ nx_ch (q2 :: rs2) = true ∧ am_rowl ((am_wp uN (am_wp uT (am_wp uT (am_cpg I 84 0 97 0 6) Q184) Q185) Q186) 97) 0 q2 ∧ (rr + 1) + rs2.length < 120 ∧ ∀ p ∈ q2 :: rs2, sp_voice S p ∧ ¬ p = []) ∨ (((if nx q = none then 0 else 1 : Int) = 0 ∨ ((if nx q = none then 0 else 1 : Int) = 1 ∧ ¬ fnd = -5)) ∧ res = fnd ∧ rr + 1 ≤ 120 ∧ (fnd = -5 ∨ (0 ≤ fnd ∧ fnd ≤ 5))) := Or.inl ⟨if_neg (by rw [hn2]; simp), hq2, hres, hch2, hnq q2 hn2, by omega, fun p hp => hvs p (List.mem_cons_of_mem _ hp)⟩
            refine (am_less (lv := [(9, .inl ((rr + 1) : Int)), (8, .inl ((if nx q = none then 0 else 1))), (7, .inl fnd), (6, .inr (.inr (.inl (some 23)))), (5, .inl sp), (4, .inl ((sp_cho S VL way))), (3, .inl g), (2, .inl way), (1, .inl 3), (0, .inr (.inr (.inl (some 71))))]) rfl (List.forall_mem_cons.mpr ⟨rfl, List.forall_mem_cons.mpr ⟨rfl, List.forall_mem_cons.mpr ⟨rfl, List.forall_mem_cons.mpr ⟨rfl, List.forall_mem_cons.mpr ⟨rfl, List.forall_mem_cons.mpr ⟨rfl, List.forall_mem_cons.mpr ⟨rfl, List.forall_mem_cons.mpr ⟨rfl, List.forall_mem_cons.mpr ⟨rfl, List.forall_mem_cons.mpr ⟨rfl, List.forall_mem_nil _⟩⟩⟩⟩⟩⟩⟩⟩⟩⟩) (c_tell_3_l (I := am_wp uN (am_wp uT (am_wp uT (am_cpg I 84 0 97 0 6) Q184) Q185) Q186) d (VL := VL) (rr := rr + 1) (q := q2) (rs := rs2) hok hwf hm hh hway hg h5 h71 h12 hr0 hhr hlk hordM hv ho hsp ht6 htalM hrowsM h98 hst2)).imp ?_
            rintro r ⟨Q9, rfl, h9⟩
            exact ⟨Q9, am_r_wk uW (am_k_wp (uN_uW) (am_k_wp (uT_uW) (am_k_wp (uT_uW) (am_k_cpg (fun _ => rfl) (am_k_id))))), h9⟩
        · show am_E _ _ _ 130 [(10, .inl ((sp_cho S (sp_set VL 3 q) way))), (9, .inl (rr : Int)), (8, .inl more), (7, .inl fnd), (6, .inr (.inr (.inl (some 23)))), (5, .inl sp), (4, .inl ((sp_cho S VL way))), (3, .inl g), (2, .inl way), (1, .inl 3), (0, .inr (.inr (.inl (some 71))))] [] (am_mm D (am_wp uT (am_wp uT (am_cpg I 84 0 97 0 6) Q184) Q185) J ρ) _
          refine am_e_ss 1 (q := (131, [(10, .inl ((sp_cho S (sp_set VL 3 q) way))), (9, .inl (rr : Int)), (8, .inl more), (7, .inl fnd), (6, .inr (.inr (.inl (some 23)))), (5, .inl sp), (4, .inl ((sp_cho S VL way))), (3, .inl g), (2, .inl way), (1, .inl 3), (0, .inr (.inr (.inl (some 71))))], [.inl g], (am_mm D (am_wp uT (am_wp uT (am_cpg I 84 0 97 0 6) Q184) Q185) J ρ))) rfl ?_
          refine am_e_if2 rfl ⟨by omega, by omega⟩ (fun (hw8 : g = 0) => ?_) (fun (hw8 : ¬ (g = 0)) => ?_)
          · show am_E _ _ _ 150 [(10, .inl ((sp_cho S (sp_set VL 3 q) way))), (9, .inl (rr : Int)), (8, .inl more), (7, .inl fnd), (6, .inr (.inr (.inl (some 23)))), (5, .inl sp), (4, .inl ((sp_cho S VL way))), (3, .inl g), (2, .inl way), (1, .inl 3), (0, .inr (.inr (.inl (some 71))))] [] (am_mm D (am_wp uT (am_wp uT (am_cpg I 84 0 97 0 6) Q184) Q185) J ρ) _
            refine am_e_ss 2 (q := (154, [(10, .inl ((sp_cho S (sp_set VL 3 q) way))), (9, .inl (rr : Int)), (8, .inl more), (7, .inl fnd), (6, .inr (.inr (.inl (some 23)))), (5, .inl sp), (4, .inl ((sp_cho S VL way))), (3, .inl g), (2, .inl way), (1, .inl 3), (0, .inr (.inr (.inl (some 71))))], [.inl ((sp_cho S VL way)), .inl ((sp_cho S (sp_set VL 3 q) way))], (am_mm D (am_wp uT (am_wp uT (am_cpg I 84 0 97 0 6) Q184) Q185) J ρ))) rfl ?_
            refine am_e_icmp2 rfl ⟨by omega, by omega⟩ ⟨by omega, by omega⟩ (fun (hw9 : (sp_cho S (sp_set VL 3 q) way) = (sp_cho S VL way)) => ?_) (fun (hw9 : ¬ ((sp_cho S (sp_set VL 3 q) way) = (sp_cho S VL way))) => ?_)
            · show am_E _ _ _ 161 [(10, .inl ((sp_cho S (sp_set VL 3 q) way))), (9, .inl (rr : Int)), (8, .inl more), (7, .inl fnd), (6, .inr (.inr (.inl (some 23)))), (5, .inl sp), (4, .inl ((sp_cho S VL way))), (3, .inl g), (2, .inl way), (1, .inl 3), (0, .inr (.inr (.inl (some 71))))] [] (am_mm D (am_wp uT (am_wp uT (am_cpg I 84 0 97 0 6) Q184) Q185) J ρ) _
              have hq97b : am_rowl ((am_wp uT (am_wp uT (am_cpg I 84 0 97 0 6) Q184) Q185) 97) 0 q := hq97
              refine am_e_ss 1 (q := (162, [(10, .inl ((sp_cho S (sp_set VL 3 q) way))), (9, .inl (rr : Int)), (8, .inl more), (7, .inl fnd), (6, .inr (.inr (.inl (some 23)))), (5, .inl sp), (4, .inl ((sp_cho S VL way))), (3, .inl g), (2, .inl way), (1, .inl 3), (0, .inr (.inr (.inl (some 71))))], [.inr (.inr (.inl (some 71)))], (am_mm D (am_wp uT (am_wp uT (am_cpg I 84 0 97 0 6) Q184) Q185) J ρ))) rfl ?_
              refine am_e_virtual (Q := fun r => ∃ Q187, r = (some (.inl ((if nx q = none then 0 else 1))), (am_mm D (am_wp uN (am_wp uT (am_wp uT (am_cpg I 84 0 97 0 6) Q184) Q185) Q187) J ρ)) ∧ ∀ q2, nx q = some q2 → am_rowl (Q187 97) 0 q2) rfl rfl (Nat.le_of_ble_eq_true rfl) rfl rfl (Nat.le_of_ble_eq_true rfl) (Nat.le_of_ble_eq_true rfl) (c_next _ (q := q) (h3.trans hql.symm) (by omega) hq6 hq97 hqe) ?_
              rintro r ⟨Q187, rfl, hnq⟩
              show am_E _ _ _ 165 [(10, .inl ((sp_cho S (sp_set VL 3 q) way))), (9, .inl (rr : Int)), (8, .inl more), (7, .inl fnd), (6, .inr (.inr (.inl (some 23)))), (5, .inl sp), (4, .inl ((sp_cho S VL way))), (3, .inl g), (2, .inl way), (1, .inl 3), (0, .inr (.inr (.inl (some 71))))] [.inl ((if nx q = none then 0 else 1))] (am_mm D (am_wp uN (am_wp uT (am_wp uT (am_cpg I 84 0 97 0 6) Q184) Q185) Q187) J ρ) _
              refine am_e_ss 3 (q := (64, [(9, .inl ((rr : Int) + 1)), (8, .inl ((if nx q = none then 0 else 1))), (10, .inl ((sp_cho S (sp_set VL 3 q) way))), (7, .inl fnd), (6, .inr (.inr (.inl (some 23)))), (5, .inl sp), (4, .inl ((sp_cho S VL way))), (3, .inl g), (2, .inl way), (1, .inl 3), (0, .inr (.inr (.inl (some 71))))], [], (am_mm D (am_wp uN (am_wp uT (am_wp uT (am_cpg I 84 0 97 0 6) Q184) Q185) Q187) J ρ))) rfl ?_
              have htalM : c_tal (am_wp uN (am_wp uT (am_wp uT (am_cpg I 84 0 97 0 6) Q184) Q185) Q187) (sp_set VL 3 []) (S 19).toNat := by
                have h2 := c_tal_sub htalK hm htqm
                exact ⟨h2.1, fun a b ha hb => (am_wp_off (show uN (91 + a) b = false from (by rcases (show a = 0 ∨ a = 1 ∨ a = 2 ∨ a = 3 ∨ a = 4 ∨ a = 5 by omega) with rfl | rfl | rfl | rfl | rfl | rfl <;> rfl))).trans ((am_wp_in (by rcases (show a = 0 ∨ a = 1 ∨ a = 2 ∨ a = 3 ∨ a = 4 ∨ a = 5 by omega) with rfl | rfl | rfl | rfl | rfl | rfl <;> rfl)).trans (h2.2 a b ha hb))⟩
              have hordM : c_ords (am_wp uN (am_wp uT (am_wp uT (am_cpg I 84 0 97 0 6) Q184) Q185) Q187) S := ⟨h3, hob, fun j hj => am_rowl_cg (hordK.2.2 j hj) (fun i _ => (am_wp_off (show uN (74 + j) _ = false from (by rcases (show j = 0 ∨ j = 1 ∨ j = 2 ∨ j = 3 ∨ j = 4 ∨ j = 5 by omega) with rfl | rfl | rfl | rfl | rfl | rfl <;> rfl))).trans (am_wp_off (show uT (74 + j) _ = false from (by rcases (show j = 0 ∨ j = 1 ∨ j = 2 ∨ j = 3 ∨ j = 4 ∨ j = 5 by omega) with rfl | rfl | rfl | rfl | rfl | rfl <;> rfl))))⟩
              have hrowsM : ∀ j, j < (S 19).toNat → ¬ VL j = [] → j ≠ 3 → am_rowl ((am_wp uN (am_wp uT (am_wp uT (am_cpg I 84 0 97 0 6) Q184) Q185) Q187) (81 + j)) 0 (VL j) := fun j hj hn hne => am_rowl_cg (hrows j hj hn hne) (fun i _ => (am_wp_off (show uN (81 + j) _ = false from (by rcases (show j = 0 ∨ j = 1 ∨ j = 2 ∨ j = 3 ∨ j = 4 ∨ j = 5 by omega) with rfl | rfl | rfl | rfl | rfl | rfl <;> rfl))).trans ((am_wp_off (show uT (81 + j) _ = false from (by rcases (show j = 0 ∨ j = 1 ∨ j = 2 ∨ j = 3 ∨ j = 4 ∨ j = 5 by omega) with rfl | rfl | rfl | rfl | rfl | rfl <;> rfl))).trans ((am_wp_off (show uT (81 + j) _ = false from (by rcases (show j = 0 ∨ j = 1 ∨ j = 2 ∨ j = 3 ∨ j = 4 ∨ j = 5 by omega) with rfl | rfl | rfl | rfl | rfl | rfl <;> rfl))).trans (if_neg (by omega)))))
              rw [sp_ff1_c] at hres
              rw [if_neg (by (try dsimp only); omega)] at hres
              cases rs with
              | nil =>
                have hnn := nx_ch_1 hch
                have hst2 : ((if nx q = none then 0 else 1 : Int) = 1 ∧ fnd = -5 ∧ res = sp_ff1 g (sp_cho S VL way) (fun x => sp_like S (3 : Int) x) (fun p => sp_cho S (sp_set VL 3 p) way) ([] :: []) ∧ nx_ch ([] :: []) = true ∧ am_rowl ((am_wp uN (am_wp uT (am_wp uT (am_cpg I 84 0 97 0 6) Q184) Q185) Q187) 97) 0 [] ∧ (rr + 1) + ([] : List (List Nat)).length < 120 ∧ ∀ p ∈ ([] :: [] : List (List Nat)), sp_voice S p ∧ ¬ p = []) ∨ (((if nx q = none then 0 else 1 : Int) = 0 ∨ ((if nx q = none then 0 else 1 : Int) = 1 ∧ ¬ fnd = -5)) ∧ res = fnd ∧ rr + 1 ≤ 120 ∧ (fnd = -5 ∨ (0 ≤ fnd ∧ fnd ≤ 5))) := Or.inr ⟨Or.inl (if_pos hnn), by rw [hres, hq2]; rfl, by simp at hrl; omega, Or.inl hq2⟩
                refine (am_less (lv := [(9, .inl ((rr + 1) : Int)), (8, .inl ((if nx q = none then 0 else 1))), (7, .inl fnd), (6, .inr (.inr (.inl (some 23)))), (5, .inl sp), (4, .inl ((sp_cho S VL way))), (3, .inl g), (2, .inl way), (1, .inl 3), (0, .inr (.inr (.inl (some 71))))]) rfl (List.forall_mem_cons.mpr ⟨rfl, List.forall_mem_cons.mpr ⟨rfl, List.forall_mem_cons.mpr ⟨rfl, List.forall_mem_cons.mpr ⟨rfl, List.forall_mem_cons.mpr ⟨rfl, List.forall_mem_cons.mpr ⟨rfl, List.forall_mem_cons.mpr ⟨rfl, List.forall_mem_cons.mpr ⟨rfl, List.forall_mem_cons.mpr ⟨rfl, List.forall_mem_cons.mpr ⟨rfl, List.forall_mem_nil _⟩⟩⟩⟩⟩⟩⟩⟩⟩⟩) (c_tell_3_l (I := am_wp uN (am_wp uT (am_wp uT (am_cpg I 84 0 97 0 6) Q184) Q185) Q187) d (VL := VL) (rr := rr + 1) (q := []) (rs := []) hok hwf hm hh hway hg h5 h71 h12 hr0 hhr hlk hordM hv ho hsp ht6 htalM hrowsM h98 hst2)).imp ?_
                rintro r ⟨Q9, rfl, h9⟩
                exact ⟨Q9, am_r_wk uW (am_k_wp (uN_uW) (am_k_wp (uT_uW) (am_k_wp (uT_uW) (am_k_cpg (fun _ => rfl) (am_k_id))))), h9⟩
              | cons q2 rs2 =>
                obtain ⟨hn2, hch2⟩ := nx_ch_c hch
                rw [List.length_cons] at hrl
                have hst2 : ((if nx q = none then 0 else 1 : Int) = 1 ∧ fnd = -5 ∧ res = sp_ff1 g (sp_cho S VL way) (fun x => sp_like S (3 : Int) x) (fun p => sp_cho S (sp_set VL 3 p) way) (q2 :: rs2) ∧ nx_ch (q2 :: rs2) = true ∧ am_rowl ((am_wp uN (am_wp uT (am_wp uT (am_cpg I 84 0 97 0 6) Q184) Q185) Q187) 97) 0 q2 ∧ (rr + 1) + rs2.length < 120 ∧ ∀ p ∈ q2 :: rs2, sp_voice S p ∧ ¬ p = []) ∨ (((if nx q = none then 0 else 1 : Int) = 0 ∨ ((if nx q = none then 0 else 1 : Int) = 1 ∧ ¬ fnd = -5)) ∧ res = fnd ∧ rr + 1 ≤ 120 ∧ (fnd = -5 ∨ (0 ≤ fnd ∧ fnd ≤ 5))) := Or.inl ⟨if_neg (by rw [hn2]; simp), hq2, hres, hch2, hnq q2 hn2, by omega, fun p hp => hvs p (List.mem_cons_of_mem _ hp)⟩
                refine (am_less (lv := [(9, .inl ((rr + 1) : Int)), (8, .inl ((if nx q = none then 0 else 1))), (7, .inl fnd), (6, .inr (.inr (.inl (some 23)))), (5, .inl sp), (4, .inl ((sp_cho S VL way))), (3, .inl g), (2, .inl way), (1, .inl 3), (0, .inr (.inr (.inl (some 71))))]) rfl (List.forall_mem_cons.mpr ⟨rfl, List.forall_mem_cons.mpr ⟨rfl, List.forall_mem_cons.mpr ⟨rfl, List.forall_mem_cons.mpr ⟨rfl, List.forall_mem_cons.mpr ⟨rfl, List.forall_mem_cons.mpr ⟨rfl, List.forall_mem_cons.mpr ⟨rfl, List.forall_mem_cons.mpr ⟨rfl, List.forall_mem_cons.mpr ⟨rfl, List.forall_mem_cons.mpr ⟨rfl, List.forall_mem_nil _⟩⟩⟩⟩⟩⟩⟩⟩⟩⟩) (c_tell_3_l (I := am_wp uN (am_wp uT (am_wp uT (am_cpg I 84 0 97 0 6) Q184) Q185) Q187) d (VL := VL) (rr := rr + 1) (q := q2) (rs := rs2) hok hwf hm hh hway hg h5 h71 h12 hr0 hhr hlk hordM hv ho hsp ht6 htalM hrowsM h98 hst2)).imp ?_
                rintro r ⟨Q9, rfl, h9⟩
                exact ⟨Q9, am_r_wk uW (am_k_wp (uN_uW) (am_k_wp (uT_uW) (am_k_wp (uT_uW) (am_k_cpg (fun _ => rfl) (am_k_id))))), h9⟩
            · show am_E _ _ _ 157 [(10, .inl ((sp_cho S (sp_set VL 3 q) way))), (9, .inl (rr : Int)), (8, .inl more), (7, .inl fnd), (6, .inr (.inr (.inl (some 23)))), (5, .inl sp), (4, .inl ((sp_cho S VL way))), (3, .inl g), (2, .inl way), (1, .inl 3), (0, .inr (.inr (.inl (some 71))))] [] (am_mm D (am_wp uT (am_wp uT (am_cpg I 84 0 97 0 6) Q184) Q185) J ρ) _
              refine am_e_ss 2 (q := (161, [(7, .inl ((sp_cho S (sp_set VL 3 q) way))), (10, .inl ((sp_cho S (sp_set VL 3 q) way))), (9, .inl (rr : Int)), (8, .inl more), (6, .inr (.inr (.inl (some 23)))), (5, .inl sp), (4, .inl ((sp_cho S VL way))), (3, .inl g), (2, .inl way), (1, .inl 3), (0, .inr (.inr (.inl (some 71))))], [], (am_mm D (am_wp uT (am_wp uT (am_cpg I 84 0 97 0 6) Q184) Q185) J ρ))) rfl ?_
              have hq97b : am_rowl ((am_wp uT (am_wp uT (am_cpg I 84 0 97 0 6) Q184) Q185) 97) 0 q := hq97
              refine am_e_ss 1 (q := (162, [(7, .inl ((sp_cho S (sp_set VL 3 q) way))), (10, .inl ((sp_cho S (sp_set VL 3 q) way))), (9, .inl (rr : Int)), (8, .inl more), (6, .inr (.inr (.inl (some 23)))), (5, .inl sp), (4, .inl ((sp_cho S VL way))), (3, .inl g), (2, .inl way), (1, .inl 3), (0, .inr (.inr (.inl (some 71))))], [.inr (.inr (.inl (some 71)))], (am_mm D (am_wp uT (am_wp uT (am_cpg I 84 0 97 0 6) Q184) Q185) J ρ))) rfl ?_
              refine am_e_virtual (Q := fun r => ∃ Q188, r = (some (.inl ((if nx q = none then 0 else 1))), (am_mm D (am_wp uN (am_wp uT (am_wp uT (am_cpg I 84 0 97 0 6) Q184) Q185) Q188) J ρ)) ∧ ∀ q2, nx q = some q2 → am_rowl (Q188 97) 0 q2) rfl rfl (Nat.le_of_ble_eq_true rfl) rfl rfl (Nat.le_of_ble_eq_true rfl) (Nat.le_of_ble_eq_true rfl) (c_next _ (q := q) (h3.trans hql.symm) (by omega) hq6 hq97 hqe) ?_
              rintro r ⟨Q188, rfl, hnq⟩
              show am_E _ _ _ 165 [(7, .inl ((sp_cho S (sp_set VL 3 q) way))), (10, .inl ((sp_cho S (sp_set VL 3 q) way))), (9, .inl (rr : Int)), (8, .inl more), (6, .inr (.inr (.inl (some 23)))), (5, .inl sp), (4, .inl ((sp_cho S VL way))), (3, .inl g), (2, .inl way), (1, .inl 3), (0, .inr (.inr (.inl (some 71))))] [.inl ((if nx q = none then 0 else 1))] (am_mm D (am_wp uN (am_wp uT (am_wp uT (am_cpg I 84 0 97 0 6) Q184) Q185) Q188) J ρ) _
              refine am_e_ss 3 (q := (64, [(9, .inl ((rr : Int) + 1)), (8, .inl ((if nx q = none then 0 else 1))), (7, .inl ((sp_cho S (sp_set VL 3 q) way))), (10, .inl ((sp_cho S (sp_set VL 3 q) way))), (6, .inr (.inr (.inl (some 23)))), (5, .inl sp), (4, .inl ((sp_cho S VL way))), (3, .inl g), (2, .inl way), (1, .inl 3), (0, .inr (.inr (.inl (some 71))))], [], (am_mm D (am_wp uN (am_wp uT (am_wp uT (am_cpg I 84 0 97 0 6) Q184) Q185) Q188) J ρ))) rfl ?_
              have htalM : c_tal (am_wp uN (am_wp uT (am_wp uT (am_cpg I 84 0 97 0 6) Q184) Q185) Q188) (sp_set VL 3 []) (S 19).toNat := by
                have h2 := c_tal_sub htalK hm htqm
                exact ⟨h2.1, fun a b ha hb => (am_wp_off (show uN (91 + a) b = false from (by rcases (show a = 0 ∨ a = 1 ∨ a = 2 ∨ a = 3 ∨ a = 4 ∨ a = 5 by omega) with rfl | rfl | rfl | rfl | rfl | rfl <;> rfl))).trans ((am_wp_in (by rcases (show a = 0 ∨ a = 1 ∨ a = 2 ∨ a = 3 ∨ a = 4 ∨ a = 5 by omega) with rfl | rfl | rfl | rfl | rfl | rfl <;> rfl)).trans (h2.2 a b ha hb))⟩
              have hordM : c_ords (am_wp uN (am_wp uT (am_wp uT (am_cpg I 84 0 97 0 6) Q184) Q185) Q188) S := ⟨h3, hob, fun j hj => am_rowl_cg (hordK.2.2 j hj) (fun i _ => (am_wp_off (show uN (74 + j) _ = false from (by rcases (show j = 0 ∨ j = 1 ∨ j = 2 ∨ j = 3 ∨ j = 4 ∨ j = 5 by omega) with rfl | rfl | rfl | rfl | rfl | rfl <;> rfl))).trans (am_wp_off (show uT (74 + j) _ = false from (by rcases (show j = 0 ∨ j = 1 ∨ j = 2 ∨ j = 3 ∨ j = 4 ∨ j = 5 by omega) with rfl | rfl | rfl | rfl | rfl | rfl <;> rfl))))⟩
              have hrowsM : ∀ j, j < (S 19).toNat → ¬ VL j = [] → j ≠ 3 → am_rowl ((am_wp uN (am_wp uT (am_wp uT (am_cpg I 84 0 97 0 6) Q184) Q185) Q188) (81 + j)) 0 (VL j) := fun j hj hn hne => am_rowl_cg (hrows j hj hn hne) (fun i _ => (am_wp_off (show uN (81 + j) _ = false from (by rcases (show j = 0 ∨ j = 1 ∨ j = 2 ∨ j = 3 ∨ j = 4 ∨ j = 5 by omega) with rfl | rfl | rfl | rfl | rfl | rfl <;> rfl))).trans ((am_wp_off (show uT (81 + j) _ = false from (by rcases (show j = 0 ∨ j = 1 ∨ j = 2 ∨ j = 3 ∨ j = 4 ∨ j = 5 by omega) with rfl | rfl | rfl | rfl | rfl | rfl <;> rfl))).trans ((am_wp_off (show uT (81 + j) _ = false from (by rcases (show j = 0 ∨ j = 1 ∨ j = 2 ∨ j = 3 ∨ j = 4 ∨ j = 5 by omega) with rfl | rfl | rfl | rfl | rfl | rfl <;> rfl))).trans (if_neg (by omega)))))
              rw [sp_ff1_c] at hres
              rw [if_pos (by (try dsimp only); omega)] at hres
              have hst2 : ((if nx q = none then 0 else 1 : Int) = 1 ∧ (sp_cho S (sp_set VL 3 q) way) = -5 ∧ res = sp_ff1 g (sp_cho S VL way) (fun x => sp_like S (3 : Int) x) (fun p => sp_cho S (sp_set VL 3 p) way) ([] :: []) ∧ nx_ch ([] :: []) = true ∧ am_rowl ((am_wp uN (am_wp uT (am_wp uT (am_cpg I 84 0 97 0 6) Q184) Q185) Q188) 97) 0 [] ∧ (rr + 1) + ([] : List (List Nat)).length < 120 ∧ ∀ p ∈ ([] :: [] : List (List Nat)), sp_voice S p ∧ ¬ p = []) ∨ (((if nx q = none then 0 else 1 : Int) = 0 ∨ ((if nx q = none then 0 else 1 : Int) = 1 ∧ ¬ (sp_cho S (sp_set VL 3 q) way) = -5)) ∧ res = (sp_cho S (sp_set VL 3 q) way) ∧ rr + 1 ≤ 120 ∧ ((sp_cho S (sp_set VL 3 q) way) = -5 ∨ (0 ≤ (sp_cho S (sp_set VL 3 q) way) ∧ (sp_cho S (sp_set VL 3 q) way) ≤ 5))) := by
                refine Or.inr ⟨?_, hres, by omega, by omega⟩
                split
                · exact Or.inl rfl
                · exact Or.inr ⟨rfl, by omega⟩
              refine (am_less (lv := [(9, .inl ((rr + 1) : Int)), (8, .inl ((if nx q = none then 0 else 1))), (7, .inl ((sp_cho S (sp_set VL 3 q) way))), (6, .inr (.inr (.inl (some 23)))), (5, .inl sp), (4, .inl ((sp_cho S VL way))), (3, .inl g), (2, .inl way), (1, .inl 3), (0, .inr (.inr (.inl (some 71))))]) rfl (List.forall_mem_cons.mpr ⟨rfl, List.forall_mem_cons.mpr ⟨rfl, List.forall_mem_cons.mpr ⟨rfl, List.forall_mem_cons.mpr ⟨rfl, List.forall_mem_cons.mpr ⟨rfl, List.forall_mem_cons.mpr ⟨rfl, List.forall_mem_cons.mpr ⟨rfl, List.forall_mem_cons.mpr ⟨rfl, List.forall_mem_cons.mpr ⟨rfl, List.forall_mem_cons.mpr ⟨rfl, List.forall_mem_nil _⟩⟩⟩⟩⟩⟩⟩⟩⟩⟩) (c_tell_3_l (I := am_wp uN (am_wp uT (am_wp uT (am_cpg I 84 0 97 0 6) Q184) Q185) Q188) d (VL := VL) (rr := rr + 1) (q := []) (rs := []) hok hwf hm hh hway hg h5 h71 h12 hr0 hhr hlk hordM hv ho hsp ht6 htalM hrowsM h98 hst2)).imp ?_
              rintro r ⟨Q9, rfl, h9⟩
              exact ⟨Q9, am_r_wk uW (am_k_wp (uN_uW) (am_k_wp (uT_uW) (am_k_wp (uT_uW) (am_k_cpg (fun _ => rfl) (am_k_id))))), h9⟩
          · show am_E _ _ _ 134 [(10, .inl ((sp_cho S (sp_set VL 3 q) way))), (9, .inl (rr : Int)), (8, .inl more), (7, .inl fnd), (6, .inr (.inr (.inl (some 23)))), (5, .inl sp), (4, .inl ((sp_cho S VL way))), (3, .inl g), (2, .inl way), (1, .inl 3), (0, .inr (.inr (.inl (some 71))))] [] (am_mm D (am_wp uT (am_wp uT (am_cpg I 84 0 97 0 6) Q184) Q185) J ρ) _
            have hl1 := hlk (sp_cho S (sp_set VL 3 q) way).toNat (by omega)
            have hl2 := hlk (sp_cho S VL way).toNat (by omega)
            rw [show (((sp_cho S (sp_set VL 3 q) way).toNat : Nat) : Int) = sp_cho S (sp_set VL 3 q) way by omega] at hl1
            rw [show ((((sp_cho S VL way)).toNat : Nat) : Int) = (sp_cho S VL way) by omega] at hl2
            have hl3 := sp_like_b hok hwf (m := 3) (b := sp_cho S (sp_set VL 3 q) way) ⟨by omega, by omega⟩ ⟨by omega, by omega⟩
            have hl4 := sp_like_b hok hwf (m := 3) (b := (sp_cho S VL way)) ⟨by omega, by omega⟩ ⟨by omega, by omega⟩
            refine am_e_ss 2 (q := (138, [(10, .inl ((sp_cho S (sp_set VL 3 q) way))), (9, .inl (rr : Int)), (8, .inl more), (7, .inl fnd), (6, .inr (.inr (.inl (some 23)))), (5, .inl sp), (4, .inl ((sp_cho S VL way))), (3, .inl g), (2, .inl way), (1, .inl 3), (0, .inr (.inr (.inl (some 71))))], [.inl ((sp_cho S (sp_set VL 3 q) way)), .inr (.inr (.inl (some 23)))], (am_mm D (am_wp uT (am_wp uT (am_cpg I 84 0 97 0 6) Q184) Q185) J ρ))) rfl ?_
            refine am_e_iaload (m := 6) rfl rfl (by omega) (by omega) (by omega) ?_
            show am_E _ _ _ 139 [(10, .inl ((sp_cho S (sp_set VL 3 q) way))), (9, .inl (rr : Int)), (8, .inl more), (7, .inl fnd), (6, .inr (.inr (.inl (some 23)))), (5, .inl sp), (4, .inl ((sp_cho S VL way))), (3, .inl g), (2, .inl way), (1, .inl 3), (0, .inr (.inr (.inl (some 71))))] [.inl ((I 23 ((sp_cho S (sp_set VL 3 q) way)).toNat))] (am_mm D (am_wp uT (am_wp uT (am_cpg I 84 0 97 0 6) Q184) Q185) J ρ) _
            refine am_e_ss 2 (q := (143, [(10, .inl ((sp_cho S (sp_set VL 3 q) way))), (9, .inl (rr : Int)), (8, .inl more), (7, .inl fnd), (6, .inr (.inr (.inl (some 23)))), (5, .inl sp), (4, .inl ((sp_cho S VL way))), (3, .inl g), (2, .inl way), (1, .inl 3), (0, .inr (.inr (.inl (some 71))))], [.inl ((sp_cho S VL way)), .inr (.inr (.inl (some 23))), .inl ((I 23 ((sp_cho S (sp_set VL 3 q) way)).toNat))], (am_mm D (am_wp uT (am_wp uT (am_cpg I 84 0 97 0 6) Q184) Q185) J ρ))) rfl ?_
            refine am_e_iaload (m := 6) rfl rfl (by omega) (by omega) (by omega) ?_
            show am_E _ _ _ 144 [(10, .inl ((sp_cho S (sp_set VL 3 q) way))), (9, .inl (rr : Int)), (8, .inl more), (7, .inl fnd), (6, .inr (.inr (.inl (some 23)))), (5, .inl sp), (4, .inl ((sp_cho S VL way))), (3, .inl g), (2, .inl way), (1, .inl 3), (0, .inr (.inr (.inl (some 71))))] [.inl ((I 23 ((sp_cho S VL way)).toNat)), .inl ((I 23 ((sp_cho S (sp_set VL 3 q) way)).toNat))] (am_mm D (am_wp uT (am_wp uT (am_cpg I 84 0 97 0 6) Q184) Q185) J ρ) _
            refine am_e_icmp2 rfl ⟨by omega, by omega⟩ ⟨by omega, by omega⟩ (fun (hw10 : (I 23 ((sp_cho S (sp_set VL 3 q) way)).toNat) ≤ (I 23 ((sp_cho S VL way)).toNat)) => ?_) (fun (hw10 : ¬ ((I 23 ((sp_cho S (sp_set VL 3 q) way)).toNat) ≤ (I 23 ((sp_cho S VL way)).toNat))) => ?_)
            · show am_E _ _ _ 161 [(10, .inl ((sp_cho S (sp_set VL 3 q) way))), (9, .inl (rr : Int)), (8, .inl more), (7, .inl fnd), (6, .inr (.inr (.inl (some 23)))), (5, .inl sp), (4, .inl ((sp_cho S VL way))), (3, .inl g), (2, .inl way), (1, .inl 3), (0, .inr (.inr (.inl (some 71))))] [] (am_mm D (am_wp uT (am_wp uT (am_cpg I 84 0 97 0 6) Q184) Q185) J ρ) _
              have hq97b : am_rowl ((am_wp uT (am_wp uT (am_cpg I 84 0 97 0 6) Q184) Q185) 97) 0 q := hq97
              refine am_e_ss 1 (q := (162, [(10, .inl ((sp_cho S (sp_set VL 3 q) way))), (9, .inl (rr : Int)), (8, .inl more), (7, .inl fnd), (6, .inr (.inr (.inl (some 23)))), (5, .inl sp), (4, .inl ((sp_cho S VL way))), (3, .inl g), (2, .inl way), (1, .inl 3), (0, .inr (.inr (.inl (some 71))))], [.inr (.inr (.inl (some 71)))], (am_mm D (am_wp uT (am_wp uT (am_cpg I 84 0 97 0 6) Q184) Q185) J ρ))) rfl ?_
              refine am_e_virtual (Q := fun r => ∃ Q189, r = (some (.inl ((if nx q = none then 0 else 1))), (am_mm D (am_wp uN (am_wp uT (am_wp uT (am_cpg I 84 0 97 0 6) Q184) Q185) Q189) J ρ)) ∧ ∀ q2, nx q = some q2 → am_rowl (Q189 97) 0 q2) rfl rfl (Nat.le_of_ble_eq_true rfl) rfl rfl (Nat.le_of_ble_eq_true rfl) (Nat.le_of_ble_eq_true rfl) (c_next _ (q := q) (h3.trans hql.symm) (by omega) hq6 hq97 hqe) ?_
              rintro r ⟨Q189, rfl, hnq⟩
              show am_E _ _ _ 165 [(10, .inl ((sp_cho S (sp_set VL 3 q) way))), (9, .inl (rr : Int)), (8, .inl more), (7, .inl fnd), (6, .inr (.inr (.inl (some 23)))), (5, .inl sp), (4, .inl ((sp_cho S VL way))), (3, .inl g), (2, .inl way), (1, .inl 3), (0, .inr (.inr (.inl (some 71))))] [.inl ((if nx q = none then 0 else 1))] (am_mm D (am_wp uN (am_wp uT (am_wp uT (am_cpg I 84 0 97 0 6) Q184) Q185) Q189) J ρ) _
              refine am_e_ss 3 (q := (64, [(9, .inl ((rr : Int) + 1)), (8, .inl ((if nx q = none then 0 else 1))), (10, .inl ((sp_cho S (sp_set VL 3 q) way))), (7, .inl fnd), (6, .inr (.inr (.inl (some 23)))), (5, .inl sp), (4, .inl ((sp_cho S VL way))), (3, .inl g), (2, .inl way), (1, .inl 3), (0, .inr (.inr (.inl (some 71))))], [], (am_mm D (am_wp uN (am_wp uT (am_wp uT (am_cpg I 84 0 97 0 6) Q184) Q185) Q189) J ρ))) rfl ?_
              have htalM : c_tal (am_wp uN (am_wp uT (am_wp uT (am_cpg I 84 0 97 0 6) Q184) Q185) Q189) (sp_set VL 3 []) (S 19).toNat := by
                have h2 := c_tal_sub htalK hm htqm
                exact ⟨h2.1, fun a b ha hb => (am_wp_off (show uN (91 + a) b = false from (by rcases (show a = 0 ∨ a = 1 ∨ a = 2 ∨ a = 3 ∨ a = 4 ∨ a = 5 by omega) with rfl | rfl | rfl | rfl | rfl | rfl <;> rfl))).trans ((am_wp_in (by rcases (show a = 0 ∨ a = 1 ∨ a = 2 ∨ a = 3 ∨ a = 4 ∨ a = 5 by omega) with rfl | rfl | rfl | rfl | rfl | rfl <;> rfl)).trans (h2.2 a b ha hb))⟩
              have hordM : c_ords (am_wp uN (am_wp uT (am_wp uT (am_cpg I 84 0 97 0 6) Q184) Q185) Q189) S := ⟨h3, hob, fun j hj => am_rowl_cg (hordK.2.2 j hj) (fun i _ => (am_wp_off (show uN (74 + j) _ = false from (by rcases (show j = 0 ∨ j = 1 ∨ j = 2 ∨ j = 3 ∨ j = 4 ∨ j = 5 by omega) with rfl | rfl | rfl | rfl | rfl | rfl <;> rfl))).trans (am_wp_off (show uT (74 + j) _ = false from (by rcases (show j = 0 ∨ j = 1 ∨ j = 2 ∨ j = 3 ∨ j = 4 ∨ j = 5 by omega) with rfl | rfl | rfl | rfl | rfl | rfl <;> rfl))))⟩
              have hrowsM : ∀ j, j < (S 19).toNat → ¬ VL j = [] → j ≠ 3 → am_rowl ((am_wp uN (am_wp uT (am_wp uT (am_cpg I 84 0 97 0 6) Q184) Q185) Q189) (81 + j)) 0 (VL j) := fun j hj hn hne => am_rowl_cg (hrows j hj hn hne) (fun i _ => (am_wp_off (show uN (81 + j) _ = false from (by rcases (show j = 0 ∨ j = 1 ∨ j = 2 ∨ j = 3 ∨ j = 4 ∨ j = 5 by omega) with rfl | rfl | rfl | rfl | rfl | rfl <;> rfl))).trans ((am_wp_off (show uT (81 + j) _ = false from (by rcases (show j = 0 ∨ j = 1 ∨ j = 2 ∨ j = 3 ∨ j = 4 ∨ j = 5 by omega) with rfl | rfl | rfl | rfl | rfl | rfl <;> rfl))).trans ((am_wp_off (show uT (81 + j) _ = false from (by rcases (show j = 0 ∨ j = 1 ∨ j = 2 ∨ j = 3 ∨ j = 4 ∨ j = 5 by omega) with rfl | rfl | rfl | rfl | rfl | rfl <;> rfl))).trans (if_neg (by omega)))))
              rw [sp_ff1_c] at hres
              rw [if_neg (by (try dsimp only); omega)] at hres
              cases rs with
              | nil =>
                have hnn := nx_ch_1 hch
                have hst2 : ((if nx q = none then 0 else 1 : Int) = 1 ∧ fnd = -5 ∧ res = sp_ff1 g (sp_cho S VL way) (fun x => sp_like S (3 : Int) x) (fun p => sp_cho S (sp_set VL 3 p) way) ([] :: []) ∧ nx_ch ([] :: []) = true ∧ am_rowl ((am_wp uN (am_wp uT (am_wp uT (am_cpg I 84 0 97 0 6) Q184) Q185) Q189) 97) 0 [] ∧ (rr + 1) + ([] : List (List Nat)).length < 120 ∧ ∀ p ∈ ([] :: [] : List (List Nat)), sp_voice S p ∧ ¬ p = []) ∨ (((if nx q = none then 0 else 1 : Int) = 0 ∨ ((if nx q = none then 0 else 1 : Int) = 1 ∧ ¬ fnd = -5)) ∧ res = fnd ∧ rr + 1 ≤ 120 ∧ (fnd = -5 ∨ (0 ≤ fnd ∧ fnd ≤ 5))) := Or.inr ⟨Or.inl (if_pos hnn), by rw [hres, hq2]; rfl, by simp at hrl; omega, Or.inl hq2⟩
                refine (am_less (lv := [(9, .inl ((rr + 1) : Int)), (8, .inl ((if nx q = none then 0 else 1))), (7, .inl fnd), (6, .inr (.inr (.inl (some 23)))), (5, .inl sp), (4, .inl ((sp_cho S VL way))), (3, .inl g), (2, .inl way), (1, .inl 3), (0, .inr (.inr (.inl (some 71))))]) rfl (List.forall_mem_cons.mpr ⟨rfl, List.forall_mem_cons.mpr ⟨rfl, List.forall_mem_cons.mpr ⟨rfl, List.forall_mem_cons.mpr ⟨rfl, List.forall_mem_cons.mpr ⟨rfl, List.forall_mem_cons.mpr ⟨rfl, List.forall_mem_cons.mpr ⟨rfl, List.forall_mem_cons.mpr ⟨rfl, List.forall_mem_cons.mpr ⟨rfl, List.forall_mem_cons.mpr ⟨rfl, List.forall_mem_nil _⟩⟩⟩⟩⟩⟩⟩⟩⟩⟩) (c_tell_3_l (I := am_wp uN (am_wp uT (am_wp uT (am_cpg I 84 0 97 0 6) Q184) Q185) Q189) d (VL := VL) (rr := rr + 1) (q := []) (rs := []) hok hwf hm hh hway hg h5 h71 h12 hr0 hhr hlk hordM hv ho hsp ht6 htalM hrowsM h98 hst2)).imp ?_
                rintro r ⟨Q9, rfl, h9⟩
                exact ⟨Q9, am_r_wk uW (am_k_wp (uN_uW) (am_k_wp (uT_uW) (am_k_wp (uT_uW) (am_k_cpg (fun _ => rfl) (am_k_id))))), h9⟩
              | cons q2 rs2 =>
                obtain ⟨hn2, hch2⟩ := nx_ch_c hch
                rw [List.length_cons] at hrl
                have hst2 : ((if nx q = none then 0 else 1 : Int) = 1 ∧ fnd = -5 ∧ res = sp_ff1 g (sp_cho S VL way) (fun x => sp_like S (3 : Int) x) (fun p => sp_cho S (sp_set VL 3 p) way) (q2 :: rs2) ∧ nx_ch (q2 :: rs2) = true ∧ am_rowl ((am_wp uN (am_wp uT (am_wp uT (am_cpg I 84 0 97 0 6) Q184) Q185) Q189) 97) 0 q2 ∧ (rr + 1) + rs2.length < 120 ∧ ∀ p ∈ q2 :: rs2, sp_voice S p ∧ ¬ p = []) ∨ (((if nx q = none then 0 else 1 : Int) = 0 ∨ ((if nx q = none then 0 else 1 : Int) = 1 ∧ ¬ fnd = -5)) ∧ res = fnd ∧ rr + 1 ≤ 120 ∧ (fnd = -5 ∨ (0 ≤ fnd ∧ fnd ≤ 5))) := Or.inl ⟨if_neg (by rw [hn2]; simp), hq2, hres, hch2, hnq q2 hn2, by omega, fun p hp => hvs p (List.mem_cons_of_mem _ hp)⟩
                refine (am_less (lv := [(9, .inl ((rr + 1) : Int)), (8, .inl ((if nx q = none then 0 else 1))), (7, .inl fnd), (6, .inr (.inr (.inl (some 23)))), (5, .inl sp), (4, .inl ((sp_cho S VL way))), (3, .inl g), (2, .inl way), (1, .inl 3), (0, .inr (.inr (.inl (some 71))))]) rfl (List.forall_mem_cons.mpr ⟨rfl, List.forall_mem_cons.mpr ⟨rfl, List.forall_mem_cons.mpr ⟨rfl, List.forall_mem_cons.mpr ⟨rfl, List.forall_mem_cons.mpr ⟨rfl, List.forall_mem_cons.mpr ⟨rfl, List.forall_mem_cons.mpr ⟨rfl, List.forall_mem_cons.mpr ⟨rfl, List.forall_mem_cons.mpr ⟨rfl, List.forall_mem_cons.mpr ⟨rfl, List.forall_mem_nil _⟩⟩⟩⟩⟩⟩⟩⟩⟩⟩) (c_tell_3_l (I := am_wp uN (am_wp uT (am_wp uT (am_cpg I 84 0 97 0 6) Q184) Q185) Q189) d (VL := VL) (rr := rr + 1) (q := q2) (rs := rs2) hok hwf hm hh hway hg h5 h71 h12 hr0 hhr hlk hordM hv ho hsp ht6 htalM hrowsM h98 hst2)).imp ?_
                rintro r ⟨Q9, rfl, h9⟩
                exact ⟨Q9, am_r_wk uW (am_k_wp (uN_uW) (am_k_wp (uT_uW) (am_k_wp (uT_uW) (am_k_cpg (fun _ => rfl) (am_k_id))))), h9⟩
            · show am_E _ _ _ 147 [(10, .inl ((sp_cho S (sp_set VL 3 q) way))), (9, .inl (rr : Int)), (8, .inl more), (7, .inl fnd), (6, .inr (.inr (.inl (some 23)))), (5, .inl sp), (4, .inl ((sp_cho S VL way))), (3, .inl g), (2, .inl way), (1, .inl 3), (0, .inr (.inr (.inl (some 71))))] [] (am_mm D (am_wp uT (am_wp uT (am_cpg I 84 0 97 0 6) Q184) Q185) J ρ) _
              refine am_e_ss 3 (q := (161, [(7, .inl ((sp_cho S (sp_set VL 3 q) way))), (10, .inl ((sp_cho S (sp_set VL 3 q) way))), (9, .inl (rr : Int)), (8, .inl more), (6, .inr (.inr (.inl (some 23)))), (5, .inl sp), (4, .inl ((sp_cho S VL way))), (3, .inl g), (2, .inl way), (1, .inl 3), (0, .inr (.inr (.inl (some 71))))], [], (am_mm D (am_wp uT (am_wp uT (am_cpg I 84 0 97 0 6) Q184) Q185) J ρ))) rfl ?_
              have hq97b : am_rowl ((am_wp uT (am_wp uT (am_cpg I 84 0 97 0 6) Q184) Q185) 97) 0 q := hq97
              refine am_e_ss 1 (q := (162, [(7, .inl ((sp_cho S (sp_set VL 3 q) way))), (10, .inl ((sp_cho S (sp_set VL 3 q) way))), (9, .inl (rr : Int)), (8, .inl more), (6, .inr (.inr (.inl (some 23)))), (5, .inl sp), (4, .inl ((sp_cho S VL way))), (3, .inl g), (2, .inl way), (1, .inl 3), (0, .inr (.inr (.inl (some 71))))], [.inr (.inr (.inl (some 71)))], (am_mm D (am_wp uT (am_wp uT (am_cpg I 84 0 97 0 6) Q184) Q185) J ρ))) rfl ?_
              refine am_e_virtual (Q := fun r => ∃ Q190, r = (some (.inl ((if nx q = none then 0 else 1))), (am_mm D (am_wp uN (am_wp uT (am_wp uT (am_cpg I 84 0 97 0 6) Q184) Q185) Q190) J ρ)) ∧ ∀ q2, nx q = some q2 → am_rowl (Q190 97) 0 q2) rfl rfl (Nat.le_of_ble_eq_true rfl) rfl rfl (Nat.le_of_ble_eq_true rfl) (Nat.le_of_ble_eq_true rfl) (c_next _ (q := q) (h3.trans hql.symm) (by omega) hq6 hq97 hqe) ?_
              rintro r ⟨Q190, rfl, hnq⟩
              show am_E _ _ _ 165 [(7, .inl ((sp_cho S (sp_set VL 3 q) way))), (10, .inl ((sp_cho S (sp_set VL 3 q) way))), (9, .inl (rr : Int)), (8, .inl more), (6, .inr (.inr (.inl (some 23)))), (5, .inl sp), (4, .inl ((sp_cho S VL way))), (3, .inl g), (2, .inl way), (1, .inl 3), (0, .inr (.inr (.inl (some 71))))] [.inl ((if nx q = none then 0 else 1))] (am_mm D (am_wp uN (am_wp uT (am_wp uT (am_cpg I 84 0 97 0 6) Q184) Q185) Q190) J ρ) _
              refine am_e_ss 3 (q := (64, [(9, .inl ((rr : Int) + 1)), (8, .inl ((if nx q = none then 0 else 1))), (7, .inl ((sp_cho S (sp_set VL 3 q) way))), (10, .inl ((sp_cho S (sp_set VL 3 q) way))), (6, .inr (.inr (.inl (some 23)))), (5, .inl sp), (4, .inl ((sp_cho S VL way))), (3, .inl g), (2, .inl way), (1, .inl 3), (0, .inr (.inr (.inl (some 71))))], [], (am_mm D (am_wp uN (am_wp uT (am_wp uT (am_cpg I 84 0 97 0 6) Q184) Q185) Q190) J ρ))) rfl ?_
              have htalM : c_tal (am_wp uN (am_wp uT (am_wp uT (am_cpg I 84 0 97 0 6) Q184) Q185) Q190) (sp_set VL 3 []) (S 19).toNat := by
                have h2 := c_tal_sub htalK hm htqm
                exact ⟨h2.1, fun a b ha hb => (am_wp_off (show uN (91 + a) b = false from (by rcases (show a = 0 ∨ a = 1 ∨ a = 2 ∨ a = 3 ∨ a = 4 ∨ a = 5 by omega) with rfl | rfl | rfl | rfl | rfl | rfl <;> rfl))).trans ((am_wp_in (by rcases (show a = 0 ∨ a = 1 ∨ a = 2 ∨ a = 3 ∨ a = 4 ∨ a = 5 by omega) with rfl | rfl | rfl | rfl | rfl | rfl <;> rfl)).trans (h2.2 a b ha hb))⟩
              have hordM : c_ords (am_wp uN (am_wp uT (am_wp uT (am_cpg I 84 0 97 0 6) Q184) Q185) Q190) S := ⟨h3, hob, fun j hj => am_rowl_cg (hordK.2.2 j hj) (fun i _ => (am_wp_off (show uN (74 + j) _ = false from (by rcases (show j = 0 ∨ j = 1 ∨ j = 2 ∨ j = 3 ∨ j = 4 ∨ j = 5 by omega) with rfl | rfl | rfl | rfl | rfl | rfl <;> rfl))).trans (am_wp_off (show uT (74 + j) _ = false from (by rcases (show j = 0 ∨ j = 1 ∨ j = 2 ∨ j = 3 ∨ j = 4 ∨ j = 5 by omega) with rfl | rfl | rfl | rfl | rfl | rfl <;> rfl))))⟩
              have hrowsM : ∀ j, j < (S 19).toNat → ¬ VL j = [] → j ≠ 3 → am_rowl ((am_wp uN (am_wp uT (am_wp uT (am_cpg I 84 0 97 0 6) Q184) Q185) Q190) (81 + j)) 0 (VL j) := fun j hj hn hne => am_rowl_cg (hrows j hj hn hne) (fun i _ => (am_wp_off (show uN (81 + j) _ = false from (by rcases (show j = 0 ∨ j = 1 ∨ j = 2 ∨ j = 3 ∨ j = 4 ∨ j = 5 by omega) with rfl | rfl | rfl | rfl | rfl | rfl <;> rfl))).trans ((am_wp_off (show uT (81 + j) _ = false from (by rcases (show j = 0 ∨ j = 1 ∨ j = 2 ∨ j = 3 ∨ j = 4 ∨ j = 5 by omega) with rfl | rfl | rfl | rfl | rfl | rfl <;> rfl))).trans ((am_wp_off (show uT (81 + j) _ = false from (by rcases (show j = 0 ∨ j = 1 ∨ j = 2 ∨ j = 3 ∨ j = 4 ∨ j = 5 by omega) with rfl | rfl | rfl | rfl | rfl | rfl <;> rfl))).trans (if_neg (by omega)))))
              rw [sp_ff1_c] at hres
              rw [if_pos (by (try dsimp only); omega)] at hres
              have hst2 : ((if nx q = none then 0 else 1 : Int) = 1 ∧ (sp_cho S (sp_set VL 3 q) way) = -5 ∧ res = sp_ff1 g (sp_cho S VL way) (fun x => sp_like S (3 : Int) x) (fun p => sp_cho S (sp_set VL 3 p) way) ([] :: []) ∧ nx_ch ([] :: []) = true ∧ am_rowl ((am_wp uN (am_wp uT (am_wp uT (am_cpg I 84 0 97 0 6) Q184) Q185) Q190) 97) 0 [] ∧ (rr + 1) + ([] : List (List Nat)).length < 120 ∧ ∀ p ∈ ([] :: [] : List (List Nat)), sp_voice S p ∧ ¬ p = []) ∨ (((if nx q = none then 0 else 1 : Int) = 0 ∨ ((if nx q = none then 0 else 1 : Int) = 1 ∧ ¬ (sp_cho S (sp_set VL 3 q) way) = -5)) ∧ res = (sp_cho S (sp_set VL 3 q) way) ∧ rr + 1 ≤ 120 ∧ ((sp_cho S (sp_set VL 3 q) way) = -5 ∨ (0 ≤ (sp_cho S (sp_set VL 3 q) way) ∧ (sp_cho S (sp_set VL 3 q) way) ≤ 5))) := by
                refine Or.inr ⟨?_, hres, by omega, by omega⟩
                split
                · exact Or.inl rfl
                · exact Or.inr ⟨rfl, by omega⟩
              refine (am_less (lv := [(9, .inl ((rr + 1) : Int)), (8, .inl ((if nx q = none then 0 else 1))), (7, .inl ((sp_cho S (sp_set VL 3 q) way))), (6, .inr (.inr (.inl (some 23)))), (5, .inl sp), (4, .inl ((sp_cho S VL way))), (3, .inl g), (2, .inl way), (1, .inl 3), (0, .inr (.inr (.inl (some 71))))]) rfl (List.forall_mem_cons.mpr ⟨rfl, List.forall_mem_cons.mpr ⟨rfl, List.forall_mem_cons.mpr ⟨rfl, List.forall_mem_cons.mpr ⟨rfl, List.forall_mem_cons.mpr ⟨rfl, List.forall_mem_cons.mpr ⟨rfl, List.forall_mem_cons.mpr ⟨rfl, List.forall_mem_cons.mpr ⟨rfl, List.forall_mem_cons.mpr ⟨rfl, List.forall_mem_cons.mpr ⟨rfl, List.forall_mem_nil _⟩⟩⟩⟩⟩⟩⟩⟩⟩⟩) (c_tell_3_l (I := am_wp uN (am_wp uT (am_wp uT (am_cpg I 84 0 97 0 6) Q184) Q185) Q190) d (VL := VL) (rr := rr + 1) (q := []) (rs := []) hok hwf hm hh hway hg h5 h71 h12 hr0 hhr hlk hordM hv ho hsp ht6 htalM hrowsM h98 hst2)).imp ?_
              rintro r ⟨Q9, rfl, h9⟩
              exact ⟨Q9, am_r_wk uW (am_k_wp (uN_uW) (am_k_wp (uT_uW) (am_k_wp (uT_uW) (am_k_cpg (fun _ => rfl) (am_k_id))))), h9⟩
termination_by 121 - rr
decreasing_by all_goals omega
theorem c_tell_3 {X : Nat × (Nat → Int)} {D : List (Nat × Nat)} {I J : Nat → Nat → Int} {ρ : Nat → Nat → Option Nat} (d : Nat) {S : Nat → Int} {B way g : Int} {VL : Nat → List Nat} (hok : r_ok S B) (hwf : sp_wfS S) (hm : 3 < (S 19).toNat) (hh : S (7 + 3) = 0) (hway : 0 ≤ way ∧ way ≤ 5) (hg : g = 0 ∨ g = 1) (h5 : sp_ops S ≤ 5) (h71 : ρ 71 1 = some 2) (h12 : I 1 2 = S 19) (hr0 : I 2 0 = S 0) (hhr : I 2 1 = am_bits (sp_hp S) 6) (hlk : ∀ b : Nat, b < (S 20).toNat → I 23 b = sp_like S (3 : Int) b) (hord : c_ords I S) (hv : sp_vcs S VL) (hvoi : c_voi I VL (S 19).toNat)  : am_E X (d + 5) 82 0 [(0, .inr (.inr (.inl (some 71)))), (1, .inl 3), (2, .inl way), (3, .inl g)] [] (am_mm D I J ρ) (fun r => ∃ Q, r = (some (.inl (if sp_ops S = 0 then -5 else sp_ff1 g (sp_cho S VL way) (fun x => sp_like S (3 : Int) x) (fun p => sp_cho S (sp_set VL 3 p) way) (sp_pl2 S (sp_ops S).toNat []))), am_mm D (am_wp uW I Q) J ρ) ∧ c_voi Q VL (S 19).toNat) := by
  have h19 := r_ok_19 hok
  have ob := sp_ops_b hok
  have hord0 := hord
  obtain ⟨h3, hob, hO⟩ := hord
  have hord := hord0
  have hub : (sp_cho S VL way) = -5 ∨ (0 ≤ (sp_cho S VL way) ∧ (sp_cho S VL way) < S 20) := by
    by_cases e : sp_ops S = 0
    · left; unfold sp_cho sp_choose; rw [if_pos e]
    · right; exact sp_cho_b (way := way) hok (sp_vcs_vo hok hv) e
  refine am_e_ss 2 (q := (2, [(0, .inr (.inr (.inl (some 71)))), (1, .inl 3), (2, .inl way), (3, .inl g)], [.inl way, .inr (.inr (.inl (some 71)))], (am_mm D I J ρ))) rfl ?_
  refine am_e_virtual (Q := fun r => r = (some (.inl ((sp_cho S VL way))), (am_mm D I J ρ))) rfl rfl (Nat.le_of_ble_eq_true rfl) rfl rfl (Nat.le_of_ble_eq_true rfl) (Nat.le_of_ble_eq_true rfl) (c_pick_2 _ (VL := VL) hok hord (fun _ => hvoi) hv hway h71 h12 hr0 hhr) ?_
  rintro r rfl
  show am_E _ _ _ 5 [(0, .inr (.inr (.inl (some 71)))), (1, .inl 3), (2, .inl way), (3, .inl g)] [.inl ((sp_cho S VL way))] (am_mm D I J ρ) _
  refine am_e_ss 2 (q := (9, [(4, .inl ((sp_cho S VL way))), (0, .inr (.inr (.inl (some 71)))), (1, .inl 3), (2, .inl way), (3, .inl g)], [.inl ((sp_cho S VL way))], (am_mm D I J ρ))) rfl ?_
  refine am_e_if2 rfl ⟨by omega, by omega⟩ (fun (hw1 : 0 ≤ (sp_cho S VL way)) => ?_) (fun (hw1 : ¬ (0 ≤ (sp_cho S VL way))) => ?_)
  · show am_E _ _ _ 15 [(4, .inl ((sp_cho S VL way))), (0, .inr (.inr (.inl (some 71)))), (1, .inl 3), (2, .inl way), (3, .inl g)] [] (am_mm D I J ρ) _
    refine am_e_ss 2 (q := (17, [(4, .inl ((sp_cho S VL way))), (0, .inr (.inr (.inl (some 71)))), (1, .inl 3), (2, .inl way), (3, .inl g)], [.inl 3, .inr (.inr (.inl (some 71)))], (am_mm D I J ρ))) rfl ?_
    refine am_e_virtual (Q := fun r => r = (some (.inl ((am_bi (sp_spk VL (S 19).toNat 3 = true)))), (am_mm D I J ρ))) rfl rfl (Nat.le_of_ble_eq_true rfl) rfl rfl (Nat.le_of_ble_eq_true rfl) (Nat.le_of_ble_eq_true rfl) (c_speaks _ (m := 3) (p := sp_spk VL (S 19).toNat) hvoi.1 (by omega)) ?_
    rintro r rfl
    show am_E _ _ _ 20 [(4, .inl ((sp_cho S VL way))), (0, .inr (.inr (.inl (some 71)))), (1, .inl 3), (2, .inl way), (3, .inl g)] [.inl ((am_bi (sp_spk VL (S 19).toNat 3 = true)))] (am_mm D I J ρ) _
    refine am_e_ss 3 (q := (24, [(5, .inl ((am_bi (sp_spk VL (S 19).toNat 3 = true)))), (4, .inl ((sp_cho S VL way))), (0, .inr (.inr (.inl (some 71)))), (1, .inl 3), (2, .inl way), (3, .inl g)], [.inl 3, .inr (.inr (.inl (some 71)))], (am_mm D I J ρ))) rfl ?_
    refine am_e_virtual (Q := fun r => ∃ Q191, r = (none, (am_mm D (am_wp uW I Q191) J ρ)) ∧ Q191 71 6 = am_bits (sp_spk (sp_set VL 3 []) (S 19).toNat) 6 ∧ c_tal Q191 (sp_set VL 3 []) (S 19).toNat ∧ (∀ i, i < 6 → Q191 98 i = I 84 i) ∧ (∀ j, j < 6 → ∀ i, Q191 (81 + j) i = I (81 + j) i)) rfl rfl (Nat.le_of_ble_eq_true rfl) rfl rfl (Nat.le_of_ble_eq_true rfl) (Nat.le_of_ble_eq_true rfl) (c_silence_3 _ hok hm h3 hvoi hv) ?_
    rintro r ⟨Q191, rfl, ⟨s1, s2, s3, s4⟩⟩
    show am_E _ _ _ 27 [(5, .inl ((am_bi (sp_spk VL (S 19).toNat 3 = true)))), (4, .inl ((sp_cho S VL way))), (0, .inr (.inr (.inl (some 71)))), (1, .inl 3), (2, .inl way), (3, .inl g)] [] (am_mm D (am_wp uW I Q191) J ρ) _
    refine am_e_ss 19 (q := (58, [(8, .inl 1), (7, .inl (-5)), (6, .inr (.inr (.inl (some 23)))), (5, .inl ((am_bi (sp_spk VL (S 19).toNat 3 = true)))), (4, .inl ((sp_cho S VL way))), (0, .inr (.inr (.inl (some 71)))), (1, .inl 3), (2, .inl way), (3, .inl g)], [.inr (.inr (.inl (some 71)))], (am_mm D (am_up (am_wp uW I Q191) 71 6 (Int32.ofInt (Q191 71 6) ||| Int32.ofInt (Int32.ofInt 1 <<< (Int32.ofInt 3 &&& 31)).toInt).toInt) J ρ))) rfl ?_
    refine am_e_virtual (Q := fun r => r = (none, (am_mm D (am_cpg (am_up (am_wp uW I Q191) 71 6 (Int32.ofInt (Q191 71 6) ||| Int32.ofInt (Int32.ofInt 1 <<< (Int32.ofInt 3 &&& 31)).toInt).toInt) 97 0 72 0 6) J ρ))) rfl rfl (Nat.le_of_ble_eq_true rfl) rfl rfl (Nat.le_of_ble_eq_true rfl) (Nat.le_of_ble_eq_true rfl) (c_start _) ?_
    rintro r rfl
    show am_E _ _ _ 61 [(8, .inl 1), (7, .inl (-5)), (6, .inr (.inr (.inl (some 23)))), (5, .inl ((am_bi (sp_spk VL (S 19).toNat 3 = true)))), (4, .inl ((sp_cho S VL way))), (0, .inr (.inr (.inl (some 71)))), (1, .inl 3), (2, .inl way), (3, .inl g)] [] (am_mm D (am_cpg (am_up (am_wp uW I Q191) 71 6 (Int32.ofInt (Q191 71 6) ||| Int32.ofInt (Int32.ofInt 1 <<< (Int32.ofInt 3 &&& 31)).toInt).toInt) 97 0 72 0 6) J ρ) _
    refine am_e_ss 2 (q := (64, [(9, .inl 0), (8, .inl 1), (7, .inl (-5)), (6, .inr (.inr (.inl (some 23)))), (5, .inl ((am_bi (sp_spk VL (S 19).toNat 3 = true)))), (4, .inl ((sp_cho S VL way))), (0, .inr (.inr (.inl (some 71)))), (1, .inl 3), (2, .inl way), (3, .inl g)], [], (am_mm D (am_cpg (am_up (am_wp uW I Q191) 71 6 (Int32.ofInt (Q191 71 6) ||| Int32.ofInt (Int32.ofInt 1 <<< (Int32.ofInt 3 &&& 31)).toInt).toInt) 97 0 72 0 6) J ρ))) rfl ?_
    have ho : ¬ sp_ops S = 0 := by
      intro e
      have : (sp_cho S VL way) = -5 := by unfold sp_cho sp_choose; rw [if_pos e]
      omega
    obtain ⟨rs, hP, hrl, hch⟩ := nx_rows hok h5
    have hvs := nx_voice hok h5 ho
    rw [hP] at hvs
    have hsp2 : ((am_bi (sp_spk VL (S 19).toNat 3 = true)) = 1 ∧ sp_spk VL (S 19).toNat 3 = true) ∨ ((am_bi (sp_spk VL (S 19).toNat 3 = true)) = 0 ∧ ¬ sp_spk VL (S 19).toNat 3 = true) := by
      by_cases e : sp_spk VL (S 19).toNat 3 = true
      · exact Or.inl ⟨am_bi_t e, e⟩
      · exact Or.inr ⟨am_bi_f e, e⟩
    have ht6 : (Int32.ofInt (Q191 71 6) ||| Int32.ofInt (Int32.ofInt 1 <<< (Int32.ofInt 3 &&& 31)).toInt).toInt = am_bits (fun x => sp_spk (sp_set VL 3 []) (S 19).toNat x || x == 3) 6 := by
      rw [show Q191 71 6 = _ from s1]
      exact am_bits_set _ 3 (by omega)
    have k91 : ∀ a b, a < 6 → (am_cpg (am_up (am_wp uW I Q191) 71 6 (Int32.ofInt (Q191 71 6) ||| Int32.ofInt (Int32.ofInt 1 <<< (Int32.ofInt 3 &&& 31)).toInt).toInt) 97 0 72 0 6) (91 + a) b = Q191 (91 + a) b := fun a b ha => (if_neg (by omega)).trans ((am_up_ne2 (by omega)).trans (am_wp_in (show uW (91 + a) b = true from (by rcases (show a = 0 ∨ a = 1 ∨ a = 2 ∨ a = 3 ∨ a = 4 ∨ a = 5 by omega) with rfl | rfl | rfl | rfl | rfl | rfl <;> rfl))))
    have k81 : ∀ j i, j < 6 → (am_cpg (am_up (am_wp uW I Q191) 71 6 (Int32.ofInt (Q191 71 6) ||| Int32.ofInt (Int32.ofInt 1 <<< (Int32.ofInt 3 &&& 31)).toInt).toInt) 97 0 72 0 6) (81 + j) i = I (81 + j) i := fun j i hj => (if_neg (by omega)).trans ((am_up_ne2 (by omega)).trans ((am_wp_in (show uW (81 + j) i = true from (by rcases (show j = 0 ∨ j = 1 ∨ j = 2 ∨ j = 3 ∨ j = 4 ∨ j = 5 by omega) with rfl | rfl | rfl | rfl | rfl | rfl <;> rfl))).trans (s4 j hj i)))
    have k74 : ∀ j i, j < 6 → (am_cpg (am_up (am_wp uW I Q191) 71 6 (Int32.ofInt (Q191 71 6) ||| Int32.ofInt (Int32.ofInt 1 <<< (Int32.ofInt 3 &&& 31)).toInt).toInt) 97 0 72 0 6) (74 + j) i = I (74 + j) i := fun j i hj => (if_neg (by omega)).trans ((am_up_ne2 (by omega)).trans (am_wp_off (show uW (74 + j) i = false from (by rcases (show j = 0 ∨ j = 1 ∨ j = 2 ∨ j = 3 ∨ j = 4 ∨ j = 5 by omega) with rfl | rfl | rfl | rfl | rfl | rfl <;> rfl))))
    have hst2 : ((1 : Int) = 1 ∧ (-5 : Int) = -5 ∧ sp_ff1 g (sp_cho S VL way) (fun x => sp_like S (3 : Int) x) (fun p => sp_cho S (sp_set VL 3 p) way) (sp_pl2 S (sp_ops S).toNat []) = sp_ff1 g (sp_cho S VL way) (fun x => sp_like S (3 : Int) x) (fun p => sp_cho S (sp_set VL 3 p) way) (sp_ob S :: rs) ∧ nx_ch (sp_ob S :: rs) = true ∧ am_rowl ((am_cpg (am_up (am_wp uW I Q191) 71 6 (Int32.ofInt (Q191 71 6) ||| Int32.ofInt (Int32.ofInt 1 <<< (Int32.ofInt 3 &&& 31)).toInt).toInt) 97 0 72 0 6) 97) 0 (sp_ob S) ∧ 0 + rs.length < 120 ∧ ∀ p ∈ sp_ob S :: rs, sp_voice S p ∧ ¬ p = []) ∨ (((1 : Int) = 0 ∨ ((1 : Int) = 1 ∧ ¬ (-5 : Int) = -5)) ∧ sp_ff1 g (sp_cho S VL way) (fun x => sp_like S (3 : Int) x) (fun p => sp_cho S (sp_set VL 3 p) way) (sp_pl2 S (sp_ops S).toNat []) = -5 ∧ 0 ≤ 120 ∧ ((-5 : Int) = -5 ∨ (0 ≤ (-5 : Int) ∧ (-5 : Int) ≤ 5))) := Or.inl ⟨rfl, rfl, by rw [hP], hch, am_rowl_cpg (n := 6) hob (by have := sp_ob_len (S := S); omega), by omega, hvs⟩
    rw [if_neg ho]
    refine (am_less (lv := [(9, .inl (0 : Int)), (8, .inl 1), (7, .inl ((-5))), (6, .inr (.inr (.inl (some 23)))), (5, .inl ((am_bi (sp_spk VL (S 19).toNat 3 = true)))), (4, .inl ((sp_cho S VL way))), (3, .inl g), (2, .inl way), (1, .inl 3), (0, .inr (.inr (.inl (some 71))))]) rfl (List.forall_mem_cons.mpr ⟨rfl, List.forall_mem_cons.mpr ⟨rfl, List.forall_mem_cons.mpr ⟨rfl, List.forall_mem_cons.mpr ⟨rfl, List.forall_mem_cons.mpr ⟨rfl, List.forall_mem_cons.mpr ⟨rfl, List.forall_mem_cons.mpr ⟨rfl, List.forall_mem_cons.mpr ⟨rfl, List.forall_mem_cons.mpr ⟨rfl, List.forall_mem_cons.mpr ⟨rfl, List.forall_mem_nil _⟩⟩⟩⟩⟩⟩⟩⟩⟩⟩) (c_tell_3_l (I := am_cpg (am_up (am_wp uW I Q191) 71 6 (Int32.ofInt (Q191 71 6) ||| Int32.ofInt (Int32.ofInt 1 <<< (Int32.ofInt 3 &&& 31)).toInt).toInt) 97 0 72 0 6) d (VL := VL) (rr := 0) (q := sp_ob S) (rs := rs) hok hwf hm hh hway hg h5 h71 h12 hr0 hhr hlk ⟨h3, hob, fun j hj => am_rowl_cg (hO j hj) (fun i _ => k74 j _ (by omega))⟩ hv ho hsp2 ht6 ⟨s2.1, fun a b ha hb => (k91 a b ha).trans (s2.2 a b ha hb)⟩ (fun j hj hn hne => am_rowl_cg (hvoi.2.1 j hj hn) (fun i _ => k81 j _ (by omega))) (fun hn => am_rowl_cg (hvoi.2.1 3 hm hn) (fun i hi => s3 _ (by have := sp_vcs_l hok hv 3 hm; omega))) hst2)).imp ?_
    rintro r ⟨Q9, rfl, h9⟩
    exact ⟨Q9, am_r_wk uW (am_k_cpg (fun _ => rfl) (am_k_up rfl (am_k_wp am_k_sub (am_k_id)))), h9⟩
  · show am_E _ _ _ 12 [(4, .inl ((sp_cho S VL way))), (0, .inr (.inr (.inl (some 71)))), (1, .inl 3), (2, .inl way), (3, .inl g)] [] (am_mm D I J ρ) _
    refine am_e_ss 1 (q := (14, [(4, .inl ((sp_cho S VL way))), (0, .inr (.inr (.inl (some 71)))), (1, .inl 3), (2, .inl way), (3, .inl g)], [.inl (-5)], (am_mm D I J ρ))) rfl ?_
    refine am_e_ireturn rfl rfl ?_
    have e0 : sp_ops S = 0 := by
      by_cases e : sp_ops S = 0
      · exact e
      · have := sp_cho_b (way := way) hok (sp_vcs_vo hok hv) e; omega
    rw [if_pos e0]
    exact ⟨I, am_r_wp uW am_k_id, hvoi⟩
