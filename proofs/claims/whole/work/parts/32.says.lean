/-! THE REFERENCE: likes, orders, what is said, voices -/
def tLL : Nat → Nat → Bool := fun c i => Nat.beq c 111 || Nat.beq c 112 || Nat.beq c 113 || (Nat.beq c 107 && (Nat.beq i 12 || Nat.beq i 13))
theorem tL_tLL : ∀ c i, tL c i = true → tLL c i = true := by
  intro c i
  unfold tL tLL
  simp
  omega
def tS : Nat → Nat → Bool := fun c i => Nat.beq c 114
def tY : Nat → Nat → Bool := fun c i => Nat.beq c 115 || Nat.beq c 116
def tO1 : Nat → Nat → Bool := fun c i => Nat.beq c 114 || (Nat.beq c 107 && (Nat.beq i 20))
theorem tS_tO1 : ∀ c i, tS c i = true → tO1 c i = true := by
  intro c i
  unfold tS tO1
  simp
  omega
def tO : Nat → Nat → Bool := fun c i => Nat.beq c 114 || Nat.beq c 115 || Nat.beq c 116 || (Nat.beq c 107 && (Nat.beq i 20))
theorem tO1_tO : ∀ c i, tO1 c i = true → tO c i = true := by
  intro c i
  unfold tO1 tO
  simp
  omega
theorem tY_tO : ∀ c i, tY c i = true → tO c i = true := by
  intro c i
  unfold tY tO
  simp
  omega
def tH : Nat → Nat → Bool := fun c i => Nat.beq c 117 || Nat.beq c 118
def tC : Nat → Nat → Bool := fun c i => Nat.beq c 114 || Nat.beq c 115 || Nat.beq c 116 || Nat.beq c 117 || Nat.beq c 118 || (Nat.beq c 107 && (Nat.beq i 20))
theorem tO_tC : ∀ c i, tO c i = true → tC c i = true := by
  intro c i
  unfold tO tC
  simp
  omega
theorem tH_tC : ∀ c i, tH c i = true → tC c i = true := by
  intro c i
  unfold tH tC
  simp
  omega
def tA : Nat → Nat → Bool := fun c i => Nat.beq c 111 || Nat.beq c 112 || Nat.beq c 113 || Nat.beq c 114 || Nat.beq c 115 || Nat.beq c 116 || Nat.beq c 117 || Nat.beq c 118 || (Nat.beq c 107 && (Nat.beq i 12 || Nat.beq i 13 || Nat.beq i 20))
theorem tLL_tA : ∀ c i, tLL c i = true → tA c i = true := by
  intro c i
  unfold tLL tA
  simp
  omega
theorem tC_tA : ∀ c i, tC c i = true → tA c i = true := by
  intro c i
  unfold tC tA
  simp
  omega
theorem tO_tA : ∀ c i, tO c i = true → tA c i = true := by
  intro c i
  unfold tO tA
  simp
  omega
theorem tH_tA : ∀ c i, tH c i = true → tA c i = true := by
  intro c i
  unfold tH tA
  simp
  omega
/-- the likes as the row holds them -/
def r_lks (S R : Nat → Int) : Prop := ∀ m b : Nat, m < (S 19).toNat → b < (S 20).toNat → R (6 * m + b) = sp_like S m b
theorem r_looksForLikes_l {X : Nat × (Nat → Int)} {D : List (Nat × Nat)} {I J : Nat → Nat → Int} {ρ : Nat → Nat → Option Nat} (d : Nat) {B : Int} {m b : Nat} {Q : Nat → Nat → Int} (hm : (m : Int) < I 108 19) (hb : (b : Int) ≤ I 108 20) (hq : ∀ m' b' : Nat, b' < (I 108 20).toNat → (m' < m ∨ (m' = m ∧ b' < b)) → Q 113 (6 * m' + b') = sp_like (I 108) m' b') (hok : r_ok (I 108) B) (hwf : sp_wfS (I 108)) : am_E X (d + 2) 161 15 [(2, .inl (b : Int)), (1, .inl (m : Int)), (0, .inr (.inr (.inl (some 107))))] [] (am_mm D (am_wp tLL I Q) J ρ) (fun r => ∃ Q, r = (none, am_mm D (am_wp tLL I Q) J ρ) ∧ r_lks (I 108) (Q 113)) := by
  have hok2 := hok
  obtain ⟨o0, oG, oH, oD, o19, o20, o21, o22, o23, o24, oK, oV, oP, oM, oS, oY, oHd, oT, oC, oN⟩ := hok
  have hok := hok2
  refine am_e_ss 5 (q := (23, [(2, .inl (b : Int)), (1, .inl (m : Int)), (0, .inr (.inr (.inl (some 107))))], [.inl ((I 108 20)), .inl (b : Int)], (am_mm D (am_wp tLL I Q) J ρ))) rfl ?_
  refine am_e_icmp2 rfl ⟨by omega, by omega⟩ ⟨by omega, by omega⟩ (fun (h1 : (I 108 20) ≤ (b : Int)) => ?_) (fun (h1 : ¬ ((I 108 20) ≤ (b : Int))) => ?_)
  · show am_E _ _ _ 49 [(2, .inl (b : Int)), (1, .inl (m : Int)), (0, .inr (.inr (.inl (some 107))))] [] (am_mm D (am_wp tLL I Q) J ρ) _
    refine am_e_ss 7 (q := (10, [(1, .inl ((m : Int) + 1)), (2, .inl (b : Int)), (0, .inr (.inr (.inl (some 107))))], [.inl ((I 108 19)), .inl ((m : Int) + 1)], (am_mm D (am_wp tLL I Q) J ρ))) rfl ?_
    refine am_e_icmp2 rfl ⟨by omega, by omega⟩ ⟨by omega, by omega⟩ (fun (h2 : (I 108 19) ≤ ((m : Int) + 1)) => ?_) (fun (h2 : ¬ ((I 108 19) ≤ ((m : Int) + 1))) => ?_)
    · show am_E _ _ _ 55 [(1, .inl ((m : Int) + 1)), (2, .inl (b : Int)), (0, .inr (.inr (.inl (some 107))))] [] (am_mm D (am_wp tLL I Q) J ρ) _
      refine am_e_return rfl rfl ?_
      exact ⟨Q, rfl, fun m' b' h1 h2 => hq m' b' h2 (by omega)⟩
    · show am_E _ _ _ 13 [(1, .inl ((m : Int) + 1)), (2, .inl (b : Int)), (0, .inr (.inr (.inl (some 107))))] [] (am_mm D (am_wp tLL I Q) J ρ) _
      refine am_e_ss 2 (q := (15, [(2, .inl 0), (1, .inl ((m : Int) + 1)), (0, .inr (.inr (.inl (some 107))))], [], (am_mm D (am_wp tLL I Q) J ρ))) rfl ?_
      refine am_e_wp tLL (am_k_wp am_k_sub (am_k_id)) ?_
      exact am_less (lv := [(2, .inl (0 : Int)), (1, .inl ((m + 1) : Int)), (0, .inr (.inr (.inl (some 107))))]) rfl (List.forall_mem_cons.mpr ⟨rfl, List.forall_mem_cons.mpr ⟨rfl, List.forall_mem_cons.mpr ⟨rfl, List.forall_mem_nil _⟩⟩⟩) (r_looksForLikes_l d (m := m + 1) (b := 0) (by omega) (by omega) (fun m' b' h1 h2 => hq m' b' h1 (by omega)) hok hwf)
  · show am_E _ _ _ 26 [(2, .inl (b : Int)), (1, .inl (m : Int)), (0, .inr (.inr (.inl (some 107))))] [] (am_mm D (am_wp tLL I Q) J ρ) _
    refine am_e_ss 10 (q := (39, [(2, .inl (b : Int)), (1, .inl (m : Int)), (0, .inr (.inr (.inl (some 107))))], [.inl (b : Int), .inl (m : Int), .inr (.inr (.inl (some 107))), .inl ((6 * (m : Int)) + (b : Int)), .inr (.inr (.inl (some 113)))], (am_mm D (am_wp tLL I Q) J ρ))) rfl ?_
    refine am_e_virtual (Q := fun r => ∃ Q9, r = (some (.inl ((sp_like (I 108) (m : Int) (b : Int)))), (am_mm D (am_wp tL (am_wp tLL I Q) Q9) J ρ)) ∧ Q9 107 13 = sp_rd' (I 108) (m : Int) (b : Int)) rfl rfl (Nat.le_of_ble_eq_true rfl) rfl rfl (Nat.le_of_ble_eq_true rfl) (Nat.le_of_ble_eq_true rfl) (r_likeOf _ (B := B) ⟨by omega, by omega⟩ ⟨by omega, by omega⟩ hok hwf) ?_
    rintro r ⟨Q9, rfl, e13Q9⟩
    have lbQ9 := sp_like_b hok hwf (m := (m : Int)) (b := (b : Int)) ⟨by omega, by omega⟩ ⟨by omega, by omega⟩
    show am_E _ _ _ 42 [(2, .inl (b : Int)), (1, .inl (m : Int)), (0, .inr (.inr (.inl (some 107))))] [.inl ((sp_like (I 108) (m : Int) (b : Int))), .inl ((6 * (m : Int)) + (b : Int)), .inr (.inr (.inl (some 113)))] (am_mm D (am_wp tL (am_wp tLL I Q) Q9) J ρ) _
    refine am_e_iastore (m := 36) rfl rfl (by omega) (by omega) (by omega) ?_
    show am_E _ _ _ 43 [(2, .inl (b : Int)), (1, .inl (m : Int)), (0, .inr (.inr (.inl (some 107))))] [] (am_mm D (am_up (am_wp tL (am_wp tLL I Q) Q9) 113 ((6 * m) + b) (sp_like (I 108) (m : Int) (b : Int))) J ρ) _
    refine am_e_ss 2 (q := (15, [(2, .inl ((b : Int) + 1)), (1, .inl (m : Int)), (0, .inr (.inr (.inl (some 107))))], [], (am_mm D (am_up (am_wp tL (am_wp tLL I Q) Q9) 113 ((6 * m) + b) (sp_like (I 108) (m : Int) (b : Int))) J ρ))) rfl ?_
    have e9 : ∀ m' b' : Nat, b' < (I 108 20).toNat → (m' < m ∨ (m' = m ∧ b' < b + 1)) → (am_up (am_wp tL (am_wp tLL I Q) Q9) 113 ((6 * m) + b) (sp_like (I 108) (m : Int) (b : Int))) 113 (6 * m' + b') = sp_like (I 108) m' b' := by
      intro m' b' h1 h2
      by_cases e : m' = m ∧ b' = b
      · obtain ⟨rfl, rfl⟩ := e
        exact am_up_at2
      · rw [am_up_ne2 (by omega)]
        exact hq m' b' h1 (by omega)
    refine am_e_wp tLL (am_k_up rfl (am_k_wp (tL_tLL) (am_k_wp am_k_sub (am_k_id)))) ?_
    exact am_less (lv := [(2, .inl ((b + 1) : Int)), (1, .inl (m : Int)), (0, .inr (.inr (.inl (some 107))))]) rfl (List.forall_mem_cons.mpr ⟨rfl, List.forall_mem_cons.mpr ⟨rfl, List.forall_mem_cons.mpr ⟨rfl, List.forall_mem_nil _⟩⟩⟩) (r_looksForLikes_l d (m := m) (b := b + 1) (by omega) (by omega) e9 hok hwf)
termination_by (7 * (7 - m) + (7 - b))
decreasing_by all_goals omega
theorem r_looksForLikes {X : Nat × (Nat → Int)} {D : List (Nat × Nat)} {I J : Nat → Nat → Int} {ρ : Nat → Nat → Option Nat} (d : Nat) {B : Int} (hok : r_ok (I 108) B) (hwf : sp_wfS (I 108)) : am_E X (d + 2) 161 0 [(0, .inr (.inr (.inl (some 107))))] [] (am_mm D I J ρ) (fun r => ∃ Q, r = (none, am_mm D (am_wp tLL I Q) J ρ) ∧ r_lks (I 108) (Q 113)) := by
  have hok2 := hok
  obtain ⟨o0, oG, oH, oD, o19, o20, o21, o22, o23, o24, oK, oV, oP, oM, oS, oY, oHd, oT, oC, oN⟩ := hok
  have hok := hok2
  refine am_e_ss 7 (q := (10, [(1, .inl 0), (0, .inr (.inr (.inl (some 107))))], [.inl ((I 108 19)), .inl 0], (am_mm D I J ρ))) rfl ?_
  refine am_e_icmp2 rfl ⟨by omega, by omega⟩ ⟨by omega, by omega⟩ (fun (h1 : (I 108 19) ≤ 0) => ?_) (fun (h1 : ¬ ((I 108 19) ≤ 0)) => ?_)
  · show am_E _ _ _ 55 [(1, .inl 0), (0, .inr (.inr (.inl (some 107))))] [] (am_mm D I J ρ) _
    refine am_e_return rfl rfl ?_
    exact ⟨I, am_r_wp tLL am_k_id, fun m' b' h1 h2 => by omega⟩
  · show am_E _ _ _ 13 [(1, .inl 0), (0, .inr (.inr (.inl (some 107))))] [] (am_mm D I J ρ) _
    refine am_e_ss 2 (q := (15, [(2, .inl 0), (1, .inl 0), (0, .inr (.inr (.inl (some 107))))], [], (am_mm D I J ρ))) rfl ?_
    refine am_e_wp tLL am_k_id ?_
    exact am_less (lv := [(2, .inl (0 : Int)), (1, .inl (0 : Int)), (0, .inr (.inr (.inl (some 107))))]) rfl (List.forall_mem_cons.mpr ⟨rfl, List.forall_mem_cons.mpr ⟨rfl, List.forall_mem_cons.mpr ⟨rfl, List.forall_mem_nil _⟩⟩⟩) (r_looksForLikes_l d (m := 0) (b := 0) (by omega) (by omega) (fun m' b' h1 h2 => by omega) hok hwf)
theorem r_sorts_l {X : Nat × (Nat → Int)} {D : List (Nat × Nat)} {I J : Nat → Nat → Int} {ρ : Nat → Nat → Option Nat} (d : Nat) {B p : Int} {m b c : Nat} {Q : Nat → Nat → Int} (hm : (m : Int) < I 108 19) (hb : (b : Int) < I 108 20) (hc : (c : Int) ≤ I 108 20) (hp : p = am_cnt (fun c => decide (I 108 (13 + c) = 0) && sp_bef (fun b : Nat => sp_like (I 108) m b) c b) c) (hq : ∀ x : Nat, x < b → I 108 (13 + x) = 0 → Q 114 (6 * m + (sp_plc (I 108) (fun b : Nat => sp_like (I 108) m b) (I 108 20).toNat x).toNat) = (x : Int)) (hf : ∀ i, i < 6 * m ∨ 6 * m + 6 ≤ i → Q 114 i = I 114 i) (hl : r_lks (I 108) (I 113)) (hok : r_ok (I 108) B) (hwf : sp_wfS (I 108)) : am_E X (d + 1) 162 18 [(4, .inl (c : Int)), (3, .inl p), (2, .inl (b : Int)), (1, .inl (m : Int)), (0, .inr (.inr (.inl (some 107))))] [] (am_mm D (am_wp tS I Q) J ρ) (fun r => ∃ Q, r = (none, am_mm D (am_wp tS I Q) J ρ) ∧ am_rowl (Q 114) (6 * m) (sp_ord (I 108) m) ∧ ∀ i, i < 6 * m ∨ 6 * m + 6 ≤ i → Q 114 i = I 114 i) := by
  have hok2 := hok
  obtain ⟨o0, oG, oH, oD, o19, o20, o21, o22, o23, o24, oK, oV, oP, oM, oS, oY, oHd, oT, oC, oN⟩ := hok
  have hok := hok2
  have cb := am_cnt_b (fun c => decide (I 108 (13 + c) = 0) && sp_bef (fun b : Nat => sp_like (I 108) m b) c b) c
  refine am_e_ss 5 (q := (27, [(4, .inl (c : Int)), (3, .inl p), (2, .inl (b : Int)), (1, .inl (m : Int)), (0, .inr (.inr (.inl (some 107))))], [.inl ((I 108 20)), .inl (c : Int)], (am_mm D (am_wp tS I Q) J ρ))) rfl ?_
  refine am_e_icmp2 rfl ⟨by omega, by omega⟩ ⟨by omega, by omega⟩ (fun (h1 : (I 108 20) ≤ (c : Int)) => ?_) (fun (h1 : ¬ ((I 108 20) ≤ (c : Int))) => ?_)
  · show am_E _ _ _ 95 [(4, .inl (c : Int)), (3, .inl p), (2, .inl (b : Int)), (1, .inl (m : Int)), (0, .inr (.inr (.inl (some 107))))] [] (am_mm D (am_wp tS I Q) J ρ) _
    refine am_e_ss 2 (q := (97, [(4, .inl (c : Int)), (3, .inl p), (2, .inl (b : Int)), (1, .inl (m : Int)), (0, .inr (.inr (.inl (some 107))))], [.inl (b : Int), .inr (.inr (.inl (some 107)))], (am_mm D (am_wp tS I Q) J ρ))) rfl ?_
    refine am_e_virtual (Q := fun r => r = (some (.inl ((am_bi ((I 108 (13 + b)) = 0)))), (am_mm D (am_wp tS I Q) J ρ))) rfl rfl (Nat.le_of_ble_eq_true rfl) rfl rfl (Nat.le_of_ble_eq_true rfl) (Nat.le_of_ble_eq_true rfl) (r_isOpen _ (v := (b : Int)) ⟨by omega, by omega⟩ (by exact oD b (by omega))) ?_
    rintro r rfl
    show am_E _ _ _ 100 [(4, .inl (c : Int)), (3, .inl p), (2, .inl (b : Int)), (1, .inl (m : Int)), (0, .inr (.inr (.inl (some 107))))] [.inl ((am_bi ((I 108 (13 + b)) = 0)))] (am_mm D (am_wp tS I Q) J ρ) _
    refine am_e_ifeq rfl (fun h2 => ?_) (fun h2 => ?_)
    · show am_E _ _ _ 115 [(4, .inl (c : Int)), (3, .inl p), (2, .inl (b : Int)), (1, .inl (m : Int)), (0, .inr (.inr (.inl (some 107))))] [] (am_mm D (am_wp tS I Q) J ρ) _
      refine am_e_ss 7 (q := (10, [(2, .inl ((b : Int) + 1)), (4, .inl (c : Int)), (3, .inl p), (1, .inl (m : Int)), (0, .inr (.inr (.inl (some 107))))], [.inl ((I 108 20)), .inl ((b : Int) + 1)], (am_mm D (am_wp tS I Q) J ρ))) rfl ?_
      refine am_e_icmp2 rfl ⟨by omega, by omega⟩ ⟨by omega, by omega⟩ (fun (h3 : (I 108 20) ≤ ((b : Int) + 1)) => ?_) (fun (h3 : ¬ ((I 108 20) ≤ ((b : Int) + 1))) => ?_)
      · show am_E _ _ _ 121 [(2, .inl ((b : Int) + 1)), (4, .inl (c : Int)), (3, .inl p), (1, .inl (m : Int)), (0, .inr (.inr (.inl (some 107))))] [] (am_mm D (am_wp tS I Q) J ρ) _
        refine am_e_return rfl rfl ?_
        have ep : p = sp_plc (I 108) (fun b : Nat => sp_like (I 108) m b) (I 108 20).toNat b := by
          rw [hp, show c = (I 108 20).toNat by omega]
          rfl
        have e8 : ∀ x : Nat, x < b + 1 → I 108 (13 + x) = 0 → Q 114 (6 * m + (sp_plc (I 108) (fun b : Nat => sp_like (I 108) m b) (I 108 20).toNat x).toNat) = (x : Int) := by
          intro x hx hox
          by_cases e : x = b
          · subst e; omega
          · exact hq x (by omega) hox
        have e9 := hf
        refine ⟨_, am_r_wp tS (am_k_wp am_k_sub (am_k_id)), sp_srtk_row (fun x hx ho => e8 x (by omega) ho), e9⟩
      · show am_E _ _ _ 13 [(2, .inl ((b : Int) + 1)), (4, .inl (c : Int)), (3, .inl p), (1, .inl (m : Int)), (0, .inr (.inr (.inl (some 107))))] [] (am_mm D (am_wp tS I Q) J ρ) _
        refine am_e_ss 4 (q := (18, [(4, .inl 0), (3, .inl 0), (2, .inl ((b : Int) + 1)), (1, .inl (m : Int)), (0, .inr (.inr (.inl (some 107))))], [], (am_mm D (am_wp tS I Q) J ρ))) rfl ?_
        have ep : p = sp_plc (I 108) (fun b : Nat => sp_like (I 108) m b) (I 108 20).toNat b := by
          rw [hp, show c = (I 108 20).toNat by omega]
          rfl
        have e8 : ∀ x : Nat, x < b + 1 → I 108 (13 + x) = 0 → Q 114 (6 * m + (sp_plc (I 108) (fun b : Nat => sp_like (I 108) m b) (I 108 20).toNat x).toNat) = (x : Int) := by
          intro x hx hox
          by_cases e : x = b
          · subst e; omega
          · exact hq x (by omega) hox
        have e9 := hf
        refine am_e_wp tS (am_k_wp am_k_sub (am_k_id)) ?_
        exact am_less (lv := [(4, .inl (0 : Int)), (3, .inl 0), (2, .inl ((b + 1) : Int)), (1, .inl (m : Int)), (0, .inr (.inr (.inl (some 107))))]) rfl (List.forall_mem_cons.mpr ⟨rfl, List.forall_mem_cons.mpr ⟨rfl, List.forall_mem_cons.mpr ⟨rfl, List.forall_mem_cons.mpr ⟨rfl, List.forall_mem_cons.mpr ⟨rfl, List.forall_mem_nil _⟩⟩⟩⟩⟩) (r_sorts_l d (p := 0) (b := b + 1) (c := 0) hm (by omega) (by omega) rfl e8 e9 hl hok hwf)
    · show am_E _ _ _ 103 [(4, .inl (c : Int)), (3, .inl p), (2, .inl (b : Int)), (1, .inl (m : Int)), (0, .inr (.inr (.inl (some 107))))] [] (am_mm D (am_wp tS I Q) J ρ) _
      have ep0 : p = sp_plc (I 108) (fun b : Nat => sp_like (I 108) m b) (I 108 20).toNat b := by rw [hp, show c = (I 108 20).toNat by omega]; rfl
      have pb0 := sp_plc_lt (S := I 108) (l := (fun b : Nat => sp_like (I 108) m b)) (n := (I 108 20).toNat) (b := b) (by omega) (by omega)
      refine am_e_ss 8 (q := (114, [(4, .inl (c : Int)), (3, .inl p), (2, .inl (b : Int)), (1, .inl (m : Int)), (0, .inr (.inr (.inl (some 107))))], [.inl (b : Int), .inl ((6 * (m : Int)) + p), .inr (.inr (.inl (some 114)))], (am_mm D (am_wp tS I Q) J ρ))) rfl ?_
      refine am_e_iastore (m := 36) rfl rfl (by omega) (by omega) (by omega) ?_
      show am_E _ _ _ 115 [(4, .inl (c : Int)), (3, .inl p), (2, .inl (b : Int)), (1, .inl (m : Int)), (0, .inr (.inr (.inl (some 107))))] [] (am_mm D (am_up (am_wp tS I Q) 114 (((6 * (m : Int)) + p)).toNat (b : Int)) J ρ) _
      refine am_e_ss 7 (q := (10, [(2, .inl ((b : Int) + 1)), (4, .inl (c : Int)), (3, .inl p), (1, .inl (m : Int)), (0, .inr (.inr (.inl (some 107))))], [.inl ((I 108 20)), .inl ((b : Int) + 1)], (am_mm D (am_up (am_wp tS I Q) 114 (((6 * (m : Int)) + p)).toNat (b : Int)) J ρ))) rfl ?_
      refine am_e_icmp2 rfl ⟨by omega, by omega⟩ ⟨by omega, by omega⟩ (fun (h4 : (I 108 20) ≤ ((b : Int) + 1)) => ?_) (fun (h4 : ¬ ((I 108 20) ≤ ((b : Int) + 1))) => ?_)
      · show am_E _ _ _ 121 [(2, .inl ((b : Int) + 1)), (4, .inl (c : Int)), (3, .inl p), (1, .inl (m : Int)), (0, .inr (.inr (.inl (some 107))))] [] (am_mm D (am_up (am_wp tS I Q) 114 (((6 * (m : Int)) + p)).toNat (b : Int)) J ρ) _
        refine am_e_return rfl rfl ?_
        have ep : p = sp_plc (I 108) (fun b : Nat => sp_like (I 108) m b) (I 108 20).toNat b := by
          rw [hp, show c = (I 108 20).toNat by omega]
          rfl
        have pb := sp_plc_lt (S := I 108) (l := (fun b : Nat => sp_like (I 108) m b)) (n := (I 108 20).toNat) (b := b) (by omega) (by omega)
        have e8 : ∀ x : Nat, x < b + 1 → I 108 (13 + x) = 0 → (am_up (am_wp tS I Q) 114 (((6 * (m : Int)) + p)).toNat (b : Int)) 114 (6 * m + (sp_plc (I 108) (fun b : Nat => sp_like (I 108) m b) (I 108 20).toNat x).toNat) = (x : Int) := by
          intro x hx hox
          by_cases e : x = b
          · subst e
            rw [← ep, show 6 * m + p.toNat = (((6 * (m : Int)) + p)).toNat by omega]
            exact am_up_at2
          · have := sp_plc_lt (S := I 108) (l := (fun b : Nat => sp_like (I 108) m b)) (n := (I 108 20).toNat) (b := x) (by omega) hox
            have hne : ¬ sp_plc (I 108) (fun b : Nat => sp_like (I 108) m b) (I 108 20).toNat x = p := fun h => e (sp_plc_inj (by omega) hox (by omega) (by omega) (h.trans ep))
            rw [am_up_ne2 (by omega)]
            exact hq x (by omega) hox
        have e9 : ∀ i, i < 6 * m ∨ 6 * m + 6 ≤ i → (am_up (am_wp tS I Q) 114 (((6 * (m : Int)) + p)).toNat (b : Int)) 114 i = I 114 i := by
          intro i hi
          rw [am_up_ne2 (by omega)]
          exact hf i hi
        refine ⟨_, am_r_wp tS (am_k_up rfl (am_k_wp am_k_sub (am_k_id))), sp_srtk_row (fun x hx ho => e8 x (by omega) ho), e9⟩
      · show am_E _ _ _ 13 [(2, .inl ((b : Int) + 1)), (4, .inl (c : Int)), (3, .inl p), (1, .inl (m : Int)), (0, .inr (.inr (.inl (some 107))))] [] (am_mm D (am_up (am_wp tS I Q) 114 (((6 * (m : Int)) + p)).toNat (b : Int)) J ρ) _
        refine am_e_ss 4 (q := (18, [(4, .inl 0), (3, .inl 0), (2, .inl ((b : Int) + 1)), (1, .inl (m : Int)), (0, .inr (.inr (.inl (some 107))))], [], (am_mm D (am_up (am_wp tS I Q) 114 (((6 * (m : Int)) + p)).toNat (b : Int)) J ρ))) rfl ?_
        have ep : p = sp_plc (I 108) (fun b : Nat => sp_like (I 108) m b) (I 108 20).toNat b := by
          rw [hp, show c = (I 108 20).toNat by omega]
          rfl
        have pb := sp_plc_lt (S := I 108) (l := (fun b : Nat => sp_like (I 108) m b)) (n := (I 108 20).toNat) (b := b) (by omega) (by omega)
        have e8 : ∀ x : Nat, x < b + 1 → I 108 (13 + x) = 0 → (am_up (am_wp tS I Q) 114 (((6 * (m : Int)) + p)).toNat (b : Int)) 114 (6 * m + (sp_plc (I 108) (fun b : Nat => sp_like (I 108) m b) (I 108 20).toNat x).toNat) = (x : Int) := by
          intro x hx hox
          by_cases e : x = b
          · subst e
            rw [← ep, show 6 * m + p.toNat = (((6 * (m : Int)) + p)).toNat by omega]
            exact am_up_at2
          · have := sp_plc_lt (S := I 108) (l := (fun b : Nat => sp_like (I 108) m b)) (n := (I 108 20).toNat) (b := x) (by omega) hox
            have hne : ¬ sp_plc (I 108) (fun b : Nat => sp_like (I 108) m b) (I 108 20).toNat x = p := fun h => e (sp_plc_inj (by omega) hox (by omega) (by omega) (h.trans ep))
            rw [am_up_ne2 (by omega)]
            exact hq x (by omega) hox
        have e9 : ∀ i, i < 6 * m ∨ 6 * m + 6 ≤ i → (am_up (am_wp tS I Q) 114 (((6 * (m : Int)) + p)).toNat (b : Int)) 114 i = I 114 i := by
          intro i hi
          rw [am_up_ne2 (by omega)]
          exact hf i hi
        refine am_e_wp tS (am_k_up rfl (am_k_wp am_k_sub (am_k_id))) ?_
        exact am_less (lv := [(4, .inl (0 : Int)), (3, .inl 0), (2, .inl ((b + 1) : Int)), (1, .inl (m : Int)), (0, .inr (.inr (.inl (some 107))))]) rfl (List.forall_mem_cons.mpr ⟨rfl, List.forall_mem_cons.mpr ⟨rfl, List.forall_mem_cons.mpr ⟨rfl, List.forall_mem_cons.mpr ⟨rfl, List.forall_mem_cons.mpr ⟨rfl, List.forall_mem_nil _⟩⟩⟩⟩⟩) (r_sorts_l d (p := 0) (b := b + 1) (c := 0) hm (by omega) (by omega) rfl e8 e9 hl hok hwf)
  · show am_E _ _ _ 30 [(4, .inl (c : Int)), (3, .inl p), (2, .inl (b : Int)), (1, .inl (m : Int)), (0, .inr (.inr (.inl (some 107))))] [] (am_mm D (am_wp tS I Q) J ρ) _
    have la := hl m c (by omega) (by omega)
    have lb := hl m b (by omega) (by omega)
    have la2 := sp_like_b hok hwf (m := (m : Int)) (b := (c : Int)) ⟨by omega, by omega⟩ ⟨by omega, by omega⟩
    have lb2 := sp_like_b hok hwf (m := (m : Int)) (b := (b : Int)) ⟨by omega, by omega⟩ ⟨by omega, by omega⟩
    refine am_e_ss 7 (q := (41, [(4, .inl (c : Int)), (3, .inl p), (2, .inl (b : Int)), (1, .inl (m : Int)), (0, .inr (.inr (.inl (some 107))))], [.inl ((6 * (m : Int)) + (c : Int)), .inr (.inr (.inl (some 113)))], (am_mm D (am_wp tS I Q) J ρ))) rfl ?_
    refine am_e_iaload (m := 36) rfl rfl (by omega) (by omega) (by omega) ?_
    show am_E _ _ _ 42 [(4, .inl (c : Int)), (3, .inl p), (2, .inl (b : Int)), (1, .inl (m : Int)), (0, .inr (.inr (.inl (some 107))))] [.inl ((I 113 ((6 * m) + c)))] (am_mm D (am_wp tS I Q) J ρ) _
    refine am_e_ss 7 (q := (52, [(4, .inl (c : Int)), (3, .inl p), (2, .inl (b : Int)), (1, .inl (m : Int)), (0, .inr (.inr (.inl (some 107))))], [.inl ((6 * (m : Int)) + (b : Int)), .inr (.inr (.inl (some 113))), .inl ((I 113 ((6 * m) + c)))], (am_mm D (am_wp tS I Q) J ρ))) rfl ?_
    refine am_e_iaload (m := 36) rfl rfl (by omega) (by omega) (by omega) ?_
    show am_E _ _ _ 53 [(4, .inl (c : Int)), (3, .inl p), (2, .inl (b : Int)), (1, .inl (m : Int)), (0, .inr (.inr (.inl (some 107))))] [.inl ((I 113 ((6 * m) + b))), .inl ((I 113 ((6 * m) + c)))] (am_mm D (am_wp tS I Q) J ρ) _
    refine am_e_ss 5 (q := (60, [(5, .inl ((I 113 ((6 * m) + c)) - (I 113 ((6 * m) + b)))), (4, .inl (c : Int)), (3, .inl p), (2, .inl (b : Int)), (1, .inl (m : Int)), (0, .inr (.inr (.inl (some 107))))], [.inl (c : Int), .inr (.inr (.inl (some 107))), .inl p], (am_mm D (am_wp tS I Q) J ρ))) rfl ?_
    refine am_e_virtual (Q := fun r => r = (some (.inl ((am_bi ((I 108 (13 + c)) = 0)))), (am_mm D (am_wp tS I Q) J ρ))) rfl rfl (Nat.le_of_ble_eq_true rfl) rfl rfl (Nat.le_of_ble_eq_true rfl) (Nat.le_of_ble_eq_true rfl) (r_isOpen _ (v := (c : Int)) ⟨by omega, by omega⟩ (by exact oD c (by omega))) ?_
    rintro r rfl
    show am_E _ _ _ 63 [(5, .inl ((I 113 ((6 * m) + c)) - (I 113 ((6 * m) + b)))), (4, .inl (c : Int)), (3, .inl p), (2, .inl (b : Int)), (1, .inl (m : Int)), (0, .inr (.inr (.inl (some 107))))] [.inl ((am_bi ((I 108 (13 + c)) = 0))), .inl p] (am_mm D (am_wp tS I Q) J ρ) _
    refine am_e_ifeq rfl (fun h5 => ?_) (fun h5 => ?_)
    · show am_E _ _ _ 86 [(5, .inl ((I 113 ((6 * m) + c)) - (I 113 ((6 * m) + b)))), (4, .inl (c : Int)), (3, .inl p), (2, .inl (b : Int)), (1, .inl (m : Int)), (0, .inr (.inr (.inl (some 107))))] [.inl p] (am_mm D (am_wp tS I Q) J ρ) _
      refine am_e_ss 5 (q := (18, [(4, .inl ((c : Int) + 1)), (3, .inl (p + 0)), (5, .inl ((I 113 ((6 * m) + c)) - (I 113 ((6 * m) + b)))), (2, .inl (b : Int)), (1, .inl (m : Int)), (0, .inr (.inr (.inl (some 107))))], [], (am_mm D (am_wp tS I Q) J ρ))) rfl ?_
      have e9 : (p + 0) = am_cnt (fun c => decide (I 108 (13 + c) = 0) && sp_bef (fun b : Nat => sp_like (I 108) m b) c b) (c + 1) := by
        show _ = am_cnt (fun c => decide (I 108 (13 + c) = 0) && sp_bef (fun b : Nat => sp_like (I 108) m b) c b) c + (if (decide (I 108 (13 + c) = 0) && sp_bef (fun b : Nat => sp_like (I 108) m b) c b) = true then 1 else 0)
        split <;> rename_i hx <;> rw [Bool.and_eq_true, sp_bef_iff, decide_eq_true_eq] at hx <;> (try dsimp only at hx) <;> omega
      exact am_less (lv := [(4, .inl ((c + 1) : Int)), (3, .inl ((p + 0))), (2, .inl (b : Int)), (1, .inl (m : Int)), (0, .inr (.inr (.inl (some 107))))]) rfl (List.forall_mem_cons.mpr ⟨rfl, List.forall_mem_cons.mpr ⟨rfl, List.forall_mem_cons.mpr ⟨rfl, List.forall_mem_cons.mpr ⟨rfl, List.forall_mem_cons.mpr ⟨rfl, List.forall_mem_nil _⟩⟩⟩⟩⟩) (r_sorts_l d (b := b) (c := c + 1) hm hb (by omega) e9 hq hf hl hok hwf)
    · show am_E _ _ _ 66 [(5, .inl ((I 113 ((6 * m) + c)) - (I 113 ((6 * m) + b)))), (4, .inl (c : Int)), (3, .inl p), (2, .inl (b : Int)), (1, .inl (m : Int)), (0, .inr (.inr (.inl (some 107))))] [.inl p] (am_mm D (am_wp tS I Q) J ρ) _
      refine am_e_ss 1 (q := (68, [(5, .inl ((I 113 ((6 * m) + c)) - (I 113 ((6 * m) + b)))), (4, .inl (c : Int)), (3, .inl p), (2, .inl (b : Int)), (1, .inl (m : Int)), (0, .inr (.inr (.inl (some 107))))], [.inl ((I 113 ((6 * m) + c)) - (I 113 ((6 * m) + b))), .inl p], (am_mm D (am_wp tS I Q) J ρ))) rfl ?_
      refine am_e_if2 rfl ⟨by omega, by omega⟩ (fun (h6 : 0 < ((I 113 ((6 * m) + c)) - (I 113 ((6 * m) + b)))) => ?_) (fun (h6 : ¬ (0 < ((I 113 ((6 * m) + c)) - (I 113 ((6 * m) + b))))) => ?_)
      · show am_E _ _ _ 82 [(5, .inl ((I 113 ((6 * m) + c)) - (I 113 ((6 * m) + b)))), (4, .inl (c : Int)), (3, .inl p), (2, .inl (b : Int)), (1, .inl (m : Int)), (0, .inr (.inr (.inl (some 107))))] [.inl p] (am_mm D (am_wp tS I Q) J ρ) _
        refine am_e_ss 6 (q := (18, [(4, .inl ((c : Int) + 1)), (3, .inl (p + 1)), (5, .inl ((I 113 ((6 * m) + c)) - (I 113 ((6 * m) + b)))), (2, .inl (b : Int)), (1, .inl (m : Int)), (0, .inr (.inr (.inl (some 107))))], [], (am_mm D (am_wp tS I Q) J ρ))) rfl ?_
        have e9 : (p + 1) = am_cnt (fun c => decide (I 108 (13 + c) = 0) && sp_bef (fun b : Nat => sp_like (I 108) m b) c b) (c + 1) := by
          show _ = am_cnt (fun c => decide (I 108 (13 + c) = 0) && sp_bef (fun b : Nat => sp_like (I 108) m b) c b) c + (if (decide (I 108 (13 + c) = 0) && sp_bef (fun b : Nat => sp_like (I 108) m b) c b) = true then 1 else 0)
          split <;> rename_i hx <;> rw [Bool.and_eq_true, sp_bef_iff, decide_eq_true_eq] at hx <;> (try dsimp only at hx) <;> omega
        exact am_less (lv := [(4, .inl ((c + 1) : Int)), (3, .inl ((p + 1))), (2, .inl (b : Int)), (1, .inl (m : Int)), (0, .inr (.inr (.inl (some 107))))]) rfl (List.forall_mem_cons.mpr ⟨rfl, List.forall_mem_cons.mpr ⟨rfl, List.forall_mem_cons.mpr ⟨rfl, List.forall_mem_cons.mpr ⟨rfl, List.forall_mem_cons.mpr ⟨rfl, List.forall_mem_nil _⟩⟩⟩⟩⟩) (r_sorts_l d (b := b) (c := c + 1) hm hb (by omega) e9 hq hf hl hok hwf)
      · show am_E _ _ _ 71 [(5, .inl ((I 113 ((6 * m) + c)) - (I 113 ((6 * m) + b)))), (4, .inl (c : Int)), (3, .inl p), (2, .inl (b : Int)), (1, .inl (m : Int)), (0, .inr (.inr (.inl (some 107))))] [.inl p] (am_mm D (am_wp tS I Q) J ρ) _
        refine am_e_ss 1 (q := (73, [(5, .inl ((I 113 ((6 * m) + c)) - (I 113 ((6 * m) + b)))), (4, .inl (c : Int)), (3, .inl p), (2, .inl (b : Int)), (1, .inl (m : Int)), (0, .inr (.inr (.inl (some 107))))], [.inl ((I 113 ((6 * m) + c)) - (I 113 ((6 * m) + b))), .inl p], (am_mm D (am_wp tS I Q) J ρ))) rfl ?_
        refine am_e_if2 rfl ⟨by omega, by omega⟩ (fun (h7 : ¬ ((I 113 ((6 * m) + c)) - (I 113 ((6 * m) + b))) = 0) => ?_) (fun (h7 : ¬ (¬ ((I 113 ((6 * m) + c)) - (I 113 ((6 * m) + b))) = 0)) => ?_)
        · show am_E _ _ _ 86 [(5, .inl ((I 113 ((6 * m) + c)) - (I 113 ((6 * m) + b)))), (4, .inl (c : Int)), (3, .inl p), (2, .inl (b : Int)), (1, .inl (m : Int)), (0, .inr (.inr (.inl (some 107))))] [.inl p] (am_mm D (am_wp tS I Q) J ρ) _
          refine am_e_ss 5 (q := (18, [(4, .inl ((c : Int) + 1)), (3, .inl (p + 0)), (5, .inl ((I 113 ((6 * m) + c)) - (I 113 ((6 * m) + b)))), (2, .inl (b : Int)), (1, .inl (m : Int)), (0, .inr (.inr (.inl (some 107))))], [], (am_mm D (am_wp tS I Q) J ρ))) rfl ?_
          have e9 : (p + 0) = am_cnt (fun c => decide (I 108 (13 + c) = 0) && sp_bef (fun b : Nat => sp_like (I 108) m b) c b) (c + 1) := by
            show _ = am_cnt (fun c => decide (I 108 (13 + c) = 0) && sp_bef (fun b : Nat => sp_like (I 108) m b) c b) c + (if (decide (I 108 (13 + c) = 0) && sp_bef (fun b : Nat => sp_like (I 108) m b) c b) = true then 1 else 0)
            split <;> rename_i hx <;> rw [Bool.and_eq_true, sp_bef_iff, decide_eq_true_eq] at hx <;> (try dsimp only at hx) <;> omega
          exact am_less (lv := [(4, .inl ((c + 1) : Int)), (3, .inl ((p + 0))), (2, .inl (b : Int)), (1, .inl (m : Int)), (0, .inr (.inr (.inl (some 107))))]) rfl (List.forall_mem_cons.mpr ⟨rfl, List.forall_mem_cons.mpr ⟨rfl, List.forall_mem_cons.mpr ⟨rfl, List.forall_mem_cons.mpr ⟨rfl, List.forall_mem_cons.mpr ⟨rfl, List.forall_mem_nil _⟩⟩⟩⟩⟩) (r_sorts_l d (b := b) (c := c + 1) hm hb (by omega) e9 hq hf hl hok hwf)
        · show am_E _ _ _ 76 [(5, .inl ((I 113 ((6 * m) + c)) - (I 113 ((6 * m) + b)))), (4, .inl (c : Int)), (3, .inl p), (2, .inl (b : Int)), (1, .inl (m : Int)), (0, .inr (.inr (.inl (some 107))))] [.inl p] (am_mm D (am_wp tS I Q) J ρ) _
          refine am_e_ss 2 (q := (79, [(5, .inl ((I 113 ((6 * m) + c)) - (I 113 ((6 * m) + b)))), (4, .inl (c : Int)), (3, .inl p), (2, .inl (b : Int)), (1, .inl (m : Int)), (0, .inr (.inr (.inl (some 107))))], [.inl (b : Int), .inl (c : Int), .inl p], (am_mm D (am_wp tS I Q) J ρ))) rfl ?_
          refine am_e_icmp2 rfl ⟨by omega, by omega⟩ ⟨by omega, by omega⟩ (fun (h8 : (b : Int) ≤ (c : Int)) => ?_) (fun (h8 : ¬ ((b : Int) ≤ (c : Int))) => ?_)
          · show am_E _ _ _ 86 [(5, .inl ((I 113 ((6 * m) + c)) - (I 113 ((6 * m) + b)))), (4, .inl (c : Int)), (3, .inl p), (2, .inl (b : Int)), (1, .inl (m : Int)), (0, .inr (.inr (.inl (some 107))))] [.inl p] (am_mm D (am_wp tS I Q) J ρ) _
            refine am_e_ss 5 (q := (18, [(4, .inl ((c : Int) + 1)), (3, .inl (p + 0)), (5, .inl ((I 113 ((6 * m) + c)) - (I 113 ((6 * m) + b)))), (2, .inl (b : Int)), (1, .inl (m : Int)), (0, .inr (.inr (.inl (some 107))))], [], (am_mm D (am_wp tS I Q) J ρ))) rfl ?_
            have e9 : (p + 0) = am_cnt (fun c => decide (I 108 (13 + c) = 0) && sp_bef (fun b : Nat => sp_like (I 108) m b) c b) (c + 1) := by
              show _ = am_cnt (fun c => decide (I 108 (13 + c) = 0) && sp_bef (fun b : Nat => sp_like (I 108) m b) c b) c + (if (decide (I 108 (13 + c) = 0) && sp_bef (fun b : Nat => sp_like (I 108) m b) c b) = true then 1 else 0)
              split <;> rename_i hx <;> rw [Bool.and_eq_true, sp_bef_iff, decide_eq_true_eq] at hx <;> (try dsimp only at hx) <;> omega
            exact am_less (lv := [(4, .inl ((c + 1) : Int)), (3, .inl ((p + 0))), (2, .inl (b : Int)), (1, .inl (m : Int)), (0, .inr (.inr (.inl (some 107))))]) rfl (List.forall_mem_cons.mpr ⟨rfl, List.forall_mem_cons.mpr ⟨rfl, List.forall_mem_cons.mpr ⟨rfl, List.forall_mem_cons.mpr ⟨rfl, List.forall_mem_cons.mpr ⟨rfl, List.forall_mem_nil _⟩⟩⟩⟩⟩) (r_sorts_l d (b := b) (c := c + 1) hm hb (by omega) e9 hq hf hl hok hwf)
          · show am_E _ _ _ 82 [(5, .inl ((I 113 ((6 * m) + c)) - (I 113 ((6 * m) + b)))), (4, .inl (c : Int)), (3, .inl p), (2, .inl (b : Int)), (1, .inl (m : Int)), (0, .inr (.inr (.inl (some 107))))] [.inl p] (am_mm D (am_wp tS I Q) J ρ) _
            refine am_e_ss 6 (q := (18, [(4, .inl ((c : Int) + 1)), (3, .inl (p + 1)), (5, .inl ((I 113 ((6 * m) + c)) - (I 113 ((6 * m) + b)))), (2, .inl (b : Int)), (1, .inl (m : Int)), (0, .inr (.inr (.inl (some 107))))], [], (am_mm D (am_wp tS I Q) J ρ))) rfl ?_
            have e9 : (p + 1) = am_cnt (fun c => decide (I 108 (13 + c) = 0) && sp_bef (fun b : Nat => sp_like (I 108) m b) c b) (c + 1) := by
              show _ = am_cnt (fun c => decide (I 108 (13 + c) = 0) && sp_bef (fun b : Nat => sp_like (I 108) m b) c b) c + (if (decide (I 108 (13 + c) = 0) && sp_bef (fun b : Nat => sp_like (I 108) m b) c b) = true then 1 else 0)
              split <;> rename_i hx <;> rw [Bool.and_eq_true, sp_bef_iff, decide_eq_true_eq] at hx <;> (try dsimp only at hx) <;> omega
            exact am_less (lv := [(4, .inl ((c + 1) : Int)), (3, .inl ((p + 1))), (2, .inl (b : Int)), (1, .inl (m : Int)), (0, .inr (.inr (.inl (some 107))))]) rfl (List.forall_mem_cons.mpr ⟨rfl, List.forall_mem_cons.mpr ⟨rfl, List.forall_mem_cons.mpr ⟨rfl, List.forall_mem_cons.mpr ⟨rfl, List.forall_mem_cons.mpr ⟨rfl, List.forall_mem_nil _⟩⟩⟩⟩⟩) (r_sorts_l d (b := b) (c := c + 1) hm hb (by omega) e9 hq hf hl hok hwf)
termination_by (7 * (7 - b) + (7 - c))
decreasing_by all_goals omega
theorem r_sorts {X : Nat × (Nat → Int)} {D : List (Nat × Nat)} {I J : Nat → Nat → Int} {ρ : Nat → Nat → Option Nat} (d : Nat) {B : Int} {m : Nat} (hm : (m : Int) < I 108 19) (hl : r_lks (I 108) (I 113)) (hok : r_ok (I 108) B) (hwf : sp_wfS (I 108)) : am_E X (d + 1) 162 0 [(0, .inr (.inr (.inl (some 107)))), (1, .inl (m : Int))] [] (am_mm D I J ρ) (fun r => ∃ Q, r = (none, am_mm D (am_wp tS I Q) J ρ) ∧ am_rowl (Q 114) (6 * m) (sp_ord (I 108) m) ∧ ∀ i, i < 6 * m ∨ 6 * m + 6 ≤ i → Q 114 i = I 114 i) := by
  have hok2 := hok
  obtain ⟨o0, oG, oH, oD, o19, o20, o21, o22, o23, o24, oK, oV, oP, oM, oS, oY, oHd, oT, oC, oN⟩ := hok
  have hok := hok2
  refine am_e_ss 7 (q := (10, [(2, .inl 0), (0, .inr (.inr (.inl (some 107)))), (1, .inl (m : Int))], [.inl ((I 108 20)), .inl 0], (am_mm D I J ρ))) rfl ?_
  refine am_e_icmp2 rfl ⟨by omega, by omega⟩ ⟨by omega, by omega⟩ (fun (h1 : (I 108 20) ≤ 0) => ?_) (fun (h1 : ¬ ((I 108 20) ≤ 0)) => ?_)
  · show am_E _ _ _ 121 [(2, .inl 0), (0, .inr (.inr (.inl (some 107)))), (1, .inl (m : Int))] [] (am_mm D I J ρ) _
    refine am_e_return rfl rfl ?_
    refine ⟨I, am_r_wp tS am_k_id, ?_, fun i _ => rfl⟩
    unfold sp_ord
    rw [show (I 108 20).toNat = 0 by omega]
    exact am_rowl_nil
  · show am_E _ _ _ 13 [(2, .inl 0), (0, .inr (.inr (.inl (some 107)))), (1, .inl (m : Int))] [] (am_mm D I J ρ) _
    refine am_e_ss 4 (q := (18, [(4, .inl 0), (3, .inl 0), (2, .inl 0), (0, .inr (.inr (.inl (some 107)))), (1, .inl (m : Int))], [], (am_mm D I J ρ))) rfl ?_
    refine am_e_wp tS am_k_id ?_
    exact am_less (lv := [(4, .inl (0 : Int)), (3, .inl 0), (2, .inl (0 : Int)), (1, .inl (m : Int)), (0, .inr (.inr (.inl (some 107))))]) rfl (List.forall_mem_cons.mpr ⟨rfl, List.forall_mem_cons.mpr ⟨rfl, List.forall_mem_cons.mpr ⟨rfl, List.forall_mem_cons.mpr ⟨rfl, List.forall_mem_cons.mpr ⟨rfl, List.forall_mem_nil _⟩⟩⟩⟩⟩) (r_sorts_l d (p := 0) (b := 0) (c := 0) hm (by omega) (by omega) rfl (fun x hx => by omega) (fun i _ => rfl) hl hok hwf)
theorem r_firstOfMost_l {X : Nat × (Nat → Int)} {D : List (Nat × Nat)} {I J : Nat → Nat → Int} {ρ : Nat → Nat → Option Nat} (d : Nat) {B p q n4 : Int} {b m : Nat} (hb : (b : Int) < I 108 20) (hm : (m : Int) ≤ I 108 19) (hpq : (p, q) = sp_fmk (I 108) (fun m => I 114 (6 * m)) b) (hn : n4 = sp_fc (I 108) (fun m => I 114 (6 * m)) b m) (hO : ∀ m : Nat, m < (I 108 19).toNat → 0 ≤ I 114 (6 * m) ∧ I 114 (6 * m) ≤ 5) (hok : r_ok (I 108) B) : am_E X (d + 1) 163 23 [(5, .inl (m : Int)), (4, .inl n4), (3, .inl (b : Int)), (2, .inl q), (1, .inl p), (0, .inr (.inr (.inl (some 107))))] [] (am_mm D I J ρ) (fun r => r = (some (.inl ((sp_fom (I 108) (fun m => I 114 (6 * m))))), (am_mm D I J ρ))) := by
  have hok2 := hok
  obtain ⟨o0, oG, oH, oD, o19, o20, o21, o22, o23, o24, oK, oV, oP, oM, oS, oY, oHd, oT, oC, oN⟩ := hok
  have hok := hok2
  have fb := sp_fc_b (S := I 108) (h := (fun m => I 114 (6 * m))) (b := b) m
  have gb := sp_fmk_b (S := I 108) (h := (fun m => I 114 (6 * m))) b
  rw [← hpq] at gb
  have g1 : -1 ≤ p ∧ p < (b : Int) := gb.1
  have g2 : -1 ≤ q ∧ q ≤ ((I 108 19).toNat : Int) := gb.2
  clear gb
  refine am_e_ss 5 (q := (32, [(5, .inl (m : Int)), (4, .inl n4), (3, .inl (b : Int)), (2, .inl q), (1, .inl p), (0, .inr (.inr (.inl (some 107))))], [.inl ((I 108 19)), .inl (m : Int)], (am_mm D I J ρ))) rfl ?_
  refine am_e_icmp2 rfl ⟨by omega, by omega⟩ ⟨by omega, by omega⟩ (fun (h1 : (I 108 19) ≤ (m : Int)) => ?_) (fun (h1 : ¬ ((I 108 19) ≤ (m : Int))) => ?_)
  · show am_E _ _ _ 74 [(5, .inl (m : Int)), (4, .inl n4), (3, .inl (b : Int)), (2, .inl q), (1, .inl p), (0, .inr (.inr (.inl (some 107))))] [] (am_mm D I J ρ) _
    refine am_e_ss 2 (q := (76, [(5, .inl (m : Int)), (4, .inl n4), (3, .inl (b : Int)), (2, .inl q), (1, .inl p), (0, .inr (.inr (.inl (some 107))))], [.inl (b : Int), .inr (.inr (.inl (some 107)))], (am_mm D I J ρ))) rfl ?_
    refine am_e_virtual (Q := fun r => r = (some (.inl ((am_bi ((I 108 (13 + b)) = 0)))), (am_mm D I J ρ))) rfl rfl (Nat.le_of_ble_eq_true rfl) rfl rfl (Nat.le_of_ble_eq_true rfl) (Nat.le_of_ble_eq_true rfl) (r_isOpen _ (v := (b : Int)) ⟨by omega, by omega⟩ (by exact oD b (by omega))) ?_
    rintro r rfl
    show am_E _ _ _ 79 [(5, .inl (m : Int)), (4, .inl n4), (3, .inl (b : Int)), (2, .inl q), (1, .inl p), (0, .inr (.inr (.inl (some 107))))] [.inl ((am_bi ((I 108 (13 + b)) = 0)))] (am_mm D I J ρ) _
    refine am_e_ifeq rfl (fun h2 => ?_) (fun h2 => ?_)
    · show am_E _ _ _ 93 [(5, .inl (m : Int)), (4, .inl n4), (3, .inl (b : Int)), (2, .inl q), (1, .inl p), (0, .inr (.inr (.inl (some 107))))] [] (am_mm D I J ρ) _
      refine am_e_ss 7 (q := (14, [(3, .inl ((b : Int) + 1)), (5, .inl (m : Int)), (4, .inl n4), (2, .inl q), (1, .inl p), (0, .inr (.inr (.inl (some 107))))], [.inl ((I 108 20)), .inl ((b : Int) + 1)], (am_mm D I J ρ))) rfl ?_
      refine am_e_icmp2 rfl ⟨by omega, by omega⟩ ⟨by omega, by omega⟩ (fun (h3 : (I 108 20) ≤ ((b : Int) + 1)) => ?_) (fun (h3 : ¬ ((I 108 20) ≤ ((b : Int) + 1))) => ?_)
      · show am_E _ _ _ 99 [(3, .inl ((b : Int) + 1)), (5, .inl (m : Int)), (4, .inl n4), (2, .inl q), (1, .inl p), (0, .inr (.inr (.inl (some 107))))] [] (am_mm D I J ρ) _
        refine am_e_ss 1 (q := (100, [(3, .inl ((b : Int) + 1)), (5, .inl (m : Int)), (4, .inl n4), (2, .inl q), (1, .inl p), (0, .inr (.inr (.inl (some 107))))], [.inl p], (am_mm D I J ρ))) rfl ?_
        refine am_e_ireturn rfl rfl ?_
        have e9 : (p, q) = sp_fmk (I 108) (fun m => I 114 (6 * m)) (b + 1) := by
          show _ = (if I 108 (13 + b) = 0 ∧ (sp_fmk (I 108) (fun m => I 114 (6 * m)) b).2 < sp_fc (I 108) (fun m => I 114 (6 * m)) b (I 108 19).toNat then _ else _)
          rw [← hpq, show (I 108 19).toNat = m by omega, ← hn]
          split
          · first | rfl | (exfalso; omega)
          · first | rfl | (exfalso; omega)
        rw [show p = (sp_fmk (I 108) (fun m => I 114 (6 * m)) (b + 1)).1 from congrArg Prod.fst e9, show b + 1 = (I 108 20).toNat by omega]
        rfl
      · show am_E _ _ _ 17 [(3, .inl ((b : Int) + 1)), (5, .inl (m : Int)), (4, .inl n4), (2, .inl q), (1, .inl p), (0, .inr (.inr (.inl (some 107))))] [] (am_mm D I J ρ) _
        refine am_e_ss 4 (q := (23, [(5, .inl 0), (4, .inl 0), (3, .inl ((b : Int) + 1)), (2, .inl q), (1, .inl p), (0, .inr (.inr (.inl (some 107))))], [], (am_mm D I J ρ))) rfl ?_
        have e9 : (p, q) = sp_fmk (I 108) (fun m => I 114 (6 * m)) (b + 1) := by
          show _ = (if I 108 (13 + b) = 0 ∧ (sp_fmk (I 108) (fun m => I 114 (6 * m)) b).2 < sp_fc (I 108) (fun m => I 114 (6 * m)) b (I 108 19).toNat then _ else _)
          rw [← hpq, show (I 108 19).toNat = m by omega, ← hn]
          split
          · first | rfl | (exfalso; omega)
          · first | rfl | (exfalso; omega)
        exact am_less (lv := [(5, .inl (0 : Int)), (4, .inl 0), (3, .inl ((b + 1) : Int)), (2, .inl q), (1, .inl p), (0, .inr (.inr (.inl (some 107))))]) rfl (List.forall_mem_cons.mpr ⟨rfl, List.forall_mem_cons.mpr ⟨rfl, List.forall_mem_cons.mpr ⟨rfl, List.forall_mem_cons.mpr ⟨rfl, List.forall_mem_cons.mpr ⟨rfl, List.forall_mem_cons.mpr ⟨rfl, List.forall_mem_nil _⟩⟩⟩⟩⟩⟩) (r_firstOfMost_l d (n4 := 0) (b := b + 1) (m := 0) (by omega) (by omega) e9 rfl hO hok)
    · show am_E _ _ _ 82 [(5, .inl (m : Int)), (4, .inl n4), (3, .inl (b : Int)), (2, .inl q), (1, .inl p), (0, .inr (.inr (.inl (some 107))))] [] (am_mm D I J ρ) _
      refine am_e_ss 2 (q := (85, [(5, .inl (m : Int)), (4, .inl n4), (3, .inl (b : Int)), (2, .inl q), (1, .inl p), (0, .inr (.inr (.inl (some 107))))], [.inl q, .inl n4], (am_mm D I J ρ))) rfl ?_
      refine am_e_icmp2 rfl ⟨by omega, by omega⟩ ⟨by omega, by omega⟩ (fun (h4 : n4 ≤ q) => ?_) (fun (h4 : ¬ (n4 ≤ q)) => ?_)
      · show am_E _ _ _ 93 [(5, .inl (m : Int)), (4, .inl n4), (3, .inl (b : Int)), (2, .inl q), (1, .inl p), (0, .inr (.inr (.inl (some 107))))] [] (am_mm D I J ρ) _
        refine am_e_ss 7 (q := (14, [(3, .inl ((b : Int) + 1)), (5, .inl (m : Int)), (4, .inl n4), (2, .inl q), (1, .inl p), (0, .inr (.inr (.inl (some 107))))], [.inl ((I 108 20)), .inl ((b : Int) + 1)], (am_mm D I J ρ))) rfl ?_
        refine am_e_icmp2 rfl ⟨by omega, by omega⟩ ⟨by omega, by omega⟩ (fun (h5 : (I 108 20) ≤ ((b : Int) + 1)) => ?_) (fun (h5 : ¬ ((I 108 20) ≤ ((b : Int) + 1))) => ?_)
        · show am_E _ _ _ 99 [(3, .inl ((b : Int) + 1)), (5, .inl (m : Int)), (4, .inl n4), (2, .inl q), (1, .inl p), (0, .inr (.inr (.inl (some 107))))] [] (am_mm D I J ρ) _
          refine am_e_ss 1 (q := (100, [(3, .inl ((b : Int) + 1)), (5, .inl (m : Int)), (4, .inl n4), (2, .inl q), (1, .inl p), (0, .inr (.inr (.inl (some 107))))], [.inl p], (am_mm D I J ρ))) rfl ?_
          refine am_e_ireturn rfl rfl ?_
          have e9 : (p, q) = sp_fmk (I 108) (fun m => I 114 (6 * m)) (b + 1) := by
            show _ = (if I 108 (13 + b) = 0 ∧ (sp_fmk (I 108) (fun m => I 114 (6 * m)) b).2 < sp_fc (I 108) (fun m => I 114 (6 * m)) b (I 108 19).toNat then _ else _)
            rw [← hpq, show (I 108 19).toNat = m by omega, ← hn]
            split
            · first | rfl | (exfalso; omega)
            · first | rfl | (exfalso; omega)
          rw [show p = (sp_fmk (I 108) (fun m => I 114 (6 * m)) (b + 1)).1 from congrArg Prod.fst e9, show b + 1 = (I 108 20).toNat by omega]
          rfl
        · show am_E _ _ _ 17 [(3, .inl ((b : Int) + 1)), (5, .inl (m : Int)), (4, .inl n4), (2, .inl q), (1, .inl p), (0, .inr (.inr (.inl (some 107))))] [] (am_mm D I J ρ) _
          refine am_e_ss 4 (q := (23, [(5, .inl 0), (4, .inl 0), (3, .inl ((b : Int) + 1)), (2, .inl q), (1, .inl p), (0, .inr (.inr (.inl (some 107))))], [], (am_mm D I J ρ))) rfl ?_
          have e9 : (p, q) = sp_fmk (I 108) (fun m => I 114 (6 * m)) (b + 1) := by
            show _ = (if I 108 (13 + b) = 0 ∧ (sp_fmk (I 108) (fun m => I 114 (6 * m)) b).2 < sp_fc (I 108) (fun m => I 114 (6 * m)) b (I 108 19).toNat then _ else _)
            rw [← hpq, show (I 108 19).toNat = m by omega, ← hn]
            split
            · first | rfl | (exfalso; omega)
            · first | rfl | (exfalso; omega)
          exact am_less (lv := [(5, .inl (0 : Int)), (4, .inl 0), (3, .inl ((b + 1) : Int)), (2, .inl q), (1, .inl p), (0, .inr (.inr (.inl (some 107))))]) rfl (List.forall_mem_cons.mpr ⟨rfl, List.forall_mem_cons.mpr ⟨rfl, List.forall_mem_cons.mpr ⟨rfl, List.forall_mem_cons.mpr ⟨rfl, List.forall_mem_cons.mpr ⟨rfl, List.forall_mem_cons.mpr ⟨rfl, List.forall_mem_nil _⟩⟩⟩⟩⟩⟩) (r_firstOfMost_l d (n4 := 0) (b := b + 1) (m := 0) (by omega) (by omega) e9 rfl hO hok)
      · show am_E _ _ _ 88 [(5, .inl (m : Int)), (4, .inl n4), (3, .inl (b : Int)), (2, .inl q), (1, .inl p), (0, .inr (.inr (.inl (some 107))))] [] (am_mm D I J ρ) _
        refine am_e_ss 11 (q := (14, [(3, .inl ((b : Int) + 1)), (2, .inl n4), (1, .inl (b : Int)), (5, .inl (m : Int)), (4, .inl n4), (0, .inr (.inr (.inl (some 107))))], [.inl ((I 108 20)), .inl ((b : Int) + 1)], (am_mm D I J ρ))) rfl ?_
        refine am_e_icmp2 rfl ⟨by omega, by omega⟩ ⟨by omega, by omega⟩ (fun (h6 : (I 108 20) ≤ ((b : Int) + 1)) => ?_) (fun (h6 : ¬ ((I 108 20) ≤ ((b : Int) + 1))) => ?_)
        · show am_E _ _ _ 99 [(3, .inl ((b : Int) + 1)), (2, .inl n4), (1, .inl (b : Int)), (5, .inl (m : Int)), (4, .inl n4), (0, .inr (.inr (.inl (some 107))))] [] (am_mm D I J ρ) _
          refine am_e_ss 1 (q := (100, [(3, .inl ((b : Int) + 1)), (2, .inl n4), (1, .inl (b : Int)), (5, .inl (m : Int)), (4, .inl n4), (0, .inr (.inr (.inl (some 107))))], [.inl (b : Int)], (am_mm D I J ρ))) rfl ?_
          refine am_e_ireturn rfl rfl ?_
          have e9 : ((b : Int), n4) = sp_fmk (I 108) (fun m => I 114 (6 * m)) (b + 1) := by
            show _ = (if I 108 (13 + b) = 0 ∧ (sp_fmk (I 108) (fun m => I 114 (6 * m)) b).2 < sp_fc (I 108) (fun m => I 114 (6 * m)) b (I 108 19).toNat then _ else _)
            rw [← hpq, show (I 108 19).toNat = m by omega, ← hn]
            split
            · first | rfl | (exfalso; omega)
            · first | rfl | (exfalso; omega)
          rw [show (b : Int) = (sp_fmk (I 108) (fun m => I 114 (6 * m)) (b + 1)).1 from congrArg Prod.fst e9, show b + 1 = (I 108 20).toNat by omega]
          rfl
        · show am_E _ _ _ 17 [(3, .inl ((b : Int) + 1)), (2, .inl n4), (1, .inl (b : Int)), (5, .inl (m : Int)), (4, .inl n4), (0, .inr (.inr (.inl (some 107))))] [] (am_mm D I J ρ) _
          refine am_e_ss 4 (q := (23, [(5, .inl 0), (4, .inl 0), (3, .inl ((b : Int) + 1)), (2, .inl n4), (1, .inl (b : Int)), (0, .inr (.inr (.inl (some 107))))], [], (am_mm D I J ρ))) rfl ?_
          have e9 : ((b : Int), n4) = sp_fmk (I 108) (fun m => I 114 (6 * m)) (b + 1) := by
            show _ = (if I 108 (13 + b) = 0 ∧ (sp_fmk (I 108) (fun m => I 114 (6 * m)) b).2 < sp_fc (I 108) (fun m => I 114 (6 * m)) b (I 108 19).toNat then _ else _)
            rw [← hpq, show (I 108 19).toNat = m by omega, ← hn]
            split
            · first | rfl | (exfalso; omega)
            · first | rfl | (exfalso; omega)
          exact am_less (lv := [(5, .inl (0 : Int)), (4, .inl 0), (3, .inl ((b + 1) : Int)), (2, .inl n4), (1, .inl ((b : Int))), (0, .inr (.inr (.inl (some 107))))]) rfl (List.forall_mem_cons.mpr ⟨rfl, List.forall_mem_cons.mpr ⟨rfl, List.forall_mem_cons.mpr ⟨rfl, List.forall_mem_cons.mpr ⟨rfl, List.forall_mem_cons.mpr ⟨rfl, List.forall_mem_cons.mpr ⟨rfl, List.forall_mem_nil _⟩⟩⟩⟩⟩⟩) (r_firstOfMost_l d (n4 := 0) (b := b + 1) (m := 0) (by omega) (by omega) e9 rfl hO hok)
  · show am_E _ _ _ 35 [(5, .inl (m : Int)), (4, .inl n4), (3, .inl (b : Int)), (2, .inl q), (1, .inl p), (0, .inr (.inr (.inl (some 107))))] [] (am_mm D I J ρ) _
    have hO1 := hO m (by omega)
    refine am_e_ss 3 (q := (40, [(5, .inl (m : Int)), (4, .inl n4), (3, .inl (b : Int)), (2, .inl q), (1, .inl p), (0, .inr (.inr (.inl (some 107))))], [.inl (m : Int), .inr (.inr (.inl (some 107))), .inl n4], (am_mm D I J ρ))) rfl ?_
    refine am_e_virtual (Q := fun r => r = (some (.inl ((am_bi ((I 108 (7 + m)) = 0)))), (am_mm D I J ρ))) rfl rfl (Nat.le_of_ble_eq_true rfl) rfl rfl (Nat.le_of_ble_eq_true rfl) (Nat.le_of_ble_eq_true rfl) (r_isHere _ (v := (m : Int)) ⟨by omega, by omega⟩ (by exact oH m (by omega))) ?_
    rintro r rfl
    show am_E _ _ _ 43 [(5, .inl (m : Int)), (4, .inl n4), (3, .inl (b : Int)), (2, .inl q), (1, .inl p), (0, .inr (.inr (.inl (some 107))))] [.inl ((am_bi ((I 108 (7 + m)) = 0))), .inl n4] (am_mm D I J ρ) _
    refine am_e_ifeq rfl (fun h7 => ?_) (fun h7 => ?_)
    · show am_E _ _ _ 64 [(5, .inl (m : Int)), (4, .inl n4), (3, .inl (b : Int)), (2, .inl q), (1, .inl p), (0, .inr (.inr (.inl (some 107))))] [.inl n4] (am_mm D I J ρ) _
      refine am_e_ss 5 (q := (23, [(5, .inl ((m : Int) + 1)), (4, .inl (n4 + 0)), (3, .inl (b : Int)), (2, .inl q), (1, .inl p), (0, .inr (.inr (.inl (some 107))))], [], (am_mm D I J ρ))) rfl ?_
      have e9 : (n4 + 0) = sp_fc (I 108) (fun m => I 114 (6 * m)) b (m + 1) := by
        show _ = sp_fc (I 108) (fun m => I 114 (6 * m)) b m + (if I 108 (7 + m) = 0 ∧ I 114 (6 * m) = (b : Int) then 1 else 0)
        split <;> omega
      exact am_less (lv := [(5, .inl ((m + 1) : Int)), (4, .inl ((n4 + 0))), (3, .inl (b : Int)), (2, .inl q), (1, .inl p), (0, .inr (.inr (.inl (some 107))))]) rfl (List.forall_mem_cons.mpr ⟨rfl, List.forall_mem_cons.mpr ⟨rfl, List.forall_mem_cons.mpr ⟨rfl, List.forall_mem_cons.mpr ⟨rfl, List.forall_mem_cons.mpr ⟨rfl, List.forall_mem_cons.mpr ⟨rfl, List.forall_mem_nil _⟩⟩⟩⟩⟩⟩) (r_firstOfMost_l d (b := b) (m := m + 1) hb (by omega) hpq e9 hO hok)
    · show am_E _ _ _ 46 [(5, .inl (m : Int)), (4, .inl n4), (3, .inl (b : Int)), (2, .inl q), (1, .inl p), (0, .inr (.inr (.inl (some 107))))] [.inl n4] (am_mm D I J ρ) _
      refine am_e_ss 5 (q := (55, [(5, .inl (m : Int)), (4, .inl n4), (3, .inl (b : Int)), (2, .inl q), (1, .inl p), (0, .inr (.inr (.inl (some 107))))], [.inl (6 * (m : Int)), .inr (.inr (.inl (some 114))), .inl n4], (am_mm D I J ρ))) rfl ?_
      refine am_e_iaload (m := 36) rfl rfl (by omega) (by omega) (by omega) ?_
      show am_E _ _ _ 56 [(5, .inl (m : Int)), (4, .inl n4), (3, .inl (b : Int)), (2, .inl q), (1, .inl p), (0, .inr (.inr (.inl (some 107))))] [.inl ((I 114 (6 * m))), .inl n4] (am_mm D I J ρ) _
      refine am_e_ss 1 (q := (57, [(5, .inl (m : Int)), (4, .inl n4), (3, .inl (b : Int)), (2, .inl q), (1, .inl p), (0, .inr (.inr (.inl (some 107))))], [.inl (b : Int), .inl ((I 114 (6 * m))), .inl n4], (am_mm D I J ρ))) rfl ?_
      refine am_e_icmp2 rfl ⟨by omega, by omega⟩ ⟨by omega, by omega⟩ (fun (h8 : ¬ (I 114 (6 * m)) = (b : Int)) => ?_) (fun (h8 : ¬ (¬ (I 114 (6 * m)) = (b : Int))) => ?_)
      · show am_E _ _ _ 64 [(5, .inl (m : Int)), (4, .inl n4), (3, .inl (b : Int)), (2, .inl q), (1, .inl p), (0, .inr (.inr (.inl (some 107))))] [.inl n4] (am_mm D I J ρ) _
        refine am_e_ss 5 (q := (23, [(5, .inl ((m : Int) + 1)), (4, .inl (n4 + 0)), (3, .inl (b : Int)), (2, .inl q), (1, .inl p), (0, .inr (.inr (.inl (some 107))))], [], (am_mm D I J ρ))) rfl ?_
        have e9 : (n4 + 0) = sp_fc (I 108) (fun m => I 114 (6 * m)) b (m + 1) := by
          show _ = sp_fc (I 108) (fun m => I 114 (6 * m)) b m + (if I 108 (7 + m) = 0 ∧ I 114 (6 * m) = (b : Int) then 1 else 0)
          split <;> omega
        exact am_less (lv := [(5, .inl ((m + 1) : Int)), (4, .inl ((n4 + 0))), (3, .inl (b : Int)), (2, .inl q), (1, .inl p), (0, .inr (.inr (.inl (some 107))))]) rfl (List.forall_mem_cons.mpr ⟨rfl, List.forall_mem_cons.mpr ⟨rfl, List.forall_mem_cons.mpr ⟨rfl, List.forall_mem_cons.mpr ⟨rfl, List.forall_mem_cons.mpr ⟨rfl, List.forall_mem_cons.mpr ⟨rfl, List.forall_mem_nil _⟩⟩⟩⟩⟩⟩) (r_firstOfMost_l d (b := b) (m := m + 1) hb (by omega) hpq e9 hO hok)
      · show am_E _ _ _ 60 [(5, .inl (m : Int)), (4, .inl n4), (3, .inl (b : Int)), (2, .inl q), (1, .inl p), (0, .inr (.inr (.inl (some 107))))] [.inl n4] (am_mm D I J ρ) _
        refine am_e_ss 6 (q := (23, [(5, .inl ((m : Int) + 1)), (4, .inl (n4 + 1)), (3, .inl (b : Int)), (2, .inl q), (1, .inl p), (0, .inr (.inr (.inl (some 107))))], [], (am_mm D I J ρ))) rfl ?_
        have e9 : (n4 + 1) = sp_fc (I 108) (fun m => I 114 (6 * m)) b (m + 1) := by
          show _ = sp_fc (I 108) (fun m => I 114 (6 * m)) b m + (if I 108 (7 + m) = 0 ∧ I 114 (6 * m) = (b : Int) then 1 else 0)
          split <;> omega
        exact am_less (lv := [(5, .inl ((m + 1) : Int)), (4, .inl ((n4 + 1))), (3, .inl (b : Int)), (2, .inl q), (1, .inl p), (0, .inr (.inr (.inl (some 107))))]) rfl (List.forall_mem_cons.mpr ⟨rfl, List.forall_mem_cons.mpr ⟨rfl, List.forall_mem_cons.mpr ⟨rfl, List.forall_mem_cons.mpr ⟨rfl, List.forall_mem_cons.mpr ⟨rfl, List.forall_mem_cons.mpr ⟨rfl, List.forall_mem_nil _⟩⟩⟩⟩⟩⟩) (r_firstOfMost_l d (b := b) (m := m + 1) hb (by omega) hpq e9 hO hok)
termination_by (7 * (7 - b) + (7 - m))
decreasing_by all_goals omega
theorem r_firstOfMost {X : Nat × (Nat → Int)} {D : List (Nat × Nat)} {I J : Nat → Nat → Int} {ρ : Nat → Nat → Option Nat} (d : Nat) {B : Int} (hO : ∀ m : Nat, m < (I 108 19).toNat → 0 ≤ I 114 (6 * m) ∧ I 114 (6 * m) ≤ 5) (hok : r_ok (I 108) B) : am_E X (d + 1) 163 0 [(0, .inr (.inr (.inl (some 107))))] [] (am_mm D I J ρ) (fun r => r = (some (.inl ((sp_fom (I 108) (fun m => I 114 (6 * m))))), (am_mm D I J ρ))) := by
  have hok2 := hok
  obtain ⟨o0, oG, oH, oD, o19, o20, o21, o22, o23, o24, oK, oV, oP, oM, oS, oY, oHd, oT, oC, oN⟩ := hok
  have hok := hok2
  refine am_e_ss 11 (q := (14, [(3, .inl 0), (2, .inl (-1)), (1, .inl (-1)), (0, .inr (.inr (.inl (some 107))))], [.inl ((I 108 20)), .inl 0], (am_mm D I J ρ))) rfl ?_
  refine am_e_icmp2 rfl ⟨by omega, by omega⟩ ⟨by omega, by omega⟩ (fun (h1 : (I 108 20) ≤ 0) => ?_) (fun (h1 : ¬ ((I 108 20) ≤ 0)) => ?_)
  · show am_E _ _ _ 99 [(3, .inl 0), (2, .inl (-1)), (1, .inl (-1)), (0, .inr (.inr (.inl (some 107))))] [] (am_mm D I J ρ) _
    refine am_e_ss 1 (q := (100, [(3, .inl 0), (2, .inl (-1)), (1, .inl (-1)), (0, .inr (.inr (.inl (some 107))))], [.inl (-1)], (am_mm D I J ρ))) rfl ?_
    refine am_e_ireturn rfl rfl ?_
    unfold sp_fom
    rw [show (I 108 20).toNat = 0 by omega]
    rfl
  · show am_E _ _ _ 17 [(3, .inl 0), (2, .inl (-1)), (1, .inl (-1)), (0, .inr (.inr (.inl (some 107))))] [] (am_mm D I J ρ) _
    refine am_e_ss 4 (q := (23, [(5, .inl 0), (4, .inl 0), (3, .inl 0), (2, .inl (-1)), (1, .inl (-1)), (0, .inr (.inr (.inl (some 107))))], [], (am_mm D I J ρ))) rfl ?_
    exact am_less (lv := [(5, .inl (0 : Int)), (4, .inl 0), (3, .inl (0 : Int)), (2, .inl ((-1))), (1, .inl ((-1))), (0, .inr (.inr (.inl (some 107))))]) rfl (List.forall_mem_cons.mpr ⟨rfl, List.forall_mem_cons.mpr ⟨rfl, List.forall_mem_cons.mpr ⟨rfl, List.forall_mem_cons.mpr ⟨rfl, List.forall_mem_cons.mpr ⟨rfl, List.forall_mem_cons.mpr ⟨rfl, List.forall_mem_nil _⟩⟩⟩⟩⟩⟩) (r_firstOfMost_l d (b := 0) (m := 0) (by omega) (by omega) rfl rfl hO hok)
theorem sp_flt_ex {L : List Nat} {last : Int} (h : (L.filter (fun b : Nat => decide (¬ (b : Int) = last))).length < L.length) : ∃ x, x ∈ L ∧ (x : Int) = last := by
  induction L with
  | nil => simp at h
  | cons a L ih =>
    by_cases e : (a : Int) = last
    · exact ⟨a, List.mem_cons_self, e⟩
    · rw [List.filter_cons, if_pos (by simp [e]), List.length_cons, List.length_cons] at h
      obtain ⟨x, h1, h2⟩ := ih (by omega)
      exact ⟨x, List.mem_cons_of_mem _ h1, h2⟩
theorem r_saysOf_l {X : Nat × (Nat → Int)} {D : List (Nat × Nat)} {I J : Nat → Nat → Int} {ρ : Nat → Nat → Option Nat} (d : Nat) {f last : Int} {m fn j k : Nat} {L : List Nat} {Q : Nat → Nat → Int} (hm : m < 6) (hfn : f = (fn : Int)) (hf6 : fn < 6) (hla : -10 ≤ last ∧ last ≤ 10) (hL : am_rowl (I 114) (6 * fn) L) (hLl : I 107 20 = (L.length : Int)) (hL6 : L.length ≤ 6) (hLm : ∀ x ∈ L, x < 6) (hj : j ≤ L.length) (hk : k = ((L.take j).filter (fun b : Nat => decide (¬ (b : Int) = last))).length) (hr : am_rowl (Q 115) (6 * m) ((L.take j).filter (fun b : Nat => decide (¬ (b : Int) = last)))) (hf1 : ∀ i, i < 6 * m ∨ 6 * m + 6 ≤ i → Q 115 i = I 115 i) (hf2 : Q 116 = I 116) : am_E X d 164 6 [(5, .inl (j : Int)), (4, .inl (k : Int)), (3, .inl last), (2, .inl f), (1, .inl (m : Int)), (0, .inr (.inr (.inl (some 107))))] [] (am_mm D (am_wp tY I Q) J ρ) (fun r => ∃ Q, r = (none, am_mm D (am_wp tY I Q) J ρ) ∧ am_rowl (Q 115) (6 * m) (sp_sayl L last) ∧ Q 116 m = (L.length : Int) ∧ (∀ i, i < 6 * m ∨ 6 * m + 6 ≤ i → Q 115 i = I 115 i) ∧ (∀ i, i ≠ m → Q 116 i = I 116 i)) := by
  have hkj : k ≤ j := by rw [hk]; exact Nat.le_trans (List.length_filter_le _ _) (by rw [List.length_take]; omega)
  refine am_e_ss 3 (q := (12, [(5, .inl (j : Int)), (4, .inl (k : Int)), (3, .inl last), (2, .inl f), (1, .inl (m : Int)), (0, .inr (.inr (.inl (some 107))))], [.inl ((I 107 20)), .inl (j : Int)], (am_mm D (am_wp tY I Q) J ρ))) rfl ?_
  refine am_e_icmp2 rfl ⟨by omega, by omega⟩ ⟨by omega, by omega⟩ (fun (h1 : (I 107 20) ≤ (j : Int)) => ?_) (fun (h1 : ¬ ((I 107 20) ≤ (j : Int))) => ?_)
  · show am_E _ _ _ 58 [(5, .inl (j : Int)), (4, .inl (k : Int)), (3, .inl last), (2, .inl f), (1, .inl (m : Int)), (0, .inr (.inr (.inl (some 107))))] [] (am_mm D (am_wp tY I Q) J ρ) _
    refine am_e_ss 3 (q := (64, [(5, .inl (j : Int)), (4, .inl (k : Int)), (3, .inl last), (2, .inl f), (1, .inl (m : Int)), (0, .inr (.inr (.inl (some 107))))], [.inl ((I 107 20)), .inl (k : Int)], (am_mm D (am_wp tY I Q) J ρ))) rfl ?_
    refine am_e_icmp2 rfl ⟨by omega, by omega⟩ ⟨by omega, by omega⟩ (fun (h2 : (I 107 20) ≤ (k : Int)) => ?_) (fun (h2 : ¬ ((I 107 20) ≤ (k : Int))) => ?_)
    · show am_E _ _ _ 80 [(5, .inl (j : Int)), (4, .inl (k : Int)), (3, .inl last), (2, .inl f), (1, .inl (m : Int)), (0, .inr (.inr (.inl (some 107))))] [] (am_mm D (am_wp tY I Q) J ρ) _
      refine am_e_ss 5 (q := (89, [(5, .inl (j : Int)), (4, .inl (k : Int)), (3, .inl last), (2, .inl f), (1, .inl (m : Int)), (0, .inr (.inr (.inl (some 107))))], [.inl ((I 107 20)), .inl (m : Int), .inr (.inr (.inl (some 116)))], (am_mm D (am_wp tY I Q) J ρ))) rfl ?_
      refine am_e_iastore (m := 6) rfl rfl (by omega) (by omega) (by omega) ?_
      show am_E _ _ _ 90 [(5, .inl (j : Int)), (4, .inl (k : Int)), (3, .inl last), (2, .inl f), (1, .inl (m : Int)), (0, .inr (.inr (.inl (some 107))))] [] (am_mm D (am_up (am_wp tY I Q) 116 m (I 107 20)) J ρ) _
      refine am_e_return rfl rfl ?_
      have ej : L.take j = L := List.take_of_length_le (by omega)
      rw [ej] at hk hr
      have e2 : am_rowl ((am_up (am_wp tY I Q) 116 m (I 107 20)) 115) (6 * m) (sp_sayl L last) := by
        unfold sp_sayl
        rw [if_neg (by omega), List.append_nil]
        refine am_rowl_cg hr (fun i hi => ?_)
        exact am_up_ne2 (by omega)
      refine ⟨_, am_r_wp tY (am_k_up rfl (am_k_wp am_k_sub (am_k_id))), e2, by (rw [← hLl]; exact am_up_at2), ?_, ?_⟩
      · intro i hi
        exact (am_up_ne2 (by omega)).trans (hf1 i hi)
      · intro i hi
        exact (am_up_ne2 (by omega)).trans (congrFun hf2 i)
    · show am_E _ _ _ 67 [(5, .inl (j : Int)), (4, .inl (k : Int)), (3, .inl last), (2, .inl f), (1, .inl (m : Int)), (0, .inr (.inr (.inl (some 107))))] [] (am_mm D (am_wp tY I Q) J ρ) _
      refine am_e_ss 8 (q := (79, [(5, .inl (j : Int)), (4, .inl (k : Int)), (3, .inl last), (2, .inl f), (1, .inl (m : Int)), (0, .inr (.inr (.inl (some 107))))], [.inl last, .inl ((6 * (m : Int)) + (k : Int)), .inr (.inr (.inl (some 115)))], (am_mm D (am_wp tY I Q) J ρ))) rfl ?_
      refine am_e_iastore (m := 36) rfl rfl (by omega) (by omega) (by omega) ?_
      show am_E _ _ _ 80 [(5, .inl (j : Int)), (4, .inl (k : Int)), (3, .inl last), (2, .inl f), (1, .inl (m : Int)), (0, .inr (.inr (.inl (some 107))))] [] (am_mm D (am_up (am_wp tY I Q) 115 ((6 * m) + k) last) J ρ) _
      refine am_e_ss 5 (q := (89, [(5, .inl (j : Int)), (4, .inl (k : Int)), (3, .inl last), (2, .inl f), (1, .inl (m : Int)), (0, .inr (.inr (.inl (some 107))))], [.inl ((I 107 20)), .inl (m : Int), .inr (.inr (.inl (some 116)))], (am_mm D (am_up (am_wp tY I Q) 115 ((6 * m) + k) last) J ρ))) rfl ?_
      refine am_e_iastore (m := 6) rfl rfl (by omega) (by omega) (by omega) ?_
      show am_E _ _ _ 90 [(5, .inl (j : Int)), (4, .inl (k : Int)), (3, .inl last), (2, .inl f), (1, .inl (m : Int)), (0, .inr (.inr (.inl (some 107))))] [] (am_mm D (am_up (am_up (am_wp tY I Q) 115 ((6 * m) + k) last) 116 m (I 107 20)) J ρ) _
      refine am_e_return rfl rfl ?_
      have ej : L.take j = L := List.take_of_length_le (by omega)
      rw [ej] at hk hr
      have e2 : am_rowl ((am_up (am_up (am_wp tY I Q) 115 ((6 * m) + k) last) 116 m (I 107 20)) 115) (6 * m) (sp_sayl L last) := by
        unfold sp_sayl
        rw [if_pos (by omega)]
        refine am_rowl_snoc (am_rowl_cg hr (fun i hi => ?_)) ?_
        · exact (am_up_ne2 (by omega)).trans (am_up_ne2 (by omega))
        · rw [← hk]
          refine (am_up_ne2 (by omega)).trans (am_up_at2.trans ?_)
          obtain ⟨x, hx1, hx2⟩ := sp_flt_ex (L := L) (last := last) (by omega)
          omega
      refine ⟨_, am_r_wp tY (am_k_up rfl (am_k_up rfl (am_k_wp am_k_sub (am_k_id)))), e2, by (rw [← hLl]; exact am_up_at2), ?_, ?_⟩
      · intro i hi
        exact (am_up_ne2 (by omega)).trans ((am_up_ne2 (by omega)).trans (hf1 i hi))
      · intro i hi
        exact (am_up_ne2 (by omega)).trans ((am_up_ne2 (by omega)).trans (congrFun hf2 i))
  · show am_E _ _ _ 15 [(5, .inl (j : Int)), (4, .inl (k : Int)), (3, .inl last), (2, .inl f), (1, .inl (m : Int)), (0, .inr (.inr (.inl (some 107))))] [] (am_mm D (am_wp tY I Q) J ρ) _
    have hjl : j < L.length := by omega
    have hx := hL j L[j] (List.getElem?_eq_getElem hjl)
    have hx6 := hLm L[j] (List.getElem_mem hjl)
    have hxj : I 114 ((6 * f) + (j : Int)).toNat = (L[j] : Int) := by rw [show ((6 * f) + (j : Int)).toNat = 6 * fn + j by omega]; exact hx
    refine am_e_ss 7 (q := (26, [(5, .inl (j : Int)), (4, .inl (k : Int)), (3, .inl last), (2, .inl f), (1, .inl (m : Int)), (0, .inr (.inr (.inl (some 107))))], [.inl ((6 * f) + (j : Int)), .inr (.inr (.inl (some 114)))], (am_mm D (am_wp tY I Q) J ρ))) rfl ?_
    refine am_e_iaload (m := 36) rfl rfl (by omega) (by omega) (by omega) ?_
    show am_E _ _ _ 27 [(5, .inl (j : Int)), (4, .inl (k : Int)), (3, .inl last), (2, .inl f), (1, .inl (m : Int)), (0, .inr (.inr (.inl (some 107))))] [.inl ((I 114 (((6 * f) + (j : Int))).toNat))] (am_mm D (am_wp tY I Q) J ρ) _
    refine am_e_ss 3 (q := (32, [(6, .inl ((I 114 (((6 * f) + (j : Int))).toNat))), (5, .inl (j : Int)), (4, .inl (k : Int)), (3, .inl last), (2, .inl f), (1, .inl (m : Int)), (0, .inr (.inr (.inl (some 107))))], [.inl last, .inl ((I 114 (((6 * f) + (j : Int))).toNat))], (am_mm D (am_wp tY I Q) J ρ))) rfl ?_
    refine am_e_icmp2 rfl ⟨by omega, by omega⟩ ⟨by omega, by omega⟩ (fun (h3 : (I 114 (((6 * f) + (j : Int))).toNat) = last) => ?_) (fun (h3 : ¬ ((I 114 (((6 * f) + (j : Int))).toNat) = last)) => ?_)
    · show am_E _ _ _ 52 [(6, .inl ((I 114 (((6 * f) + (j : Int))).toNat))), (5, .inl (j : Int)), (4, .inl (k : Int)), (3, .inl last), (2, .inl f), (1, .inl (m : Int)), (0, .inr (.inr (.inl (some 107))))] [] (am_mm D (am_wp tY I Q) J ρ) _
      refine am_e_ss 2 (q := (6, [(5, .inl ((j : Int) + 1)), (6, .inl ((I 114 (((6 * f) + (j : Int))).toNat))), (4, .inl (k : Int)), (3, .inl last), (2, .inl f), (1, .inl (m : Int)), (0, .inr (.inr (.inl (some 107))))], [], (am_mm D (am_wp tY I Q) J ρ))) rfl ?_
      have et : ((L.take (j + 1)).filter (fun b : Nat => decide (¬ (b : Int) = last))) = ((L.take j).filter (fun b : Nat => decide (¬ (b : Int) = last))) ++ (if ¬ (L[j] : Int) = last then [L[j]] else []) := by
        rw [List.take_succ, List.getElem?_eq_getElem hjl, Option.toList_some, List.filter_append]
        congr 1
        by_cases e : (L[j] : Int) = last <;> simp [e]
      rw [if_neg (by omega), List.append_nil] at et
      exact am_less (lv := [(5, .inl ((j + 1) : Int)), (4, .inl (k : Int)), (3, .inl last), (2, .inl f), (1, .inl (m : Int)), (0, .inr (.inr (.inl (some 107))))]) rfl (List.forall_mem_cons.mpr ⟨rfl, List.forall_mem_cons.mpr ⟨rfl, List.forall_mem_cons.mpr ⟨rfl, List.forall_mem_cons.mpr ⟨rfl, List.forall_mem_cons.mpr ⟨rfl, List.forall_mem_cons.mpr ⟨rfl, List.forall_mem_nil _⟩⟩⟩⟩⟩⟩) (r_saysOf_l d (f := f) (fn := fn) (j := j + 1) (k := k) (L := L) hm hfn hf6 hla hL hLl hL6 hLm (by omega) (by rw [et]; exact hk) (by rw [et]; exact hr) hf1 hf2)
    · show am_E _ _ _ 35 [(6, .inl ((I 114 (((6 * f) + (j : Int))).toNat))), (5, .inl (j : Int)), (4, .inl (k : Int)), (3, .inl last), (2, .inl f), (1, .inl (m : Int)), (0, .inr (.inr (.inl (some 107))))] [] (am_mm D (am_wp tY I Q) J ρ) _
      refine am_e_ss 8 (q := (48, [(6, .inl ((I 114 (((6 * f) + (j : Int))).toNat))), (5, .inl (j : Int)), (4, .inl (k : Int)), (3, .inl last), (2, .inl f), (1, .inl (m : Int)), (0, .inr (.inr (.inl (some 107))))], [.inl ((I 114 (((6 * f) + (j : Int))).toNat)), .inl ((6 * (m : Int)) + (k : Int)), .inr (.inr (.inl (some 115)))], (am_mm D (am_wp tY I Q) J ρ))) rfl ?_
      refine am_e_iastore (m := 36) rfl rfl (by omega) (by omega) (by omega) ?_
      show am_E _ _ _ 49 [(6, .inl ((I 114 (((6 * f) + (j : Int))).toNat))), (5, .inl (j : Int)), (4, .inl (k : Int)), (3, .inl last), (2, .inl f), (1, .inl (m : Int)), (0, .inr (.inr (.inl (some 107))))] [] (am_mm D (am_up (am_wp tY I Q) 115 ((6 * m) + k) (I 114 (((6 * f) + (j : Int))).toNat)) J ρ) _
      refine am_e_ss 3 (q := (6, [(5, .inl ((j : Int) + 1)), (4, .inl ((k : Int) + 1)), (6, .inl ((I 114 (((6 * f) + (j : Int))).toNat))), (3, .inl last), (2, .inl f), (1, .inl (m : Int)), (0, .inr (.inr (.inl (some 107))))], [], (am_mm D (am_up (am_wp tY I Q) 115 ((6 * m) + k) (I 114 (((6 * f) + (j : Int))).toNat)) J ρ))) rfl ?_
      have et : ((L.take (j + 1)).filter (fun b : Nat => decide (¬ (b : Int) = last))) = ((L.take j).filter (fun b : Nat => decide (¬ (b : Int) = last))) ++ (if ¬ (L[j] : Int) = last then [L[j]] else []) := by
        rw [List.take_succ, List.getElem?_eq_getElem hjl, Option.toList_some, List.filter_append]
        congr 1
        by_cases e : (L[j] : Int) = last <;> simp [e]
      rw [if_pos (by omega)] at et
      have e1 : (am_up (am_wp tY I Q) 115 ((6 * m) + k) (I 114 (((6 * f) + (j : Int))).toNat)) 115 (6 * m + k) = (L[j] : Int) := by rw [← hxj]; exact am_up_at2
      have e2 : am_rowl ((am_up (am_wp tY I Q) 115 ((6 * m) + k) (I 114 (((6 * f) + (j : Int))).toNat)) 115) (6 * m) ((L.take (j + 1)).filter (fun b : Nat => decide (¬ (b : Int) = last))) := by
        rw [et]
        refine am_rowl_snoc (am_rowl_cg hr (fun i hi => ?_)) (by rw [← hk]; exact e1)
        exact am_up_ne2 (by omega)
      have e3 : ∀ i, i < 6 * m ∨ 6 * m + 6 ≤ i → (am_up (am_wp tY I Q) 115 ((6 * m) + k) (I 114 (((6 * f) + (j : Int))).toNat)) 115 i = I 115 i := by
        intro i hi
        rw [am_up_ne2 (by omega)]
        exact hf1 i hi
      refine am_e_wp tY (am_k_up rfl (am_k_wp am_k_sub (am_k_id))) ?_
      exact am_less (lv := [(5, .inl ((j + 1) : Int)), (4, .inl ((k + 1) : Int)), (3, .inl last), (2, .inl f), (1, .inl (m : Int)), (0, .inr (.inr (.inl (some 107))))]) rfl (List.forall_mem_cons.mpr ⟨rfl, List.forall_mem_cons.mpr ⟨rfl, List.forall_mem_cons.mpr ⟨rfl, List.forall_mem_cons.mpr ⟨rfl, List.forall_mem_cons.mpr ⟨rfl, List.forall_mem_cons.mpr ⟨rfl, List.forall_mem_nil _⟩⟩⟩⟩⟩⟩) (r_saysOf_l d (f := f) (fn := fn) (j := j + 1) (k := k + 1) (L := L) hm hfn hf6 hla hL hLl hL6 hLm (by omega) (by rw [et, List.length_append, ← hk]; rfl) e2 e3 hf2)
termination_by (L.length - j)
decreasing_by all_goals omega
theorem r_saysOf {X : Nat × (Nat → Int)} {D : List (Nat × Nat)} {I J : Nat → Nat → Int} {ρ : Nat → Nat → Option Nat} (d : Nat) {f last : Int} {m fn : Nat} {L : List Nat} (hm : m < 6) (hfn : f = (fn : Int)) (hf6 : fn < 6) (hla : -10 ≤ last ∧ last ≤ 10) (hL : am_rowl (I 114) (6 * fn) L) (hLl : I 107 20 = (L.length : Int)) (hL6 : L.length ≤ 6) (hLm : ∀ x ∈ L, x < 6) : am_E X d 164 0 [(0, .inr (.inr (.inl (some 107)))), (1, .inl (m : Int)), (2, .inl f), (3, .inl last)] [] (am_mm D I J ρ) (fun r => ∃ Q, r = (none, am_mm D (am_wp tY I Q) J ρ) ∧ am_rowl (Q 115) (6 * m) (sp_sayl L last) ∧ Q 116 m = (L.length : Int) ∧ (∀ i, i < 6 * m ∨ 6 * m + 6 ≤ i → Q 115 i = I 115 i) ∧ (∀ i, i ≠ m → Q 116 i = I 116 i)) := by
  refine am_e_ss 4 (q := (6, [(5, .inl 0), (4, .inl 0), (0, .inr (.inr (.inl (some 107)))), (1, .inl (m : Int)), (2, .inl f), (3, .inl last)], [], (am_mm D I J ρ))) rfl ?_
  refine am_e_wp tY am_k_id ?_
  exact am_less (lv := [(5, .inl (0 : Int)), (4, .inl (0 : Int)), (3, .inl last), (2, .inl f), (1, .inl (m : Int)), (0, .inr (.inr (.inl (some 107))))]) rfl (List.forall_mem_cons.mpr ⟨rfl, List.forall_mem_cons.mpr ⟨rfl, List.forall_mem_cons.mpr ⟨rfl, List.forall_mem_cons.mpr ⟨rfl, List.forall_mem_cons.mpr ⟨rfl, List.forall_mem_cons.mpr ⟨rfl, List.forall_mem_nil _⟩⟩⟩⟩⟩⟩) (r_saysOf_l d (f := f) (fn := fn) (j := 0) (k := 0) (L := L) hm hfn hf6 hla hL hLl hL6 hLm (by omega) rfl am_rowl_nil (fun i _ => rfl) rfl)
