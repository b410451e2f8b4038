/-! THE CLASS: all that is said -/
def sp_tls (VL : Nat → List Nat) (way b : Int) : Nat → Int
  | 0 => 0
  | m + 1 => sp_tls VL way b m + sp_scl (VL m) b way
def sp_tla (VL : Nat → List Nat) (a b : Int) : Nat → Int
  | 0 => 0
  | m + 1 => sp_tla VL a b m + sp_ahl (VL m) a b
def sp_spk (VL : Nat → List Nat) (n x : Nat) : Bool := decide (x < n) && !(VL x).isEmpty
/-- what the votes hold of the first n voices -/
def c_voi (I : Nat → Nat → Int) (VL : Nat → List Nat) (n : Nat) : Prop := I 71 6 = am_bits (sp_spk VL n) 6 ∧ (∀ j, j < n → ¬ VL j = [] → am_rowl (I (81 + j)) 0 (VL j)) ∧ (∀ b : Nat, b < 6 → I 87 b = sp_tls VL 0 b n ∧ I 88 b = sp_tls VL 1 b n ∧ I 89 b = sp_tls VL 2 b n) ∧ ∀ a b : Nat, a < 6 → b < 6 → I (91 + a) b = sp_tla VL a b n
def c_ords (I : Nat → Nat → Int) (S : Nat → Int) : Prop := I 71 3 = sp_ops S ∧ am_rowl (I 72) 0 (sp_ob S) ∧ ∀ m, m < (S 19).toNat → am_rowl (I (74 + m)) 0 (sp_ord S m)
/-- the hall as the votes see it -/
def c_vh (D : List (Nat × Nat)) (I : Nat → Nat → Int) (ρ : Nat → Nat → Option Nat) (r : Nat) (S : Nat → Int) : Prop := I 1 2 = S 19 ∧ I 1 4 = S 20 ∧ I r 0 = S 0 ∧ I r 1 = am_bits (sp_hp S) 6 ∧ I r 2 = am_bits (sp_dp S) 6 ∧ (∀ m b : Nat, m < (S 19).toNat → b < (S 20).toNat → I (20 + m) b = sp_like S m b) ∧ c_mems D I ρ 4 S
theorem sp_spk_s {VL : Nat → List Nat} {n : Nat} (h : ¬ VL n = []) : ∀ x, (sp_spk VL n x || x == n) = sp_spk VL (n + 1) x := by
  intro x
  unfold sp_spk
  by_cases e : x = n
  · subst e
    have : (VL x).isEmpty = false := by
      cases hv : VL x with
      | nil => exact absurd hv h
      | cons a r => rfl
    simp [this]
  · have h1 : decide (x < n + 1) = decide (x < n) := by
      by_cases h2 : x < n
      · simp [h2]; omega
      · simp [h2]; omega
    rw [h1]
    simp [e]
theorem sp_spk_n {VL : Nat → List Nat} {n : Nat} (h : VL n = []) : ∀ x, sp_spk VL n x = sp_spk VL (n + 1) x := by
  intro x
  unfold sp_spk
  by_cases e : x = n
  · subst e
    simp [h]
  · have h1 : decide (x < n + 1) = decide (x < n) := by
      by_cases h2 : x < n
      · simp [h2]; omega
      · simp [h2]; omega
    rw [h1]
theorem c_voi_n {I : Nat → Nat → Int} {VL : Nat → List Nat} {n : Nat} (h : c_voi I VL n) (he : VL n = []) : c_voi I VL (n + 1) := by
  obtain ⟨h1, h2, h3, h4⟩ := h
  refine ⟨?_, ?_, ?_, ?_⟩
  · rw [h1]; exact am_bits_cg 6 (fun x _ => sp_spk_n he x)
  · intro j hj hn
    by_cases e : j = n
    · rw [e] at hn; exact absurd he hn
    · exact h2 j (by omega) hn
  · intro b hb
    have e : ∀ w, sp_scl (VL n) b w = 0 := by intro w; rw [he]; rfl
    unfold sp_tls
    rw [e, e, e, Int.add_zero, Int.add_zero, Int.add_zero]
    exact h3 b hb
  · intro a b ha hb
    have e : sp_ahl (VL n) a b = 0 := by rw [he]; rfl
    unfold sp_tla
    rw [e, Int.add_zero]
    exact h4 a b ha hb
theorem c_voi_0 {I : Nat → Nat → Int} {VL : Nat → List Nat} (h1 : ∀ b, b < 6 → I 87 b = 0 ∧ I 88 b = 0 ∧ I 89 b = 0) (h2 : ∀ a b, a < 6 → b < 6 → I (91 + a) b = 0) (h3 : I 71 6 = 0) : c_voi I VL 0 := by
  refine ⟨?_, fun j hj => by omega, h1, h2⟩
  rw [h3]
  have : ∀ x, x < 6 → sp_spk VL 0 x = false := fun x _ => by unfold sp_spk; simp
  rw [am_bits_cg (q := fun _ => false) 6 this]
  rfl
/-- one more voice heard -/
theorem c_voi_s {I E Q : Nat → Nat → Int} {VL : Nat → List Nat} {n : Nat} (h : c_voi I VL n) (hn : ¬ VL n = []) (hrow : am_rowl (Q (81 + n)) 0 (VL n)) (hoth : ∀ j, j < n → ∀ i, Q (81 + j) i = I (81 + j) i) (h6 : Q 71 6 = am_bits (fun x => sp_spk VL n x || x == n) 6) (he : (∀ b, E 87 b = I 87 b ∧ E 88 b = I 88 b ∧ E 89 b = I 89 b) ∧ ∀ a b, a < 6 → E (91 + a) b = I (91 + a) b) (ht : c_talQ E Q 1 (VL n)) : c_voi Q VL (n + 1) := by
  obtain ⟨h1, h2, h3, h4⟩ := h
  refine ⟨?_, ?_, ?_, ?_⟩
  · rw [h6]; exact am_bits_cg 6 (fun x _ => sp_spk_s hn x)
  · intro j hj hjn
    by_cases e : j = n
    · subst e; exact hrow
    · exact am_rowl_cg (h2 j (by omega) hjn) (fun k _ => hoth j (by omega) _)
  · intro b hb
    obtain ⟨t1, t2, t3⟩ := ht.1 b hb
    obtain ⟨u1, u2, u3⟩ := h3 b hb
    obtain ⟨e1, e2, e3⟩ := he.1 b
    unfold sp_tls
    refine ⟨?_, ?_, ?_⟩ <;> omega
  · intro a b ha hb
    have t := ht.2 a b ha hb
    have u := h4 a b ha hb
    have e := he.2 a b ha
    unfold sp_tla
    omega
def uV : Nat → Nat → Bool := fun c i => Nat.beq c 81 || Nat.beq c 82 || Nat.beq c 83 || Nat.beq c 84 || Nat.beq c 85 || Nat.beq c 86 || Nat.beq c 87 || Nat.beq c 88 || Nat.beq c 89 || Nat.beq c 91 || Nat.beq c 92 || Nat.beq c 93 || Nat.beq c 94 || Nat.beq c 95 || Nat.beq c 96 || (Nat.beq c 71 && (Nat.beq i 6))
theorem uS_uV : ∀ c i, uS c i = true → uV c i = true := by
  intro c i
  unfold uS uV
  simp
  omega
theorem uTc_uV : ∀ c i, uTc c i = true → uV c i = true := by
  intro c i
  unfold uTc uV
  simp
  omega
def uC : Nat → Nat → Bool := fun c i => Nat.beq c 72 || Nat.beq c 74 || Nat.beq c 75 || Nat.beq c 76 || Nat.beq c 77 || Nat.beq c 78 || Nat.beq c 79 || Nat.beq c 81 || Nat.beq c 82 || Nat.beq c 83 || Nat.beq c 84 || Nat.beq c 85 || Nat.beq c 86 || Nat.beq c 87 || Nat.beq c 88 || Nat.beq c 89 || Nat.beq c 91 || Nat.beq c 92 || Nat.beq c 93 || Nat.beq c 94 || Nat.beq c 95 || Nat.beq c 96 || (Nat.beq c 71 && (Nat.beq i 3 || Nat.beq i 6 || Nat.beq i 7))
theorem uO_uC : ∀ c i, uO c i = true → uC c i = true := by
  intro c i
  unfold uO uC
  simp
  omega
theorem uR_uC : ∀ c i, uR c i = true → uC c i = true := by
  intro c i
  unfold uR uC
  simp
  omega
theorem uS_uC : ∀ c i, uS c i = true → uC c i = true := by
  intro c i
  unfold uS uC
  simp
  omega
theorem uTc_uC : ∀ c i, uTc c i = true → uC c i = true := by
  intro c i
  unfold uTc uC
  simp
  omega
theorem uV_uC : ∀ c i, uV c i = true → uC c i = true := by
  intro c i
  unfold uV uC
  simp
  omega
theorem uO_tlo : ∀ c i, uO c i = true → tlo c i = true := by
  intro c i
  unfold uO tlo
  simp
  omega
theorem uR_tlo : ∀ c i, uR c i = true → tlo c i = true := by
  intro c i
  unfold uR tlo
  simp
  omega
theorem uS_tlo : ∀ c i, uS c i = true → tlo c i = true := by
  intro c i
  unfold uS tlo
  simp
  omega
theorem uTc_tlo : ∀ c i, uTc c i = true → tlo c i = true := by
  intro c i
  unfold uTc tlo
  simp
  omega
theorem uV_tlo : ∀ c i, uV c i = true → tlo c i = true := by
  intro c i
  unfold uV tlo
  simp
  omega
theorem uC_tlo : ∀ c i, uC c i = true → tlo c i = true := by
  intro c i
  unfold uC tlo
  simp
  omega
theorem c_coll2_2 {X : Nat × (Nat → Int)} {D : List (Nat × Nat)} {I J : Nat → Nat → Int} {ρ : Nat → Nat → Option Nat} (d : Nat) {S : Nat → Int} {B : Int} (hok : r_ok S B) (h71 : ρ 71 1 = some 2) (hvh : c_vh D I ρ 2 S) (hord : c_ords I S) (hfav : I 71 7 = sp_fav S) (ho : ¬ sp_ops S = 0) {m : Nat} (hm : (m : Int) ≤ S 19) (hv : c_voi I (sp_vl S 0) m) : am_E X (d + 4) 65 69 [(2, .inl (m : Int)), (0, .inr (.inr (.inl (some 71))))] [] (am_mm D I J ρ) (fun q => ∃ Q, q = (none, am_mm D (am_wp uV I Q) J ρ) ∧ c_voi Q (sp_vl S 0) (S 19).toNat) := by
  obtain ⟨h12, h14, hr0, hhr, hhd, hlk, hmem⟩ := hvh
  have hvh : c_vh D I ρ 2 S := ⟨h12, h14, hr0, hhr, hhd, hlk, hmem⟩
  have h19 := r_ok_19 hok
  have hord0 := hord
  obtain ⟨h3, hob, hO⟩ := hord
  have hord := hord0
  have ob := sp_ops_b hok
  refine am_e_ss 4 (q := (77, [(2, .inl (m : Int)), (0, .inr (.inr (.inl (some 71))))], [.inl ((I 1 2)), .inl (m : Int)], (am_mm D I J ρ))) rfl ?_
  refine am_e_icmp2 rfl ⟨by omega, by omega⟩ ⟨by omega, by omega⟩ (fun (hw1 : (I 1 2) ≤ (m : Int)) => ?_) (fun (hw1 : ¬ ((I 1 2) ≤ (m : Int))) => ?_)
  · show am_E _ _ _ 143 [(2, .inl (m : Int)), (0, .inr (.inr (.inl (some 71))))] [] (am_mm D I J ρ) _
    refine am_e_return rfl rfl ?_
    have em : m = (S 19).toNat := by omega
    subst em
    exact ⟨I, am_r_wp uV am_k_id, hv⟩
  · show am_E _ _ _ 80 [(2, .inl (m : Int)), (0, .inr (.inr (.inl (some 71))))] [] (am_mm D I J ρ) _
    refine am_e_ss 1 (q := (81, [(2, .inl (m : Int)), (0, .inr (.inr (.inl (some 71))))], [.inr (.inr (.inl (some 71)))], (am_mm D I J ρ))) rfl ?_
    refine am_e_getR (c := 10) (m := 14) (f := 1) (w := 2) rfl rfl rfl (by decide) (by decide) rfl rfl h71 ?_
    show am_E _ _ _ 84 [(2, .inl (m : Int)), (0, .inr (.inr (.inl (some 71))))] [.inr (.inr (.inl (some 2)))] (am_mm D I J ρ) _
    refine am_e_ss 1 (q := (85, [(2, .inl (m : Int)), (0, .inr (.inr (.inl (some 71))))], [.inl (m : Int), .inr (.inr (.inl (some 2)))], (am_mm D I J ρ))) rfl ?_
    refine am_e_virtual (Q := fun r => r = (some (.inl ((am_bi (sp_hp S m = true)))), (am_mm D I J ρ))) rfl rfl (Nat.le_of_ble_eq_true rfl) rfl rfl (Nat.le_of_ble_eq_true rfl) (Nat.le_of_ble_eq_true rfl) (c_isHere_2 _ (p := sp_hp S) hhr (by omega)) ?_
    rintro r rfl
    show am_E _ _ _ 88 [(2, .inl (m : Int)), (0, .inr (.inr (.inl (some 71))))] [.inl ((am_bi (sp_hp S m = true)))] (am_mm D I J ρ) _
    refine am_e_ifeq rfl (fun hw2 => ?_) (fun hw2 => ?_)
    · show am_E _ _ _ 137 [(2, .inl (m : Int)), (0, .inr (.inr (.inl (some 71))))] [] (am_mm D I J ρ) _
      refine am_e_ss 2 (q := (69, [(2, .inl ((m : Int) + 1)), (0, .inr (.inr (.inl (some 71))))], [], (am_mm D I J ρ))) rfl ?_
      have hsn : sp_vl S 0 m = [] := by
        refine sp_says_n ?_
        exact Or.inl (fun h => absurd (sp_hp_t.mpr ⟨by omega, h⟩) (by assumption))
      refine (am_less (lv := [(2, .inl ((m + 1) : Int)), (0, .inr (.inr (.inl (some 71))))]) rfl (List.forall_mem_cons.mpr ⟨rfl, List.forall_mem_cons.mpr ⟨rfl, List.forall_mem_nil _⟩⟩) (c_coll2_2 (I := I) d (m := m + 1) hok h71 hvh hord hfav ho (by omega) (c_voi_n hv hsn))).imp ?_
      rintro q ⟨Q9, rfl, h9⟩
      exact ⟨Q9, am_r_wk uV (am_k_id), h9⟩
    · show am_E _ _ _ 91 [(2, .inl (m : Int)), (0, .inr (.inr (.inl (some 71))))] [] (am_mm D I J ρ) _
      obtain ⟨k, hρk, hk124, hsk, hk0, hk1, hk2⟩ := hmem m (by omega)
      obtain ⟨oKm, oVm, o00⟩ : (0 ≤ S (26 + m) ∧ S (26 + m) ≤ 6) ∧ (0 ≤ S (32 + m) ∧ S (32 + m) ≤ 9) ∧ (0 ≤ S 0 ∧ S 0 ≤ 200) := by
        obtain ⟨o0, oG, oH, oD, o19, o20, o21, o22, o23, o24, oK, oV, _⟩ := hok
        exact ⟨oK m (by omega), oV m (by omega), o0⟩
      have hh : S (7 + m) = 0 := (sp_hp_t.mp (by assumption)).2
      refine am_e_ss 4 (q := (99, [(2, .inl (m : Int)), (0, .inr (.inr (.inl (some 71))))], [.inl (m : Int), .inr (.inr (.inl (some 4)))], (am_mm D I J ρ))) rfl ?_
      refine am_e_aaload (m := 6) (c := 24) rfl rfl (by decide) (by omega) (by omega) (by omega) ?_
      rw [show ((am_mm D I J ρ)).2.2.2 4 ((m : Int)).toNat = some k from (show am_Rf ρ 4 m = some k from hρk)]
      show am_E _ _ _ 100 [(2, .inl (m : Int)), (0, .inr (.inr (.inl (some 71))))] [.inr (.inr (.inl (some k)))] (am_mm D I J ρ) _
      refine am_e_ss 1 (q := (101, [(2, .inl (m : Int)), (0, .inr (.inr (.inl (some 71))))], [.inr (.inr (.inl (some 71))), .inr (.inr (.inl (some k)))], (am_mm D I J ρ))) rfl ?_
      refine am_e_getR (c := 10) (m := 14) (f := 1) (w := 2) rfl rfl rfl (by decide) (by decide) rfl rfl h71 ?_
      show am_E _ _ _ 104 [(2, .inl (m : Int)), (0, .inr (.inr (.inl (some 71))))] [.inr (.inr (.inl (some 2))), .inr (.inr (.inl (some k)))] (am_mm D I J ρ) _
      refine am_e_ss 1 (q := (107, [(2, .inl (m : Int)), (0, .inr (.inr (.inl (some 71))))], [.inl ((I 2 0)), .inr (.inr (.inl (some k)))], (am_mm D I J ρ))) rfl ?_
      refine am_e_vm (K := (S (26 + m)).toNat) (tg := (am_tg [36, 36, 36, 36, 36, 36, 3])) (N := 2) (Q := fun r => ∃ Q126, r = (some (.inl ((am_bi ((S (26 + m)).toNat = 6 ∧ (I 2 0) % (S (32 + m) + 2) = 0)))), (am_mm D I J ρ)) ∧ True) rfl rfl (Nat.le_of_ble_eq_true rfl) hsk (by omega) (by decide) (Nat.le_of_ble_eq_true rfl) (Nat.le_of_ble_eq_true rfl) (by decide) ((m_away _ (K := (S (26 + m)).toNat) (mo := (I 2 0)) (v := S (32 + m)) (by omega) hsk hk2 oVm (by omega)).imp (fun q h => ⟨I, h, True.intro⟩)) ?_
      rintro r ⟨Q126, rfl, -⟩
      show am_E _ _ _ 110 [(2, .inl (m : Int)), (0, .inr (.inr (.inl (some 71))))] [.inl ((am_bi ((S (26 + m)).toNat = 6 ∧ (I 2 0) % (S (32 + m) + 2) = 0)))] (am_mm D I J ρ) _
      refine am_e_ifne rfl (fun hw3 => ?_) (fun hw3 => ?_)
      · show am_E _ _ _ 137 [(2, .inl (m : Int)), (0, .inr (.inr (.inl (some 71))))] [] (am_mm D I J ρ) _
        refine am_e_ss 2 (q := (69, [(2, .inl ((m : Int) + 1)), (0, .inr (.inr (.inl (some 71))))], [], (am_mm D I J ρ))) rfl ?_
        have hsn : sp_vl S 0 m = [] := by
          refine sp_says_n ?_
          exact Or.inr (by rw [← hr0]; exact ⟨by omega, hw3.2⟩)
        refine (am_less (lv := [(2, .inl ((m + 1) : Int)), (0, .inr (.inr (.inl (some 71))))]) rfl (List.forall_mem_cons.mpr ⟨rfl, List.forall_mem_cons.mpr ⟨rfl, List.forall_mem_nil _⟩⟩) (c_coll2_2 (I := I) d (m := m + 1) hok h71 hvh hord hfav ho (by omega) (c_voi_n hv hsn))).imp ?_
        rintro q ⟨Q9, rfl, h9⟩
        exact ⟨Q9, am_r_wk uV (am_k_id), h9⟩
      · show am_E _ _ _ 113 [(2, .inl (m : Int)), (0, .inr (.inr (.inl (some 71))))] [] (am_mm D I J ρ) _
        have haw : ¬ (S (26 + m) = 6 ∧ S 0 % (S (32 + m) + 2) = 0) := by
          rw [← hr0]
          intro h
          exact absurd (show (S (26 + m)).toNat = 6 ∧ I 2 0 % (S (32 + m) + 2) = 0 from ⟨by omega, h.2⟩) (by assumption)
        refine am_e_ss 4 (q := (121, [(2, .inl (m : Int)), (0, .inr (.inr (.inl (some 71))))], [.inl (m : Int), .inr (.inr (.inl (some 4)))], (am_mm D I J ρ))) rfl ?_
        refine am_e_aaload (m := 6) (c := 24) rfl rfl (by decide) (by omega) (by omega) (by omega) ?_
        rw [show ((am_mm D I J ρ)).2.2.2 4 ((m : Int)).toNat = some k from (show am_Rf ρ 4 m = some k from hρk)]
        show am_E _ _ _ 122 [(2, .inl (m : Int)), (0, .inr (.inr (.inl (some 71))))] [.inr (.inr (.inl (some k)))] (am_mm D I J ρ) _
        refine am_e_ss 4 (q := (128, [(2, .inl (m : Int)), (0, .inr (.inr (.inl (some 71))))], [.inl (m : Int), .inr (.inr (.inl (some 80))), .inr (.inr (.inl (some 71))), .inr (.inr (.inl (some k)))], (am_mm D I J ρ))) rfl ?_
        refine am_e_aaload (m := 6) (c := 23) rfl rfl (by decide) (by omega) (by omega) (by omega) ?_
        rw [show ((am_mm D I J ρ)).2.2.2 80 ((m : Int)).toNat = some (81 + m) from (am_r80 (ρ := ρ) (by omega))]
        show am_E _ _ _ 129 [(2, .inl (m : Int)), (0, .inr (.inr (.inl (some 71))))] [.inr (.inr (.inl (some (81 + m)))), .inr (.inr (.inl (some 71))), .inr (.inr (.inl (some k)))] (am_mm D I J ρ) _
        refine am_e_vm (K := (S (26 + m)).toNat) (tg := (am_tg [37, 43, 37, 37, 22, 62, 37])) (N := 3) (Q := fun r => ∃ Q127, r = (none, (am_mm D (am_wp uS I Q127) J ρ)) ∧ am_rowl (Q127 (81 + m)) 0 (sp_says S m) ∧ ∀ j, j ≠ m → ∀ i, Q127 (81 + j) i = I (81 + j) i) rfl rfl (Nat.le_of_ble_eq_true rfl) hsk (by omega) (by decide) (Nat.le_of_ble_eq_true rfl) (Nat.le_of_ble_eq_true rfl) (by decide) (m_sayM_2 _ (K := (S (26 + m)).toNat) (by omega) hok hsk (by omega) hk124 hk1 hk2 h3 hO (by omega) hfav ho h71 h12 hhr hh haw) ?_
        rintro r ⟨Q127, rfl, ⟨y1, y2⟩⟩
        show am_E _ _ _ 132 [(2, .inl (m : Int)), (0, .inr (.inr (.inl (some 71))))] [] (am_mm D (am_wp uS I Q127) J ρ) _
        have hsn := sp_says_nn ho hh haw
        have hvv : sp_voice S (sp_says S m) := sp_says_voice
        obtain ⟨hnd, hlen, hmm⟩ : (sp_says S m).Nodup ∧ ((sp_says S m).length : Int) = sp_ops S ∧ ∀ x, x ∈ sp_says S m ↔ (x < (S 20).toNat ∧ S (13 + x) = 0) := by
          rcases hvv with h | h
          · exact absurd h hsn
          · exact ⟨h.1, h.2.1.1, h.2.2⟩
        have hx6 : ∀ x ∈ sp_says S m, x < 6 := fun x hx => by have := (hmm x).mp hx; omega
        have hrw : am_rowl ((am_wp uS I Q127) (81 + m)) 0 (sp_says S m) := am_rowl_cg y1 (fun i _ => am_wp_in (by rcases (show m = 0 ∨ m = 1 ∨ m = 2 ∨ m = 3 ∨ m = 4 ∨ m = 5 by omega) with rfl | rfl | rfl | rfl | rfl | rfl <;> rfl))
        refine am_e_ss 2 (q := (134, [(2, .inl (m : Int)), (0, .inr (.inr (.inl (some 71))))], [.inl (m : Int), .inr (.inr (.inl (some 71)))], (am_mm D (am_wp uS I Q127) J ρ))) rfl ?_
        refine am_e_virtual (Q := fun r => ∃ Q128, r = (none, (am_mm D (am_wp uTc (am_wp uS I Q127) Q128) J ρ)) ∧ Q128 71 6 = am_bits (fun x => sp_spk (sp_vl S 0) m x || x == m) 6 ∧ c_talQ (am_wp uS I Q127) Q128 1 (sp_says S m)) rfl rfl (Nat.le_of_ble_eq_true rfl) rfl rfl (Nat.le_of_ble_eq_true rfl) (Nat.le_of_ble_eq_true rfl) (c_hear _ (m := m) (p := sp_spk (sp_vl S 0) m) (L := sp_says S m) (by omega) hv.1 (h3.trans hlen.symm) (by omega) hnd hx6 hrw) ?_
        rintro r ⟨Q128, rfl, ⟨z1, z2⟩⟩
        show am_E _ _ _ 137 [(2, .inl (m : Int)), (0, .inr (.inr (.inl (some 71))))] [] (am_mm D (am_wp uTc (am_wp uS I Q127) Q128) J ρ) _
        refine am_e_ss 2 (q := (69, [(2, .inl ((m : Int) + 1)), (0, .inr (.inr (.inl (some 71))))], [], (am_mm D (am_wp uTc (am_wp uS I Q127) Q128) J ρ))) rfl ?_
        have k81 : ∀ j i, j < 6 → (am_wp uTc (am_wp uS I Q127) Q128) (81 + j) i = Q127 (81 + j) i := fun j i hj => (am_wp_off (by rcases (show j = 0 ∨ j = 1 ∨ j = 2 ∨ j = 3 ∨ j = 4 ∨ j = 5 by omega) with rfl | rfl | rfl | rfl | rfl | rfl <;> rfl)).trans (am_wp_in (by rcases (show j = 0 ∨ j = 1 ∨ j = 2 ∨ j = 3 ∨ j = 4 ∨ j = 5 by omega) with rfl | rfl | rfl | rfl | rfl | rfl <;> rfl))
        have k91 : ∀ a b, a < 6 → (am_wp uTc (am_wp uS I Q127) Q128) (91 + a) b = Q128 (91 + a) b := fun a b ha => am_wp_in (by rcases (show a = 0 ∨ a = 1 ∨ a = 2 ∨ a = 3 ∨ a = 4 ∨ a = 5 by omega) with rfl | rfl | rfl | rfl | rfl | rfl <;> rfl)
        have k74 : ∀ j i, j < 6 → (am_wp uTc (am_wp uS I Q127) Q128) (74 + j) i = I (74 + j) i := fun j i hj => (am_wp_off (by rcases (show j = 0 ∨ j = 1 ∨ j = 2 ∨ j = 3 ∨ j = 4 ∨ j = 5 by omega) with rfl | rfl | rfl | rfl | rfl | rfl <;> rfl)).trans (am_wp_off (by rcases (show j = 0 ∨ j = 1 ∨ j = 2 ∨ j = 3 ∨ j = 4 ∨ j = 5 by omega) with rfl | rfl | rfl | rfl | rfl | rfl <;> rfl))
        have k20 : ∀ j i, j < 6 → (am_wp uTc (am_wp uS I Q127) Q128) (20 + j) i = I (20 + j) i := fun j i hj => (am_wp_off (by rcases (show j = 0 ∨ j = 1 ∨ j = 2 ∨ j = 3 ∨ j = 4 ∨ j = 5 by omega) with rfl | rfl | rfl | rfl | rfl | rfl <;> rfl)).trans (am_wp_off (by rcases (show j = 0 ∨ j = 1 ∨ j = 2 ∨ j = 3 ∨ j = 4 ∨ j = 5 by omega) with rfl | rfl | rfl | rfl | rfl | rfl <;> rfl))
        have hv2 : c_voi (am_wp uTc (am_wp uS I Q127) Q128) (sp_vl S 0) (m + 1) := by
          refine c_voi_s (E := am_wp uS I Q127) hv hsn (am_rowl_cg y1 (fun i _ => k81 m _ (by omega))) (fun j hj i => (k81 j i (by omega)).trans (y2 j (by omega) i)) z1 ⟨fun b => ⟨rfl, rfl, rfl⟩, fun a b ha => am_wp_off (by rcases (show a = 0 ∨ a = 1 ∨ a = 2 ∨ a = 3 ∨ a = 4 ∨ a = 5 by omega) with rfl | rfl | rfl | rfl | rfl | rfl <;> rfl)⟩ ⟨z2.1, fun a b ha hb => (k91 a b ha).trans (z2.2 a b ha hb)⟩
        have hvh2 : c_vh D (am_wp uTc (am_wp uS I Q127) Q128) ρ 2 S := ⟨h12, h14, hr0, hhr, hhd, fun m b hm hb => (k20 m b (by omega)).trans (hlk m b hm hb), c_mems_cg hmem (am_k_wp (uTc_tlo) (am_k_wp (uS_tlo) (am_k_id)))⟩
        have hord2 : c_ords (am_wp uTc (am_wp uS I Q127) Q128) S := ⟨h3, hob, fun m hm => am_rowl_cg (hO m hm) (fun i _ => k74 m _ (by omega))⟩
        refine (am_less (lv := [(2, .inl ((m + 1) : Int)), (0, .inr (.inr (.inl (some 71))))]) rfl (List.forall_mem_cons.mpr ⟨rfl, List.forall_mem_cons.mpr ⟨rfl, List.forall_mem_nil _⟩⟩) (c_coll2_2 (I := am_wp uTc (am_wp uS I Q127) Q128) d (m := m + 1) hok h71 hvh2 hord2 hfav ho (by omega) hv2)).imp ?_
        rintro q ⟨Q9, rfl, h9⟩
        exact ⟨Q9, am_r_wk uV (am_k_wp (uTc_uV) (am_k_wp (uS_uV) (am_k_id))), h9⟩
termination_by 7 - m
decreasing_by all_goals omega
theorem tlo_81 {m : Nat} (h : m < 6) (i : Nat) : tlo (81 + m) i = true := by
  unfold tlo
  simp
  omega
theorem c_true_2 {X : Nat × (Nat → Int)} {D : List (Nat × Nat)} {I J : Nat → Nat → Int} {ρ : Nat → Nat → Option Nat} (d : Nat) {S : Nat → Int} {B : Int} (hok : r_ok S B) (h71 : ρ 71 1 = some 2) (hvh : c_vh D I ρ 2 S) (hord : c_ords I S) {m : Nat} (hm : (m : Int) ≤ S 19) (ho : ¬ sp_ops S = 0) (hv : c_voi I (sp_vl S 1) m) : am_E X (d + 2) 66 6 [(1, .inl (m : Int)), (0, .inr (.inr (.inl (some 71))))] [] (am_mm D I J ρ) (fun q => ∃ Q, q = (none, am_mm D (am_wp uV I Q) J ρ) ∧ c_voi Q (sp_vl S 1) (S 19).toNat) := by
  obtain ⟨h12, h14, hr0, hhr, hhd, hlk, hmem⟩ := hvh
  have hvh : c_vh D I ρ 2 S := ⟨h12, h14, hr0, hhr, hhd, hlk, hmem⟩
  have h19 := r_ok_19 hok
  have hord0 := hord
  obtain ⟨h3, hob, hO⟩ := hord
  have hord := hord0
  have ob := sp_ops_b hok
  have hlen := sp_ord_len (S := S) (m := m)
  have hx6 : ∀ x ∈ sp_ord S m, x < 6 := fun x hx => by have := sp_ord_mem.mp hx; omega
  refine am_e_ss 4 (q := (14, [(1, .inl (m : Int)), (0, .inr (.inr (.inl (some 71))))], [.inl ((I 1 2)), .inl (m : Int)], (am_mm D I J ρ))) rfl ?_
  refine am_e_icmp2 rfl ⟨by omega, by omega⟩ ⟨by omega, by omega⟩ (fun (hw1 : (I 1 2) ≤ (m : Int)) => ?_) (fun (hw1 : ¬ ((I 1 2) ≤ (m : Int))) => ?_)
  · show am_E _ _ _ 50 [(1, .inl (m : Int)), (0, .inr (.inr (.inl (some 71))))] [] (am_mm D I J ρ) _
    refine am_e_return rfl rfl ?_
    have em : m = (S 19).toNat := by omega
    subst em
    exact ⟨I, am_r_wp uV am_k_id, hv⟩
  · show am_E _ _ _ 17 [(1, .inl (m : Int)), (0, .inr (.inr (.inl (some 71))))] [] (am_mm D I J ρ) _
    refine am_e_ss 1 (q := (18, [(1, .inl (m : Int)), (0, .inr (.inr (.inl (some 71))))], [.inr (.inr (.inl (some 71)))], (am_mm D I J ρ))) rfl ?_
    refine am_e_getR (c := 10) (m := 14) (f := 1) (w := 2) rfl rfl rfl (by decide) (by decide) rfl rfl h71 ?_
    show am_E _ _ _ 21 [(1, .inl (m : Int)), (0, .inr (.inr (.inl (some 71))))] [.inr (.inr (.inl (some 2)))] (am_mm D I J ρ) _
    refine am_e_ss 1 (q := (22, [(1, .inl (m : Int)), (0, .inr (.inr (.inl (some 71))))], [.inl (m : Int), .inr (.inr (.inl (some 2)))], (am_mm D I J ρ))) rfl ?_
    refine am_e_virtual (Q := fun r => r = (some (.inl ((am_bi (sp_hp S m = true)))), (am_mm D I J ρ))) rfl rfl (Nat.le_of_ble_eq_true rfl) rfl rfl (Nat.le_of_ble_eq_true rfl) (Nat.le_of_ble_eq_true rfl) (c_isHere_2 _ (p := sp_hp S) hhr (by omega)) ?_
    rintro r rfl
    show am_E _ _ _ 25 [(1, .inl (m : Int)), (0, .inr (.inr (.inl (some 71))))] [.inl ((am_bi (sp_hp S m = true)))] (am_mm D I J ρ) _
    refine am_e_ifeq rfl (fun hw2 => ?_) (fun hw2 => ?_)
    · show am_E _ _ _ 44 [(1, .inl (m : Int)), (0, .inr (.inr (.inl (some 71))))] [] (am_mm D I J ρ) _
      refine am_e_ss 2 (q := (6, [(1, .inl ((m : Int) + 1)), (0, .inr (.inr (.inl (some 71))))], [], (am_mm D I J ρ))) rfl ?_
      have hsn : sp_vl S 1 m = [] := by
        unfold sp_vl
        rw [if_neg (by omega), if_neg (fun h => absurd (sp_hp_t.mpr ⟨by omega, h⟩) (by assumption))]
      refine (am_less (lv := [(1, .inl ((m + 1) : Int)), (0, .inr (.inr (.inl (some 71))))]) rfl (List.forall_mem_cons.mpr ⟨rfl, List.forall_mem_cons.mpr ⟨rfl, List.forall_mem_nil _⟩⟩) (c_true_2 (I := I) d (m := m + 1) hok h71 hvh hord (by omega) ho (c_voi_n hv hsn))).imp ?_
      rintro q ⟨Q9, rfl, h9⟩
      exact ⟨Q9, am_r_wk uV (am_k_id), h9⟩
    · show am_E _ _ _ 28 [(1, .inl (m : Int)), (0, .inr (.inr (.inl (some 71))))] [] (am_mm D I J ρ) _
      have hh : S (7 + m) = 0 := (sp_hp_t.mp (by assumption)).2
      refine am_e_ss 5 (q := (35, [(1, .inl (m : Int)), (0, .inr (.inr (.inl (some 71))))], [.inl (m : Int), .inr (.inr (.inl (some 80))), .inl (m : Int), .inr (.inr (.inl (some 71)))], (am_mm D I J ρ))) rfl ?_
      refine am_e_aaload (m := 6) (c := 23) rfl rfl (by decide) (by omega) (by omega) (by omega) ?_
      rw [show ((am_mm D I J ρ)).2.2.2 80 ((m : Int)).toNat = some (81 + m) from (am_r80 (ρ := ρ) (by omega))]
      show am_E _ _ _ 36 [(1, .inl (m : Int)), (0, .inr (.inr (.inl (some 71))))] [.inr (.inr (.inl (some (81 + m)))), .inl (m : Int), .inr (.inr (.inl (some 71)))] (am_mm D I J ρ) _
      refine am_e_virtual (Q := fun r => r = (none, (am_mm D (am_cpg I (81 + m) 0 (74 + m) 0 6) J ρ))) rfl rfl (Nat.le_of_ble_eq_true rfl) rfl rfl (Nat.le_of_ble_eq_true rfl) (Nat.le_of_ble_eq_true rfl) (c_putOrder _ (a := m) (b := m) (by omega) (by omega)) ?_
      rintro r rfl
      show am_E _ _ _ 39 [(1, .inl (m : Int)), (0, .inr (.inr (.inl (some 71))))] [] (am_mm D (am_cpg I (81 + m) 0 (74 + m) 0 6) J ρ) _
      refine am_e_ss 2 (q := (41, [(1, .inl (m : Int)), (0, .inr (.inr (.inl (some 71))))], [.inl (m : Int), .inr (.inr (.inl (some 71)))], (am_mm D (am_cpg I (81 + m) 0 (74 + m) 0 6) J ρ))) rfl ?_
      refine am_e_virtual (Q := fun r => ∃ Q129, r = (none, (am_mm D (am_wp uTc (am_cpg I (81 + m) 0 (74 + m) 0 6) Q129) J ρ)) ∧ Q129 71 6 = am_bits (fun x => sp_spk (sp_vl S 1) m x || x == m) 6 ∧ c_talQ (am_cpg I (81 + m) 0 (74 + m) 0 6) Q129 1 (sp_ord S m)) rfl rfl (Nat.le_of_ble_eq_true rfl) rfl rfl (Nat.le_of_ble_eq_true rfl) (Nat.le_of_ble_eq_true rfl) (c_hear _ (m := m) (p := sp_spk (sp_vl S 1) m) (L := sp_ord S m) (by omega) (show (am_cpg I (81 + m) 0 (74 + m) 0 6) 71 6 = _ from (if_neg (by omega)).trans hv.1) (show (am_cpg I (81 + m) 0 (74 + m) 0 6) 71 3 = _ from (if_neg (by omega)).trans (h3.trans hlen.symm)) (by omega) sp_ord_nd hx6 (am_rowl_cpg (hO m (by omega)) (by omega))) ?_
      rintro r ⟨Q129, rfl, ⟨z1, z2⟩⟩
      show am_E _ _ _ 44 [(1, .inl (m : Int)), (0, .inr (.inr (.inl (some 71))))] [] (am_mm D (am_wp uTc (am_cpg I (81 + m) 0 (74 + m) 0 6) Q129) J ρ) _
      refine am_e_ss 2 (q := (6, [(1, .inl ((m : Int) + 1)), (0, .inr (.inr (.inl (some 71))))], [], (am_mm D (am_wp uTc (am_cpg I (81 + m) 0 (74 + m) 0 6) Q129) J ρ))) rfl ?_
      have hvl : sp_vl S 1 m = sp_ord S m := by
        unfold sp_vl
        rw [if_neg (by omega), if_pos hh]
      have kc : ∀ c i, c ≠ 81 + m → (am_cpg I (81 + m) 0 (74 + m) 0 6) c i = I c i := fun c i hc => if_neg (by omega)
      have k81 : ∀ j i, j < 6 → (am_wp uTc (am_cpg I (81 + m) 0 (74 + m) 0 6) Q129) (81 + j) i = (am_cpg I (81 + m) 0 (74 + m) 0 6) (81 + j) i := fun j i hj => am_wp_off (by rcases (show j = 0 ∨ j = 1 ∨ j = 2 ∨ j = 3 ∨ j = 4 ∨ j = 5 by omega) with rfl | rfl | rfl | rfl | rfl | rfl <;> rfl)
      have k91 : ∀ a b, a < 6 → (am_wp uTc (am_cpg I (81 + m) 0 (74 + m) 0 6) Q129) (91 + a) b = Q129 (91 + a) b := fun a b ha => am_wp_in (by rcases (show a = 0 ∨ a = 1 ∨ a = 2 ∨ a = 3 ∨ a = 4 ∨ a = 5 by omega) with rfl | rfl | rfl | rfl | rfl | rfl <;> rfl)
      have k74 : ∀ j i, j < 6 → (am_wp uTc (am_cpg I (81 + m) 0 (74 + m) 0 6) Q129) (74 + j) i = I (74 + j) i := fun j i hj => (am_wp_off (by rcases (show j = 0 ∨ j = 1 ∨ j = 2 ∨ j = 3 ∨ j = 4 ∨ j = 5 by omega) with rfl | rfl | rfl | rfl | rfl | rfl <;> rfl)).trans (kc _ _ (by omega))
      have k20 : ∀ j i, j < 6 → (am_wp uTc (am_cpg I (81 + m) 0 (74 + m) 0 6) Q129) (20 + j) i = I (20 + j) i := fun j i hj => (am_wp_off (by rcases (show j = 0 ∨ j = 1 ∨ j = 2 ∨ j = 3 ∨ j = 4 ∨ j = 5 by omega) with rfl | rfl | rfl | rfl | rfl | rfl <;> rfl)).trans (kc _ _ (by omega))
      have hlo : ∀ c i, c = 1 ∨ c = 2 ∨ c = 69 ∨ c = 72 → (am_wp uTc (am_cpg I (81 + m) 0 (74 + m) 0 6) Q129) c i = I c i := fun c i hc => (am_wp_off (by rcases hc with rfl | rfl | rfl | rfl <;> rfl)).trans (kc _ _ (by omega))
      have h713 : (am_wp uTc (am_cpg I (81 + m) 0 (74 + m) 0 6) Q129) 71 3 = I 71 3 := (am_wp_off rfl).trans (kc _ _ (by omega))
      have hne : ¬ sp_vl S 1 m = [] := by
        rw [hvl]
        intro e
        rw [e] at hlen
        exact ho hlen.symm
      rw [← hvl] at z2
      have hv2 : c_voi (am_wp uTc (am_cpg I (81 + m) 0 (74 + m) 0 6) Q129) (sp_vl S 1) (m + 1) := by
        refine c_voi_s (E := am_cpg I (81 + m) 0 (74 + m) 0 6) hv hne ?_ (fun j hj i => (k81 j i (by omega)).trans (kc _ _ (by omega))) z1 ⟨fun b => ⟨kc _ _ (by omega), kc _ _ (by omega), kc _ _ (by omega)⟩, fun a b ha => kc _ _ (by omega)⟩ ⟨z2.1, fun a b ha hb => (k91 a b ha).trans (z2.2 a b ha hb)⟩
        rw [hvl]
        exact am_rowl_cg (am_rowl_cpg (dst := 81 + m) (hO m (by omega)) (show (sp_ord S m).length ≤ 6 by omega)) (fun i _ => k81 m _ (by omega))
      have hvh2 : c_vh D (am_wp uTc (am_cpg I (81 + m) 0 (74 + m) 0 6) Q129) ρ 2 S := ⟨(hlo 1 2 (by omega)).trans h12, (hlo 1 4 (by omega)).trans h14, (hlo 2 0 (by omega)).trans hr0, (hlo 2 1 (by omega)).trans hhr, (hlo 2 2 (by omega)).trans hhd, fun m b hm hb => (k20 m b (by omega)).trans (hlk m b hm hb), c_mems_cg hmem (am_k_wp uTc_tlo (am_k_cpg (fun i => tlo_81 (by omega) i) am_k_id))⟩
      have hord2 : c_ords (am_wp uTc (am_cpg I (81 + m) 0 (74 + m) 0 6) Q129) S := ⟨h713.trans h3, am_rowl_cg hob (fun i _ => hlo 72 _ (by omega)), fun m hm => am_rowl_cg (hO m hm) (fun i _ => k74 m _ (by omega))⟩
      refine (am_less (lv := [(1, .inl ((m + 1) : Int)), (0, .inr (.inr (.inl (some 71))))]) rfl (List.forall_mem_cons.mpr ⟨rfl, List.forall_mem_cons.mpr ⟨rfl, List.forall_mem_nil _⟩⟩) (c_true_2 (I := am_wp uTc (am_cpg I (81 + m) 0 (74 + m) 0 6) Q129) d (m := m + 1) hok h71 hvh2 hord2 (by omega) ho hv2)).imp ?_
      rintro q ⟨Q9, rfl, h9⟩
      exact ⟨Q9, am_r_wk uV (am_k_wp uTc_uV (am_k_cpg (fun i => (by rcases (show m = 0 ∨ m = 1 ∨ m = 2 ∨ m = 3 ∨ m = 4 ∨ m = 5 by omega) with rfl | rfl | rfl | rfl | rfl | rfl <;> rfl)) am_k_id)), h9⟩
termination_by 7 - m
decreasing_by all_goals omega
theorem c_true0_2 {X : Nat × (Nat → Int)} {D : List (Nat × Nat)} {I J : Nat → Nat → Int} {ρ : Nat → Nat → Option Nat} (d : Nat) {S : Nat → Int} {B : Int} (hok : r_ok S B) (h71 : ρ 71 1 = some 2) (h12 : I 1 2 = S 19) (hhr : I 2 1 = am_bits (sp_hp S) 6) (h3 : I 71 3 = 0) {m : Nat} {p : Nat → Bool} (hm : (m : Int) ≤ S 19) (hp : I 71 6 = am_bits p 6) : am_E X (d + 2) 66 6 [(1, .inl (m : Int)), (0, .inr (.inr (.inl (some 71))))] [] (am_mm D I J ρ) (fun q => ∃ Q, q = (none, am_mm D (am_wp uV I Q) J ρ) ∧ True) := by
  have h19 := r_ok_19 hok
  refine am_e_ss 4 (q := (14, [(1, .inl (m : Int)), (0, .inr (.inr (.inl (some 71))))], [.inl ((I 1 2)), .inl (m : Int)], (am_mm D I J ρ))) rfl ?_
  refine am_e_icmp2 rfl ⟨by omega, by omega⟩ ⟨by omega, by omega⟩ (fun (hw1 : (I 1 2) ≤ (m : Int)) => ?_) (fun (hw1 : ¬ ((I 1 2) ≤ (m : Int))) => ?_)
  · show am_E _ _ _ 50 [(1, .inl (m : Int)), (0, .inr (.inr (.inl (some 71))))] [] (am_mm D I J ρ) _
    refine am_e_return rfl rfl ?_
    exact ⟨I, am_r_wp uV am_k_id, True.intro⟩
  · show am_E _ _ _ 17 [(1, .inl (m : Int)), (0, .inr (.inr (.inl (some 71))))] [] (am_mm D I J ρ) _
    refine am_e_ss 1 (q := (18, [(1, .inl (m : Int)), (0, .inr (.inr (.inl (some 71))))], [.inr (.inr (.inl (some 71)))], (am_mm D I J ρ))) rfl ?_
    refine am_e_getR (c := 10) (m := 14) (f := 1) (w := 2) rfl rfl rfl (by decide) (by decide) rfl rfl h71 ?_
    show am_E _ _ _ 21 [(1, .inl (m : Int)), (0, .inr (.inr (.inl (some 71))))] [.inr (.inr (.inl (some 2)))] (am_mm D I J ρ) _
    refine am_e_ss 1 (q := (22, [(1, .inl (m : Int)), (0, .inr (.inr (.inl (some 71))))], [.inl (m : Int), .inr (.inr (.inl (some 2)))], (am_mm D I J ρ))) rfl ?_
    refine am_e_virtual (Q := fun r => r = (some (.inl ((am_bi (sp_hp S m = true)))), (am_mm D I J ρ))) rfl rfl (Nat.le_of_ble_eq_true rfl) rfl rfl (Nat.le_of_ble_eq_true rfl) (Nat.le_of_ble_eq_true rfl) (c_isHere_2 _ (p := sp_hp S) hhr (by omega)) ?_
    rintro r rfl
    show am_E _ _ _ 25 [(1, .inl (m : Int)), (0, .inr (.inr (.inl (some 71))))] [.inl ((am_bi (sp_hp S m = true)))] (am_mm D I J ρ) _
    refine am_e_ifeq rfl (fun hw2 => ?_) (fun hw2 => ?_)
    · show am_E _ _ _ 44 [(1, .inl (m : Int)), (0, .inr (.inr (.inl (some 71))))] [] (am_mm D I J ρ) _
      refine am_e_ss 2 (q := (6, [(1, .inl ((m : Int) + 1)), (0, .inr (.inr (.inl (some 71))))], [], (am_mm D I J ρ))) rfl ?_
      refine (am_less (lv := [(1, .inl ((m + 1) : Int)), (0, .inr (.inr (.inl (some 71))))]) rfl (List.forall_mem_cons.mpr ⟨rfl, List.forall_mem_cons.mpr ⟨rfl, List.forall_mem_nil _⟩⟩) (c_true0_2 (I := I) d (m := m + 1) hok h71 h12 hhr h3 (by omega) hp)).imp ?_
      rintro q ⟨Q9, rfl, h9⟩
      exact ⟨Q9, am_r_wk uV (am_k_id), h9⟩
    · show am_E _ _ _ 28 [(1, .inl (m : Int)), (0, .inr (.inr (.inl (some 71))))] [] (am_mm D I J ρ) _
      refine am_e_ss 5 (q := (35, [(1, .inl (m : Int)), (0, .inr (.inr (.inl (some 71))))], [.inl (m : Int), .inr (.inr (.inl (some 80))), .inl (m : Int), .inr (.inr (.inl (some 71)))], (am_mm D I J ρ))) rfl ?_
      refine am_e_aaload (m := 6) (c := 23) rfl rfl (by decide) (by omega) (by omega) (by omega) ?_
      rw [show ((am_mm D I J ρ)).2.2.2 80 ((m : Int)).toNat = some (81 + m) from (am_r80 (ρ := ρ) (by omega))]
      show am_E _ _ _ 36 [(1, .inl (m : Int)), (0, .inr (.inr (.inl (some 71))))] [.inr (.inr (.inl (some (81 + m)))), .inl (m : Int), .inr (.inr (.inl (some 71)))] (am_mm D I J ρ) _
      refine am_e_virtual (Q := fun r => r = (none, (am_mm D (am_cpg I (81 + m) 0 (74 + m) 0 6) J ρ))) rfl rfl (Nat.le_of_ble_eq_true rfl) rfl rfl (Nat.le_of_ble_eq_true rfl) (Nat.le_of_ble_eq_true rfl) (c_putOrder _ (a := m) (b := m) (by omega) (by omega)) ?_
      rintro r rfl
      show am_E _ _ _ 39 [(1, .inl (m : Int)), (0, .inr (.inr (.inl (some 71))))] [] (am_mm D (am_cpg I (81 + m) 0 (74 + m) 0 6) J ρ) _
      refine am_e_ss 2 (q := (41, [(1, .inl (m : Int)), (0, .inr (.inr (.inl (some 71))))], [.inl (m : Int), .inr (.inr (.inl (some 71)))], (am_mm D (am_cpg I (81 + m) 0 (74 + m) 0 6) J ρ))) rfl ?_
      refine am_e_virtual (Q := fun r => ∃ Q130, r = (none, (am_mm D (am_wp uTc (am_cpg I (81 + m) 0 (74 + m) 0 6) Q130) J ρ)) ∧ Q130 71 6 = am_bits (fun x => p x || x == m) 6 ∧ c_talQ (am_cpg I (81 + m) 0 (74 + m) 0 6) Q130 1 []) rfl rfl (Nat.le_of_ble_eq_true rfl) rfl rfl (Nat.le_of_ble_eq_true rfl) (Nat.le_of_ble_eq_true rfl) (c_hear _ (m := m) (p := p) (L := []) (by omega) (show (am_cpg I (81 + m) 0 (74 + m) 0 6) 71 6 = _ from (if_neg (by omega)).trans hp) (show (am_cpg I (81 + m) 0 (74 + m) 0 6) 71 3 = _ from (if_neg (by omega)).trans h3) (by simp) List.nodup_nil (fun x hx => by simp at hx) am_rowl_nil) ?_
      rintro r ⟨Q130, rfl, ⟨z1, z2⟩⟩
      show am_E _ _ _ 44 [(1, .inl (m : Int)), (0, .inr (.inr (.inl (some 71))))] [] (am_mm D (am_wp uTc (am_cpg I (81 + m) 0 (74 + m) 0 6) Q130) J ρ) _
      refine am_e_ss 2 (q := (6, [(1, .inl ((m : Int) + 1)), (0, .inr (.inr (.inl (some 71))))], [], (am_mm D (am_wp uTc (am_cpg I (81 + m) 0 (74 + m) 0 6) Q130) J ρ))) rfl ?_
      have kc : ∀ c i, c ≠ 81 + m → (am_cpg I (81 + m) 0 (74 + m) 0 6) c i = I c i := fun c i hc => if_neg (by omega)
      have hlo : ∀ c i, c = 1 ∨ c = 2 ∨ c = 69 ∨ c = 72 → (am_wp uTc (am_cpg I (81 + m) 0 (74 + m) 0 6) Q130) c i = I c i := fun c i hc => (am_wp_off (by rcases hc with rfl | rfl | rfl | rfl <;> rfl)).trans (kc _ _ (by omega))
      have h713 : (am_wp uTc (am_cpg I (81 + m) 0 (74 + m) 0 6) Q130) 71 3 = I 71 3 := (am_wp_off rfl).trans (kc _ _ (by omega))
      refine (am_less (lv := [(1, .inl ((m + 1) : Int)), (0, .inr (.inr (.inl (some 71))))]) rfl (List.forall_mem_cons.mpr ⟨rfl, List.forall_mem_cons.mpr ⟨rfl, List.forall_mem_nil _⟩⟩) (c_true0_2 (I := am_wp uTc (am_cpg I (81 + m) 0 (74 + m) 0 6) Q130) d (m := m + 1) hok h71 ((hlo 1 2 (by omega)).trans h12) ((hlo 2 1 (by omega)).trans hhr) (h713.trans h3) (by omega) z1)).imp ?_
      rintro q ⟨Q9, rfl, h9⟩
      exact ⟨Q9, am_r_wk uV (am_k_wp uTc_uV (am_k_cpg (fun i => (by rcases (show m = 0 ∨ m = 1 ∨ m = 2 ∨ m = 3 ∨ m = 4 ∨ m = 5 by omega) with rfl | rfl | rfl | rfl | rfl | rfl <;> rfl)) am_k_id)), h9⟩
termination_by 7 - m
decreasing_by all_goals omega
theorem c_speakTrue_2 {X : Nat × (Nat → Int)} {D : List (Nat × Nat)} {I J : Nat → Nat → Int} {ρ : Nat → Nat → Option Nat} (d : Nat) {S : Nat → Int} {B : Int} (hok : r_ok S B) (h71 : ρ 71 1 = some 2) (hvh : c_vh D I ρ 2 S) (hord : c_ords I S) : am_E X (d + 2) 66 0 [(0, .inr (.inr (.inl (some 71))))] [] (am_mm D I J ρ) (fun q => ∃ Q, q = (none, am_mm D (am_wp uV I Q) J ρ) ∧ (¬ sp_ops S = 0 → c_voi Q (sp_vl S 1) (S 19).toNat)) := by
  obtain ⟨h12, h14, hr0, hhr, hhd, hlk, hmem⟩ := hvh
  have hvh : c_vh D I ρ 2 S := ⟨h12, h14, hr0, hhr, hhd, hlk, hmem⟩
  have h19 := r_ok_19 hok
  have hord0 := hord
  obtain ⟨h3, hob, hO⟩ := hord
  have hord := hord0
  have ob := sp_ops_b hok
  refine am_e_ss 1 (q := (1, [(0, .inr (.inr (.inl (some 71))))], [.inr (.inr (.inl (some 71)))], (am_mm D I J ρ))) rfl ?_
  refine am_e_virtual (Q := fun r => ∃ Q131, r = (none, (am_mm D (am_wp uTc I Q131) J ρ)) ∧ (∀ b, b < 6 → Q131 87 b = 0 ∧ Q131 88 b = 0 ∧ Q131 89 b = 0) ∧ (∀ a b, a < 6 → b < 6 → Q131 (91 + a) b = 0) ∧ Q131 71 6 = 0) rfl rfl (Nat.le_of_ble_eq_true rfl) rfl rfl (Nat.le_of_ble_eq_true rfl) (Nat.le_of_ble_eq_true rfl) (c_clear _) ?_
  rintro r ⟨Q131, rfl, ⟨t1, t2, t3⟩⟩
  show am_E _ _ _ 4 [(0, .inr (.inr (.inl (some 71))))] [] (am_mm D (am_wp uTc I Q131) J ρ) _
  refine am_e_ss 2 (q := (6, [(1, .inl 0), (0, .inr (.inr (.inl (some 71))))], [], (am_mm D (am_wp uTc I Q131) J ρ))) rfl ?_
  have k74 : ∀ j i, j < 6 → (am_wp uTc I Q131) (74 + j) i = I (74 + j) i := fun j i hj => am_wp_off (by rcases (show j = 0 ∨ j = 1 ∨ j = 2 ∨ j = 3 ∨ j = 4 ∨ j = 5 by omega) with rfl | rfl | rfl | rfl | rfl | rfl <;> rfl)
  have k20 : ∀ j i, j < 6 → (am_wp uTc I Q131) (20 + j) i = I (20 + j) i := fun j i hj => am_wp_off (by rcases (show j = 0 ∨ j = 1 ∨ j = 2 ∨ j = 3 ∨ j = 4 ∨ j = 5 by omega) with rfl | rfl | rfl | rfl | rfl | rfl <;> rfl)
  have k91 : ∀ a b, a < 6 → (am_wp uTc I Q131) (91 + a) b = Q131 (91 + a) b := fun a b ha => am_wp_in (by rcases (show a = 0 ∨ a = 1 ∨ a = 2 ∨ a = 3 ∨ a = 4 ∨ a = 5 by omega) with rfl | rfl | rfl | rfl | rfl | rfl <;> rfl)
  have hvh2 : c_vh D (am_wp uTc I Q131) ρ 2 S := ⟨h12, h14, hr0, hhr, hhd, fun m b hm hb => (k20 m b (by omega)).trans (hlk m b hm hb), c_mems_cg hmem (am_k_wp (uTc_tlo) (am_k_id))⟩
  have hord2 : c_ords (am_wp uTc I Q131) S := ⟨h3, hob, fun m hm => am_rowl_cg (hO m hm) (fun i _ => k74 m _ (by omega))⟩
  have hv0 : c_voi (am_wp uTc I Q131) (sp_vl S 1) 0 := c_voi_0 t1 (fun a b ha hb => (k91 a b ha).trans (t2 a b ha hb)) t3
  by_cases ho : sp_ops S = 0
  · refine (am_less (lv := [(1, .inl (0 : Int)), (0, .inr (.inr (.inl (some 71))))]) rfl (List.forall_mem_cons.mpr ⟨rfl, List.forall_mem_cons.mpr ⟨rfl, List.forall_mem_nil _⟩⟩) (c_true0_2 (I := am_wp uTc I Q131) d (m := 0) (S := S) hok h71 h12 hhr (h3.trans ho) (by omega) hv0.1)).imp ?_
    rintro q ⟨Q9, rfl, h9⟩
    exact ⟨Q9, am_r_wk uV (am_k_wp (uTc_uV) (am_k_id)), fun h => absurd ho h⟩
  · refine (am_less (lv := [(1, .inl (0 : Int)), (0, .inr (.inr (.inl (some 71))))]) rfl (List.forall_mem_cons.mpr ⟨rfl, List.forall_mem_cons.mpr ⟨rfl, List.forall_mem_nil _⟩⟩) (c_true_2 (I := am_wp uTc I Q131) d (m := 0) hok h71 hvh2 hord2 (by omega) ho hv0)).imp ?_
    rintro q ⟨Q9, rfl, h9⟩
    exact ⟨Q9, am_r_wk uV (am_k_wp (uTc_uV) (am_k_id)), fun _ => h9⟩
theorem c_collA_2 {X : Nat × (Nat → Int)} {D : List (Nat × Nat)} {I J : Nat → Nat → Int} {ρ : Nat → Nat → Option Nat} (d : Nat) {S : Nat → Int} {B : Int} (hok : r_ok S B) (h71 : ρ 71 1 = some 2) (hvh : c_vh D I ρ 2 S) (hwf : sp_wfS S) {m : Nat} (hm : (m : Int) ≤ S 19) (h3 : I 71 3 = sp_ops S) (hob : am_rowl (I 72) 0 (sp_ob S)) (hOm : ∀ j, j < m → am_rowl (I (74 + j)) 0 (sp_ord S j)) : am_E X (d + 4) 65 11 [(2, .inl (m : Int)), (0, .inr (.inr (.inl (some 71))))] [] (am_mm D I J ρ) (fun q => ∃ Q, q = (none, am_mm D (am_wp uC I Q) J ρ) ∧ c_ords Q S ∧ c_voi Q (sp_vl S 0) (S 19).toNat) := by
  obtain ⟨h12, h14, hr0, hhr, hhd, hlk, hmem⟩ := hvh
  have hvh : c_vh D I ρ 2 S := ⟨h12, h14, hr0, hhr, hhd, hlk, hmem⟩
  have h19 := r_ok_19 hok
  have ob := sp_ops_b hok
  have obl := sp_ob_len (S := S)
  have hob6 : ∀ x ∈ sp_ob S, x < 6 := fun x hx => by have := sp_ob_mem.mp hx; omega
  have hlb : m < 6 → ∀ x ∈ sp_ob S, -2147483648 ≤ sp_like S m x ∧ sp_like S m x < 2147483648 := fun hm6 x hx => by have := sp_like_b hok hwf (m := (m : Int)) (b := (x : Int)) ⟨by omega, by omega⟩ ⟨by omega, by have := hob6 x hx; omega⟩; omega
  refine am_e_ss 4 (q := (19, [(2, .inl (m : Int)), (0, .inr (.inr (.inl (some 71))))], [.inl ((I 1 2)), .inl (m : Int)], (am_mm D I J ρ))) rfl ?_
  refine am_e_icmp2 rfl ⟨by omega, by omega⟩ ⟨by omega, by omega⟩ (fun (hw1 : (I 1 2) ≤ (m : Int)) => ?_) (fun (hw1 : ¬ ((I 1 2) ≤ (m : Int))) => ?_)
  · show am_E _ _ _ 47 [(2, .inl (m : Int)), (0, .inr (.inr (.inl (some 71))))] [] (am_mm D I J ρ) _
    have hO0 : ∀ m, m < (S 19).toNat → ¬ sp_ops S = 0 → I (74 + m) 0 = sp_hd S m := by
      intro m2 hm2 ho
      have hol := sp_ord_len (S := S) (m := m2)
      have hrd := hOm m2 (by omega)
      unfold sp_hd
      cases hL : sp_ord S m2 with
      | nil => rw [hL] at hol; exact absurd hol.symm ho
      | cons a r => rw [hL] at hrd; exact am_rowl_h hrd
    refine am_e_ss 2 (q := (49, [(2, .inl (m : Int)), (0, .inr (.inr (.inl (some 71))))], [.inr (.inr (.inl (some 71))), .inr (.inr (.inl (some 71)))], (am_mm D I J ρ))) rfl ?_
    refine am_e_virtual (Q := fun r => r = (some (.inl ((sp_fav S))), (am_mm D I J ρ))) rfl rfl (Nat.le_of_ble_eq_true rfl) rfl rfl (Nat.le_of_ble_eq_true rfl) (Nat.le_of_ble_eq_true rfl) (c_fav_2 _ hok h71 h12 hhr h3 hob hO0) ?_
    rintro r rfl
    show am_E _ _ _ 52 [(2, .inl (m : Int)), (0, .inr (.inr (.inl (some 71))))] [.inl ((sp_fav S)), .inr (.inr (.inl (some 71)))] (am_mm D I J ρ) _
    refine am_e_ss 2 (q := (56, [(2, .inl (m : Int)), (0, .inr (.inr (.inl (some 71))))], [.inr (.inr (.inl (some 71)))], (am_mm D (am_up I 71 7 (sp_fav S)) J ρ))) rfl ?_
    refine am_e_virtual (Q := fun r => ∃ Q132, r = (none, (am_mm D (am_wp uTc (am_up I 71 7 (sp_fav S)) Q132) J ρ)) ∧ (∀ b, b < 6 → Q132 87 b = 0 ∧ Q132 88 b = 0 ∧ Q132 89 b = 0) ∧ (∀ a b, a < 6 → b < 6 → Q132 (91 + a) b = 0) ∧ Q132 71 6 = 0) rfl rfl (Nat.le_of_ble_eq_true rfl) rfl rfl (Nat.le_of_ble_eq_true rfl) (Nat.le_of_ble_eq_true rfl) (c_clear _) ?_
    rintro r ⟨Q132, rfl, ⟨t1, t2, t3⟩⟩
    show am_E _ _ _ 59 [(2, .inl (m : Int)), (0, .inr (.inr (.inl (some 71))))] [] (am_mm D (am_wp uTc (am_up I 71 7 (sp_fav S)) Q132) J ρ) _
    refine am_e_ss 2 (q := (63, [(2, .inl (m : Int)), (0, .inr (.inr (.inl (some 71))))], [.inl ((I 71 3))], (am_mm D (am_wp uTc (am_up I 71 7 (sp_fav S)) Q132) J ρ))) rfl ?_
    refine am_e_if2 rfl ⟨by omega, by omega⟩ (fun (hw2 : ¬ (I 71 3) = 0) => ?_) (fun (hw2 : ¬ (¬ (I 71 3) = 0)) => ?_)
    · show am_E _ _ _ 67 [(2, .inl (m : Int)), (0, .inr (.inr (.inl (some 71))))] [] (am_mm D (am_wp uTc (am_up I 71 7 (sp_fav S)) Q132) J ρ) _
      refine am_e_ss 2 (q := (69, [(2, .inl 0), (0, .inr (.inr (.inl (some 71))))], [], (am_mm D (am_wp uTc (am_up I 71 7 (sp_fav S)) Q132) J ρ))) rfl ?_
      have k74 : ∀ j i, j < 6 → (am_wp uTc (am_up I 71 7 (sp_fav S)) Q132) (74 + j) i = I (74 + j) i := fun j i hj => (am_wp_off (by rcases (show j = 0 ∨ j = 1 ∨ j = 2 ∨ j = 3 ∨ j = 4 ∨ j = 5 by omega) with rfl | rfl | rfl | rfl | rfl | rfl <;> rfl)).trans (am_up_ne2 (by omega))
      have k20 : ∀ j i, j < 6 → (am_wp uTc (am_up I 71 7 (sp_fav S)) Q132) (20 + j) i = I (20 + j) i := fun j i hj => (am_wp_off (by rcases (show j = 0 ∨ j = 1 ∨ j = 2 ∨ j = 3 ∨ j = 4 ∨ j = 5 by omega) with rfl | rfl | rfl | rfl | rfl | rfl <;> rfl)).trans (am_up_ne2 (by omega))
      have k91 : ∀ a b, a < 6 → (am_wp uTc (am_up I 71 7 (sp_fav S)) Q132) (91 + a) b = Q132 (91 + a) b := fun a b ha => am_wp_in (by rcases (show a = 0 ∨ a = 1 ∨ a = 2 ∨ a = 3 ∨ a = 4 ∨ a = 5 by omega) with rfl | rfl | rfl | rfl | rfl | rfl <;> rfl)
      have hvh2 : c_vh D (am_wp uTc (am_up I 71 7 (sp_fav S)) Q132) ρ 2 S := ⟨h12, h14, hr0, hhr, hhd, fun m b hm hb => (k20 m b (by omega)).trans (hlk m b hm hb), c_mems_cg hmem (am_k_wp (uTc_tlo) (am_k_up rfl (am_k_id)))⟩
      have hord2 : c_ords (am_wp uTc (am_up I 71 7 (sp_fav S)) Q132) S := ⟨h3, hob, fun m hm => am_rowl_cg (hOm m (by omega)) (fun i _ => k74 m _ (by omega))⟩
      have hv0 : c_voi (am_wp uTc (am_up I 71 7 (sp_fav S)) Q132) (sp_vl S 0) 0 := c_voi_0 t1 (fun a b ha hb => (k91 a b ha).trans (t2 a b ha hb)) t3
      refine (am_less (lv := [(2, .inl (0 : Int)), (0, .inr (.inr (.inl (some 71))))]) rfl (List.forall_mem_cons.mpr ⟨rfl, List.forall_mem_cons.mpr ⟨rfl, List.forall_mem_nil _⟩⟩) (c_coll2_2 (I := am_wp uTc (am_up I 71 7 (sp_fav S)) Q132) d (m := 0) hok h71 hvh2 hord2 rfl (by omega) (by omega) hv0)).imp ?_
      rintro q ⟨Q9, rfl, h9⟩
      obtain ⟨v1, v2, v3, v4⟩ := h9
      have w81 : ∀ j i, j < 6 → (am_wp uV (am_wp uTc (am_up I 71 7 (sp_fav S)) Q132) Q9) (81 + j) i = Q9 (81 + j) i := fun j i hj => am_wp_in (by rcases (show j = 0 ∨ j = 1 ∨ j = 2 ∨ j = 3 ∨ j = 4 ∨ j = 5 by omega) with rfl | rfl | rfl | rfl | rfl | rfl <;> rfl)
      have w91 : ∀ a b, a < 6 → (am_wp uV (am_wp uTc (am_up I 71 7 (sp_fav S)) Q132) Q9) (91 + a) b = Q9 (91 + a) b := fun a b ha => am_wp_in (by rcases (show a = 0 ∨ a = 1 ∨ a = 2 ∨ a = 3 ∨ a = 4 ∨ a = 5 by omega) with rfl | rfl | rfl | rfl | rfl | rfl <;> rfl)
      have w74 : ∀ j i, j < 6 → (am_wp uV (am_wp uTc (am_up I 71 7 (sp_fav S)) Q132) Q9) (74 + j) i = I (74 + j) i := fun j i hj => (am_wp_off (by rcases (show j = 0 ∨ j = 1 ∨ j = 2 ∨ j = 3 ∨ j = 4 ∨ j = 5 by omega) with rfl | rfl | rfl | rfl | rfl | rfl <;> rfl)).trans (k74 j i hj)
      exact ⟨_, am_r_wp uC (am_k_wp uV_uC (am_k_wp (uTc_uC) (am_k_up rfl (am_k_id)))), ⟨h3, hob, fun m hm => am_rowl_cg (hOm m (by omega)) (fun i _ => w74 m _ (by omega))⟩, v1, fun j hj hn => am_rowl_cg (v2 j hj hn) (fun i _ => w81 j _ (by omega)), v3, fun a b ha hb => (w91 a b ha).trans (v4 a b ha hb)⟩
    · show am_E _ _ _ 66 [(2, .inl (m : Int)), (0, .inr (.inr (.inl (some 71))))] [] (am_mm D (am_wp uTc (am_up I 71 7 (sp_fav S)) Q132) J ρ) _
      refine am_e_return rfl rfl ?_
      have k74 : ∀ j i, j < 6 → (am_wp uTc (am_up I 71 7 (sp_fav S)) Q132) (74 + j) i = I (74 + j) i := fun j i hj => (am_wp_off (by rcases (show j = 0 ∨ j = 1 ∨ j = 2 ∨ j = 3 ∨ j = 4 ∨ j = 5 by omega) with rfl | rfl | rfl | rfl | rfl | rfl <;> rfl)).trans (am_up_ne2 (by omega))
      have k91 : ∀ a b, a < 6 → (am_wp uTc (am_up I 71 7 (sp_fav S)) Q132) (91 + a) b = Q132 (91 + a) b := fun a b ha => am_wp_in (by rcases (show a = 0 ∨ a = 1 ∨ a = 2 ∨ a = 3 ∨ a = 4 ∨ a = 5 by omega) with rfl | rfl | rfl | rfl | rfl | rfl <;> rfl)
      have hv0 : c_voi (am_wp uTc (am_up I 71 7 (sp_fav S)) Q132) (sp_vl S 0) 0 := c_voi_0 t1 (fun a b ha hb => (k91 a b ha).trans (t2 a b ha hb)) t3
      have hvn : ∀ n, c_voi (am_wp uTc (am_up I 71 7 (sp_fav S)) Q132) (sp_vl S 0) n := by
        intro n
        induction n with
        | zero => exact hv0
        | succ n ih => exact c_voi_n ih (by (show sp_says S n = []); unfold sp_says; rw [if_pos (by omega)])
      exact ⟨_, am_r_wp uC (am_k_wp (uTc_uC) (am_k_up rfl (am_k_id))), ⟨h3, hob, fun m hm => am_rowl_cg (hOm m (by omega)) (fun i _ => k74 m _ (by omega))⟩, hvn _⟩
  · show am_E _ _ _ 22 [(2, .inl (m : Int)), (0, .inr (.inr (.inl (some 71))))] [] (am_mm D I J ρ) _
    refine am_e_ss 5 (q := (31, [(2, .inl (m : Int)), (0, .inr (.inr (.inl (some 71))))], [.inl (m : Int), .inr (.inr (.inl (some 19))), .inr (.inr (.inl (some 71)))], (am_mm D I J ρ))) rfl ?_
    refine am_e_aaload (m := 6) (c := 23) rfl rfl (by decide) (by omega) (by omega) (by omega) ?_
    rw [show ((am_mm D I J ρ)).2.2.2 19 ((m : Int)).toNat = some (20 + m) from (am_r19 (ρ := ρ) (by omega))]
    show am_E _ _ _ 32 [(2, .inl (m : Int)), (0, .inr (.inr (.inl (some 71))))] [.inr (.inr (.inl (some (20 + m)))), .inr (.inr (.inl (some 71)))] (am_mm D I J ρ) _
    refine am_e_ss 3 (q := (37, [(2, .inl (m : Int)), (0, .inr (.inr (.inl (some 71))))], [.inl (m : Int), .inr (.inr (.inl (some 73))), .inr (.inr (.inl (some (20 + m)))), .inr (.inr (.inl (some 71)))], (am_mm D I J ρ))) rfl ?_
    refine am_e_aaload (m := 6) (c := 23) rfl rfl (by decide) (by omega) (by omega) (by omega) ?_
    rw [show ((am_mm D I J ρ)).2.2.2 73 ((m : Int)).toNat = some (74 + m) from (am_r73 (ρ := ρ) (by omega))]
    show am_E _ _ _ 38 [(2, .inl (m : Int)), (0, .inr (.inr (.inl (some 71))))] [.inr (.inr (.inl (some (74 + m)))), .inr (.inr (.inl (some (20 + m)))), .inr (.inr (.inl (some 71)))] (am_mm D I J ρ) _
    refine am_e_virtual (Q := fun r => ∃ Q133, r = (none, (am_mm D (am_wp uR I Q133) J ρ)) ∧ am_rowl (Q133 (74 + m)) 0 (sp_isrt (fun b => sp_like S m b) (sp_ob S)) ∧ ∀ j, j ≠ m → ∀ i, Q133 (74 + j) i = I (74 + j) i) rfl rfl (Nat.le_of_ble_eq_true rfl) rfl rfl (Nat.le_of_ble_eq_true rfl) (Nat.le_of_ble_eq_true rfl) (c_sortM _ (m := m) (l := fun b => sp_like S m b) (L := sp_ob S) (by omega) hob (h3.trans sp_ob_len.symm) (by omega) hob6 (fun x hx => ⟨hlk m x (by omega) (sp_ob_mem.mp hx).1, hlb (by omega) x hx⟩)) ?_
    rintro r ⟨Q133, rfl, ⟨y1, y2⟩⟩
    show am_E _ _ _ 41 [(2, .inl (m : Int)), (0, .inr (.inr (.inl (some 71))))] [] (am_mm D (am_wp uR I Q133) J ρ) _
    refine am_e_ss 2 (q := (11, [(2, .inl ((m : Int) + 1)), (0, .inr (.inr (.inl (some 71))))], [], (am_mm D (am_wp uR I Q133) J ρ))) rfl ?_
    have k74 : ∀ j i, j < 6 → (am_wp uR I Q133) (74 + j) i = Q133 (74 + j) i := fun j i hj => am_wp_in (by rcases (show j = 0 ∨ j = 1 ∨ j = 2 ∨ j = 3 ∨ j = 4 ∨ j = 5 by omega) with rfl | rfl | rfl | rfl | rfl | rfl <;> rfl)
    have k20 : ∀ j i, j < 6 → (am_wp uR I Q133) (20 + j) i = I (20 + j) i := fun j i hj => am_wp_off (by rcases (show j = 0 ∨ j = 1 ∨ j = 2 ∨ j = 3 ∨ j = 4 ∨ j = 5 by omega) with rfl | rfl | rfl | rfl | rfl | rfl <;> rfl)
    have hvh2 : c_vh D (am_wp uR I Q133) ρ 2 S := ⟨h12, h14, hr0, hhr, hhd, fun m b hm hb => (k20 m b (by omega)).trans (hlk m b hm hb), c_mems_cg hmem (am_k_wp (uR_tlo) (am_k_id))⟩
    have hOm2 : ∀ j, j < m + 1 → am_rowl ((am_wp uR I Q133) (74 + j)) 0 (sp_ord S j) := by
      intro j hj
      by_cases e : j = m
      · subst e
        unfold sp_ord
        rw [sp_isrt_ord]
        exact am_rowl_cg y1 (fun i _ => k74 j _ (by omega))
      · exact am_rowl_cg (hOm j (by omega)) (fun i _ => (k74 j _ (by omega)).trans (y2 j e _))
    refine (am_less (lv := [(2, .inl ((m + 1) : Int)), (0, .inr (.inr (.inl (some 71))))]) rfl (List.forall_mem_cons.mpr ⟨rfl, List.forall_mem_cons.mpr ⟨rfl, List.forall_mem_nil _⟩⟩) (c_collA_2 (I := am_wp uR I Q133) d (m := m + 1) hok h71 hvh2 hwf (by omega) h3 hob hOm2)).imp ?_
    rintro q ⟨Q9, rfl, h9⟩
    exact ⟨Q9, am_r_wk uC (am_k_wp (uR_uC) (am_k_id)), h9⟩
termination_by 7 - m
decreasing_by all_goals omega
theorem c_coll0_2 {X : Nat × (Nat → Int)} {D : List (Nat × Nat)} {I J : Nat → Nat → Int} {ρ : Nat → Nat → Option Nat} (d : Nat) {S : Nat → Int} {B : Int} (hok : r_ok S B) (h71 : ρ 71 1 = some 2) (hvh : c_vh D I ρ 2 S) (hwf : sp_wfS S) : am_E X (d + 4) 65 5 [(0, .inr (.inr (.inl (some 71))))] [] (am_mm D I J ρ) (fun q => ∃ Q, q = (none, am_mm D (am_wp uC I Q) J ρ) ∧ c_ords Q S ∧ c_voi Q (sp_vl S 0) (S 19).toNat) := by
  obtain ⟨h12, h14, hr0, hhr, hhd, hlk, hmem⟩ := hvh
  have hvh : c_vh D I ρ 2 S := ⟨h12, h14, hr0, hhr, hhd, hlk, hmem⟩
  have h19 := r_ok_19 hok
  refine am_e_ss 1 (q := (6, [(0, .inr (.inr (.inl (some 71))))], [.inr (.inr (.inl (some 71)))], (am_mm D I J ρ))) rfl ?_
  refine am_e_virtual (Q := fun r => ∃ Q134, r = (none, (am_mm D (am_wp uO I Q134) J ρ)) ∧ Q134 71 3 = sp_ops S ∧ am_rowl (Q134 72) 0 (sp_ob S)) rfl rfl (Nat.le_of_ble_eq_true rfl) rfl rfl (Nat.le_of_ble_eq_true rfl) (Nat.le_of_ble_eq_true rfl) (c_listOpen_2 _ hok h71 h14 hhd) ?_
  rintro r ⟨Q134, rfl, ⟨h3, hob⟩⟩
  show am_E _ _ _ 9 [(0, .inr (.inr (.inl (some 71))))] [] (am_mm D (am_wp uO I Q134) J ρ) _
  refine am_e_ss 2 (q := (11, [(2, .inl 0), (0, .inr (.inr (.inl (some 71))))], [], (am_mm D (am_wp uO I Q134) J ρ))) rfl ?_
  have k20 : ∀ j i, j < 6 → (am_wp uO I Q134) (20 + j) i = I (20 + j) i := fun j i hj => am_wp_off (by rcases (show j = 0 ∨ j = 1 ∨ j = 2 ∨ j = 3 ∨ j = 4 ∨ j = 5 by omega) with rfl | rfl | rfl | rfl | rfl | rfl <;> rfl)
  have hvh2 : c_vh D (am_wp uO I Q134) ρ 2 S := ⟨h12, h14, hr0, hhr, hhd, fun m b hm hb => (k20 m b (by omega)).trans (hlk m b hm hb), c_mems_cg hmem (am_k_wp (uO_tlo) (am_k_id))⟩
  refine (am_less (lv := [(2, .inl (0 : Int)), (0, .inr (.inr (.inl (some 71))))]) rfl (List.forall_mem_cons.mpr ⟨rfl, List.forall_mem_cons.mpr ⟨rfl, List.forall_mem_nil _⟩⟩) (c_collA_2 (I := am_wp uO I Q134) d (m := 0) hok h71 hvh2 hwf (by omega) h3 hob (fun j hj => by omega))).imp ?_
  rintro q ⟨Q9, rfl, h9⟩
  exact ⟨Q9, am_r_wk uC (am_k_wp (uO_uC) (am_k_id)), h9⟩
theorem c_collect_2 {X : Nat × (Nat → Int)} {D : List (Nat × Nat)} {I J : Nat → Nat → Int} {ρ : Nat → Nat → Option Nat} (d : Nat) {S : Nat → Int} {B : Int} (hok : r_ok S B) (hvh : c_vh D I ρ 2 S) (hwf : sp_wfS S) : am_E X (d + 4) 65 0 [(0, .inr (.inr (.inl (some 71)))), (1, .inr (.inr (.inl (some 2))))] [] (am_mm D I J ρ) (fun q => ∃ Q, q = (none, am_mm D (am_wp uC I Q) J (am_up ρ 71 1 (some 2))) ∧ c_ords Q S ∧ c_voi Q (sp_vl S 0) (S 19).toNat) := by
  have hvh2 : c_vh D I (am_up ρ 71 1 (some 2)) 2 S := by
    obtain ⟨h1, h2, h3, h4, h5, h6, h7⟩ := hvh
    refine ⟨h1, h2, h3, h4, h5, h6, ?_⟩
    intro m hm
    obtain ⟨k, g1, g2⟩ := h7 m hm
    exact ⟨k, (if_neg (by omega)).trans g1, g2⟩
  refine am_e_ss 2 (q := (2, [(0, .inr (.inr (.inl (some 71)))), (1, .inr (.inr (.inl (some 2))))], [.inr (.inr (.inl (some 2))), .inr (.inr (.inl (some 71)))], (am_mm D I J ρ))) rfl ?_
  refine am_e_putR (c := 10) (m := 14) (f := 1) rfl rfl rfl (by decide) (by decide) rfl rfl ?_
  show am_E _ _ _ 5 [(0, .inr (.inr (.inl (some 71)))), (1, .inr (.inr (.inl (some 2))))] [] (am_mm D I J (am_up ρ 71 1 (some 2))) _
  exact am_less (lv := [(0, .inr (.inr (.inl (some 71))))]) rfl (List.forall_mem_cons.mpr ⟨rfl, List.forall_mem_nil _⟩) (c_coll0_2 d hok (if_pos ⟨rfl, rfl⟩) hvh2 hwf)
theorem c_coll2_69 {X : Nat × (Nat → Int)} {D : List (Nat × Nat)} {I J : Nat → Nat → Int} {ρ : Nat → Nat → Option Nat} (d : Nat) {S : Nat → Int} {B : Int} (hok : r_ok S B) (h71 : ρ 71 1 = some 69) (hvh : c_vh D I ρ 69 S) (hord : c_ords I S) (hfav : I 71 7 = sp_fav S) (ho : ¬ sp_ops S = 0) {m : Nat} (hm : (m : Int) ≤ S 19) (hv : c_voi I (sp_vl S 0) m) : am_E X (d + 4) 65 69 [(2, .inl (m : Int)), (0, .inr (.inr (.inl (some 71))))] [] (am_mm D I J ρ) (fun q => ∃ Q, q = (none, am_mm D (am_wp uV I Q) J ρ) ∧ c_voi Q (sp_vl S 0) (S 19).toNat) := by
  obtain ⟨h12, h14, hr0, hhr, hhd, hlk, hmem⟩ := hvh
  have hvh : c_vh D I ρ 69 S := ⟨h12, h14, hr0, hhr, hhd, hlk, hmem⟩
  have h19 := r_ok_19 hok
  have hord0 := hord
  obtain ⟨h3, hob, hO⟩ := hord
  have hord := hord0
  have ob := sp_ops_b hok
  refine am_e_ss 4 (q := (77, [(2, .inl (m : Int)), (0, .inr (.inr (.inl (some 71))))], [.inl ((I 1 2)), .inl (m : Int)], (am_mm D I J ρ))) rfl ?_
  refine am_e_icmp2 rfl ⟨by omega, by omega⟩ ⟨by omega, by omega⟩ (fun (hw1 : (I 1 2) ≤ (m : Int)) => ?_) (fun (hw1 : ¬ ((I 1 2) ≤ (m : Int))) => ?_)
  · show am_E _ _ _ 143 [(2, .inl (m : Int)), (0, .inr (.inr (.inl (some 71))))] [] (am_mm D I J ρ) _
    refine am_e_return rfl rfl ?_
    have em : m = (S 19).toNat := by omega
    subst em
    exact ⟨I, am_r_wp uV am_k_id, hv⟩
  · show am_E _ _ _ 80 [(2, .inl (m : Int)), (0, .inr (.inr (.inl (some 71))))] [] (am_mm D I J ρ) _
    refine am_e_ss 1 (q := (81, [(2, .inl (m : Int)), (0, .inr (.inr (.inl (some 71))))], [.inr (.inr (.inl (some 71)))], (am_mm D I J ρ))) rfl ?_
    refine am_e_getR (c := 10) (m := 14) (f := 1) (w := 69) rfl rfl rfl (by decide) (by decide) rfl rfl h71 ?_
    show am_E _ _ _ 84 [(2, .inl (m : Int)), (0, .inr (.inr (.inl (some 71))))] [.inr (.inr (.inl (some 69)))] (am_mm D I J ρ) _
    refine am_e_ss 1 (q := (85, [(2, .inl (m : Int)), (0, .inr (.inr (.inl (some 71))))], [.inl (m : Int), .inr (.inr (.inl (some 69)))], (am_mm D I J ρ))) rfl ?_
    refine am_e_virtual (Q := fun r => r = (some (.inl ((am_bi (sp_hp S m = true)))), (am_mm D I J ρ))) rfl rfl (Nat.le_of_ble_eq_true rfl) rfl rfl (Nat.le_of_ble_eq_true rfl) (Nat.le_of_ble_eq_true rfl) (c_isHere_69 _ (p := sp_hp S) hhr (by omega)) ?_
    rintro r rfl
    show am_E _ _ _ 88 [(2, .inl (m : Int)), (0, .inr (.inr (.inl (some 71))))] [.inl ((am_bi (sp_hp S m = true)))] (am_mm D I J ρ) _
    refine am_e_ifeq rfl (fun hw2 => ?_) (fun hw2 => ?_)
    · show am_E _ _ _ 137 [(2, .inl (m : Int)), (0, .inr (.inr (.inl (some 71))))] [] (am_mm D I J ρ) _
      refine am_e_ss 2 (q := (69, [(2, .inl ((m : Int) + 1)), (0, .inr (.inr (.inl (some 71))))], [], (am_mm D I J ρ))) rfl ?_
      have hsn : sp_vl S 0 m = [] := by
        refine sp_says_n ?_
        exact Or.inl (fun h => absurd (sp_hp_t.mpr ⟨by omega, h⟩) (by assumption))
      refine (am_less (lv := [(2, .inl ((m + 1) : Int)), (0, .inr (.inr (.inl (some 71))))]) rfl (List.forall_mem_cons.mpr ⟨rfl, List.forall_mem_cons.mpr ⟨rfl, List.forall_mem_nil _⟩⟩) (c_coll2_69 (I := I) d (m := m + 1) hok h71 hvh hord hfav ho (by omega) (c_voi_n hv hsn))).imp ?_
      rintro q ⟨Q9, rfl, h9⟩
      exact ⟨Q9, am_r_wk uV (am_k_id), h9⟩
    · show am_E _ _ _ 91 [(2, .inl (m : Int)), (0, .inr (.inr (.inl (some 71))))] [] (am_mm D I J ρ) _
      obtain ⟨k, hρk, hk124, hsk, hk0, hk1, hk2⟩ := hmem m (by omega)
      obtain ⟨oKm, oVm, o00⟩ : (0 ≤ S (26 + m) ∧ S (26 + m) ≤ 6) ∧ (0 ≤ S (32 + m) ∧ S (32 + m) ≤ 9) ∧ (0 ≤ S 0 ∧ S 0 ≤ 200) := by
        obtain ⟨o0, oG, oH, oD, o19, o20, o21, o22, o23, o24, oK, oV, _⟩ := hok
        exact ⟨oK m (by omega), oV m (by omega), o0⟩
      have hh : S (7 + m) = 0 := (sp_hp_t.mp (by assumption)).2
      refine am_e_ss 4 (q := (99, [(2, .inl (m : Int)), (0, .inr (.inr (.inl (some 71))))], [.inl (m : Int), .inr (.inr (.inl (some 4)))], (am_mm D I J ρ))) rfl ?_
      refine am_e_aaload (m := 6) (c := 24) rfl rfl (by decide) (by omega) (by omega) (by omega) ?_
      rw [show ((am_mm D I J ρ)).2.2.2 4 ((m : Int)).toNat = some k from (show am_Rf ρ 4 m = some k from hρk)]
      show am_E _ _ _ 100 [(2, .inl (m : Int)), (0, .inr (.inr (.inl (some 71))))] [.inr (.inr (.inl (some k)))] (am_mm D I J ρ) _
      refine am_e_ss 1 (q := (101, [(2, .inl (m : Int)), (0, .inr (.inr (.inl (some 71))))], [.inr (.inr (.inl (some 71))), .inr (.inr (.inl (some k)))], (am_mm D I J ρ))) rfl ?_
      refine am_e_getR (c := 10) (m := 14) (f := 1) (w := 69) rfl rfl rfl (by decide) (by decide) rfl rfl h71 ?_
      show am_E _ _ _ 104 [(2, .inl (m : Int)), (0, .inr (.inr (.inl (some 71))))] [.inr (.inr (.inl (some 69))), .inr (.inr (.inl (some k)))] (am_mm D I J ρ) _
      refine am_e_ss 1 (q := (107, [(2, .inl (m : Int)), (0, .inr (.inr (.inl (some 71))))], [.inl ((I 69 0)), .inr (.inr (.inl (some k)))], (am_mm D I J ρ))) rfl ?_
      refine am_e_vm (K := (S (26 + m)).toNat) (tg := (am_tg [36, 36, 36, 36, 36, 36, 3])) (N := 2) (Q := fun r => ∃ Q135, r = (some (.inl ((am_bi ((S (26 + m)).toNat = 6 ∧ (I 69 0) % (S (32 + m) + 2) = 0)))), (am_mm D I J ρ)) ∧ True) rfl rfl (Nat.le_of_ble_eq_true rfl) hsk (by omega) (by decide) (Nat.le_of_ble_eq_true rfl) (Nat.le_of_ble_eq_true rfl) (by decide) ((m_away _ (K := (S (26 + m)).toNat) (mo := (I 69 0)) (v := S (32 + m)) (by omega) hsk hk2 oVm (by omega)).imp (fun q h => ⟨I, h, True.intro⟩)) ?_
      rintro r ⟨Q135, rfl, -⟩
      show am_E _ _ _ 110 [(2, .inl (m : Int)), (0, .inr (.inr (.inl (some 71))))] [.inl ((am_bi ((S (26 + m)).toNat = 6 ∧ (I 69 0) % (S (32 + m) + 2) = 0)))] (am_mm D I J ρ) _
      refine am_e_ifne rfl (fun hw3 => ?_) (fun hw3 => ?_)
      · show am_E _ _ _ 137 [(2, .inl (m : Int)), (0, .inr (.inr (.inl (some 71))))] [] (am_mm D I J ρ) _
        refine am_e_ss 2 (q := (69, [(2, .inl ((m : Int) + 1)), (0, .inr (.inr (.inl (some 71))))], [], (am_mm D I J ρ))) rfl ?_
        have hsn : sp_vl S 0 m = [] := by
          refine sp_says_n ?_
          exact Or.inr (by rw [← hr0]; exact ⟨by omega, hw3.2⟩)
        refine (am_less (lv := [(2, .inl ((m + 1) : Int)), (0, .inr (.inr (.inl (some 71))))]) rfl (List.forall_mem_cons.mpr ⟨rfl, List.forall_mem_cons.mpr ⟨rfl, List.forall_mem_nil _⟩⟩) (c_coll2_69 (I := I) d (m := m + 1) hok h71 hvh hord hfav ho (by omega) (c_voi_n hv hsn))).imp ?_
        rintro q ⟨Q9, rfl, h9⟩
        exact ⟨Q9, am_r_wk uV (am_k_id), h9⟩
      · show am_E _ _ _ 113 [(2, .inl (m : Int)), (0, .inr (.inr (.inl (some 71))))] [] (am_mm D I J ρ) _
        have haw : ¬ (S (26 + m) = 6 ∧ S 0 % (S (32 + m) + 2) = 0) := by
          rw [← hr0]
          intro h
          exact absurd (show (S (26 + m)).toNat = 6 ∧ I 69 0 % (S (32 + m) + 2) = 0 from ⟨by omega, h.2⟩) (by assumption)
        refine am_e_ss 4 (q := (121, [(2, .inl (m : Int)), (0, .inr (.inr (.inl (some 71))))], [.inl (m : Int), .inr (.inr (.inl (some 4)))], (am_mm D I J ρ))) rfl ?_
        refine am_e_aaload (m := 6) (c := 24) rfl rfl (by decide) (by omega) (by omega) (by omega) ?_
        rw [show ((am_mm D I J ρ)).2.2.2 4 ((m : Int)).toNat = some k from (show am_Rf ρ 4 m = some k from hρk)]
        show am_E _ _ _ 122 [(2, .inl (m : Int)), (0, .inr (.inr (.inl (some 71))))] [.inr (.inr (.inl (some k)))] (am_mm D I J ρ) _
        refine am_e_ss 4 (q := (128, [(2, .inl (m : Int)), (0, .inr (.inr (.inl (some 71))))], [.inl (m : Int), .inr (.inr (.inl (some 80))), .inr (.inr (.inl (some 71))), .inr (.inr (.inl (some k)))], (am_mm D I J ρ))) rfl ?_
        refine am_e_aaload (m := 6) (c := 23) rfl rfl (by decide) (by omega) (by omega) (by omega) ?_
        rw [show ((am_mm D I J ρ)).2.2.2 80 ((m : Int)).toNat = some (81 + m) from (am_r80 (ρ := ρ) (by omega))]
        show am_E _ _ _ 129 [(2, .inl (m : Int)), (0, .inr (.inr (.inl (some 71))))] [.inr (.inr (.inl (some (81 + m)))), .inr (.inr (.inl (some 71))), .inr (.inr (.inl (some k)))] (am_mm D I J ρ) _
        refine am_e_vm (K := (S (26 + m)).toNat) (tg := (am_tg [37, 43, 37, 37, 22, 62, 37])) (N := 3) (Q := fun r => ∃ Q136, r = (none, (am_mm D (am_wp uS I Q136) J ρ)) ∧ am_rowl (Q136 (81 + m)) 0 (sp_says S m) ∧ ∀ j, j ≠ m → ∀ i, Q136 (81 + j) i = I (81 + j) i) rfl rfl (Nat.le_of_ble_eq_true rfl) hsk (by omega) (by decide) (Nat.le_of_ble_eq_true rfl) (Nat.le_of_ble_eq_true rfl) (by decide) (m_sayM_69 _ (K := (S (26 + m)).toNat) (by omega) hok hsk (by omega) hk124 hk1 hk2 h3 hO (by omega) hfav ho h71 h12 hhr hh haw) ?_
        rintro r ⟨Q136, rfl, ⟨y1, y2⟩⟩
        show am_E _ _ _ 132 [(2, .inl (m : Int)), (0, .inr (.inr (.inl (some 71))))] [] (am_mm D (am_wp uS I Q136) J ρ) _
        have hsn := sp_says_nn ho hh haw
        have hvv : sp_voice S (sp_says S m) := sp_says_voice
        obtain ⟨hnd, hlen, hmm⟩ : (sp_says S m).Nodup ∧ ((sp_says S m).length : Int) = sp_ops S ∧ ∀ x, x ∈ sp_says S m ↔ (x < (S 20).toNat ∧ S (13 + x) = 0) := by
          rcases hvv with h | h
          · exact absurd h hsn
          · exact ⟨h.1, h.2.1.1, h.2.2⟩
        have hx6 : ∀ x ∈ sp_says S m, x < 6 := fun x hx => by have := (hmm x).mp hx; omega
        have hrw : am_rowl ((am_wp uS I Q136) (81 + m)) 0 (sp_says S m) := am_rowl_cg y1 (fun i _ => am_wp_in (by rcases (show m = 0 ∨ m = 1 ∨ m = 2 ∨ m = 3 ∨ m = 4 ∨ m = 5 by omega) with rfl | rfl | rfl | rfl | rfl | rfl <;> rfl))
        refine am_e_ss 2 (q := (134, [(2, .inl (m : Int)), (0, .inr (.inr (.inl (some 71))))], [.inl (m : Int), .inr (.inr (.inl (some 71)))], (am_mm D (am_wp uS I Q136) J ρ))) rfl ?_
        refine am_e_virtual (Q := fun r => ∃ Q137, r = (none, (am_mm D (am_wp uTc (am_wp uS I Q136) Q137) J ρ)) ∧ Q137 71 6 = am_bits (fun x => sp_spk (sp_vl S 0) m x || x == m) 6 ∧ c_talQ (am_wp uS I Q136) Q137 1 (sp_says S m)) rfl rfl (Nat.le_of_ble_eq_true rfl) rfl rfl (Nat.le_of_ble_eq_true rfl) (Nat.le_of_ble_eq_true rfl) (c_hear _ (m := m) (p := sp_spk (sp_vl S 0) m) (L := sp_says S m) (by omega) hv.1 (h3.trans hlen.symm) (by omega) hnd hx6 hrw) ?_
        rintro r ⟨Q137, rfl, ⟨z1, z2⟩⟩
        show am_E _ _ _ 137 [(2, .inl (m : Int)), (0, .inr (.inr (.inl (some 71))))] [] (am_mm D (am_wp uTc (am_wp uS I Q136) Q137) J ρ) _
        refine am_e_ss 2 (q := (69, [(2, .inl ((m : Int) + 1)), (0, .inr (.inr (.inl (some 71))))], [], (am_mm D (am_wp uTc (am_wp uS I Q136) Q137) J ρ))) rfl ?_
        have k81 : ∀ j i, j < 6 → (am_wp uTc (am_wp uS I Q136) Q137) (81 + j) i = Q136 (81 + j) i := fun j i hj => (am_wp_off (by rcases (show j = 0 ∨ j = 1 ∨ j = 2 ∨ j = 3 ∨ j = 4 ∨ j = 5 by omega) with rfl | rfl | rfl | rfl | rfl | rfl <;> rfl)).trans (am_wp_in (by rcases (show j = 0 ∨ j = 1 ∨ j = 2 ∨ j = 3 ∨ j = 4 ∨ j = 5 by omega) with rfl | rfl | rfl | rfl | rfl | rfl <;> rfl))
        have k91 : ∀ a b, a < 6 → (am_wp uTc (am_wp uS I Q136) Q137) (91 + a) b = Q137 (91 + a) b := fun a b ha => am_wp_in (by rcases (show a = 0 ∨ a = 1 ∨ a = 2 ∨ a = 3 ∨ a = 4 ∨ a = 5 by omega) with rfl | rfl | rfl | rfl | rfl | rfl <;> rfl)
        have k74 : ∀ j i, j < 6 → (am_wp uTc (am_wp uS I Q136) Q137) (74 + j) i = I (74 + j) i := fun j i hj => (am_wp_off (by rcases (show j = 0 ∨ j = 1 ∨ j = 2 ∨ j = 3 ∨ j = 4 ∨ j = 5 by omega) with rfl | rfl | rfl | rfl | rfl | rfl <;> rfl)).trans (am_wp_off (by rcases (show j = 0 ∨ j = 1 ∨ j = 2 ∨ j = 3 ∨ j = 4 ∨ j = 5 by omega) with rfl | rfl | rfl | rfl | rfl | rfl <;> rfl))
        have k20 : ∀ j i, j < 6 → (am_wp uTc (am_wp uS I Q136) Q137) (20 + j) i = I (20 + j) i := fun j i hj => (am_wp_off (by rcases (show j = 0 ∨ j = 1 ∨ j = 2 ∨ j = 3 ∨ j = 4 ∨ j = 5 by omega) with rfl | rfl | rfl | rfl | rfl | rfl <;> rfl)).trans (am_wp_off (by rcases (show j = 0 ∨ j = 1 ∨ j = 2 ∨ j = 3 ∨ j = 4 ∨ j = 5 by omega) with rfl | rfl | rfl | rfl | rfl | rfl <;> rfl))
        have hv2 : c_voi (am_wp uTc (am_wp uS I Q136) Q137) (sp_vl S 0) (m + 1) := by
          refine c_voi_s (E := am_wp uS I Q136) hv hsn (am_rowl_cg y1 (fun i _ => k81 m _ (by omega))) (fun j hj i => (k81 j i (by omega)).trans (y2 j (by omega) i)) z1 ⟨fun b => ⟨rfl, rfl, rfl⟩, fun a b ha => am_wp_off (by rcases (show a = 0 ∨ a = 1 ∨ a = 2 ∨ a = 3 ∨ a = 4 ∨ a = 5 by omega) with rfl | rfl | rfl | rfl | rfl | rfl <;> rfl)⟩ ⟨z2.1, fun a b ha hb => (k91 a b ha).trans (z2.2 a b ha hb)⟩
        have hvh2 : c_vh D (am_wp uTc (am_wp uS I Q136) Q137) ρ 69 S := ⟨h12, h14, hr0, hhr, hhd, fun m b hm hb => (k20 m b (by omega)).trans (hlk m b hm hb), c_mems_cg hmem (am_k_wp (uTc_tlo) (am_k_wp (uS_tlo) (am_k_id)))⟩
        have hord2 : c_ords (am_wp uTc (am_wp uS I Q136) Q137) S := ⟨h3, hob, fun m hm => am_rowl_cg (hO m hm) (fun i _ => k74 m _ (by omega))⟩
        refine (am_less (lv := [(2, .inl ((m + 1) : Int)), (0, .inr (.inr (.inl (some 71))))]) rfl (List.forall_mem_cons.mpr ⟨rfl, List.forall_mem_cons.mpr ⟨rfl, List.forall_mem_nil _⟩⟩) (c_coll2_69 (I := am_wp uTc (am_wp uS I Q136) Q137) d (m := m + 1) hok h71 hvh2 hord2 hfav ho (by omega) hv2)).imp ?_
        rintro q ⟨Q9, rfl, h9⟩
        exact ⟨Q9, am_r_wk uV (am_k_wp (uTc_uV) (am_k_wp (uS_uV) (am_k_id))), h9⟩
termination_by 7 - m
decreasing_by all_goals omega
theorem c_true_69 {X : Nat × (Nat → Int)} {D : List (Nat × Nat)} {I J : Nat → Nat → Int} {ρ : Nat → Nat → Option Nat} (d : Nat) {S : Nat → Int} {B : Int} (hok : r_ok S B) (h71 : ρ 71 1 = some 69) (hvh : c_vh D I ρ 69 S) (hord : c_ords I S) {m : Nat} (hm : (m : Int) ≤ S 19) (ho : ¬ sp_ops S = 0) (hv : c_voi I (sp_vl S 1) m) : am_E X (d + 2) 66 6 [(1, .inl (m : Int)), (0, .inr (.inr (.inl (some 71))))] [] (am_mm D I J ρ) (fun q => ∃ Q, q = (none, am_mm D (am_wp uV I Q) J ρ) ∧ c_voi Q (sp_vl S 1) (S 19).toNat) := by
  obtain ⟨h12, h14, hr0, hhr, hhd, hlk, hmem⟩ := hvh
  have hvh : c_vh D I ρ 69 S := ⟨h12, h14, hr0, hhr, hhd, hlk, hmem⟩
  have h19 := r_ok_19 hok
  have hord0 := hord
  obtain ⟨h3, hob, hO⟩ := hord
  have hord := hord0
  have ob := sp_ops_b hok
  have hlen := sp_ord_len (S := S) (m := m)
  have hx6 : ∀ x ∈ sp_ord S m, x < 6 := fun x hx => by have := sp_ord_mem.mp hx; omega
  refine am_e_ss 4 (q := (14, [(1, .inl (m : Int)), (0, .inr (.inr (.inl (some 71))))], [.inl ((I 1 2)), .inl (m : Int)], (am_mm D I J ρ))) rfl ?_
  refine am_e_icmp2 rfl ⟨by omega, by omega⟩ ⟨by omega, by omega⟩ (fun (hw1 : (I 1 2) ≤ (m : Int)) => ?_) (fun (hw1 : ¬ ((I 1 2) ≤ (m : Int))) => ?_)
  · show am_E _ _ _ 50 [(1, .inl (m : Int)), (0, .inr (.inr (.inl (some 71))))] [] (am_mm D I J ρ) _
    refine am_e_return rfl rfl ?_
    have em : m = (S 19).toNat := by omega
    subst em
    exact ⟨I, am_r_wp uV am_k_id, hv⟩
  · show am_E _ _ _ 17 [(1, .inl (m : Int)), (0, .inr (.inr (.inl (some 71))))] [] (am_mm D I J ρ) _
    refine am_e_ss 1 (q := (18, [(1, .inl (m : Int)), (0, .inr (.inr (.inl (some 71))))], [.inr (.inr (.inl (some 71)))], (am_mm D I J ρ))) rfl ?_
    refine am_e_getR (c := 10) (m := 14) (f := 1) (w := 69) rfl rfl rfl (by decide) (by decide) rfl rfl h71 ?_
    show am_E _ _ _ 21 [(1, .inl (m : Int)), (0, .inr (.inr (.inl (some 71))))] [.inr (.inr (.inl (some 69)))] (am_mm D I J ρ) _
    refine am_e_ss 1 (q := (22, [(1, .inl (m : Int)), (0, .inr (.inr (.inl (some 71))))], [.inl (m : Int), .inr (.inr (.inl (some 69)))], (am_mm D I J ρ))) rfl ?_
    refine am_e_virtual (Q := fun r => r = (some (.inl ((am_bi (sp_hp S m = true)))), (am_mm D I J ρ))) rfl rfl (Nat.le_of_ble_eq_true rfl) rfl rfl (Nat.le_of_ble_eq_true rfl) (Nat.le_of_ble_eq_true rfl) (c_isHere_69 _ (p := sp_hp S) hhr (by omega)) ?_
    rintro r rfl
    show am_E _ _ _ 25 [(1, .inl (m : Int)), (0, .inr (.inr (.inl (some 71))))] [.inl ((am_bi (sp_hp S m = true)))] (am_mm D I J ρ) _
    refine am_e_ifeq rfl (fun hw2 => ?_) (fun hw2 => ?_)
    · show am_E _ _ _ 44 [(1, .inl (m : Int)), (0, .inr (.inr (.inl (some 71))))] [] (am_mm D I J ρ) _
      refine am_e_ss 2 (q := (6, [(1, .inl ((m : Int) + 1)), (0, .inr (.inr (.inl (some 71))))], [], (am_mm D I J ρ))) rfl ?_
      have hsn : sp_vl S 1 m = [] := by
        unfold sp_vl
        rw [if_neg (by omega), if_neg (fun h => absurd (sp_hp_t.mpr ⟨by omega, h⟩) (by assumption))]
      refine (am_less (lv := [(1, .inl ((m + 1) : Int)), (0, .inr (.inr (.inl (some 71))))]) rfl (List.forall_mem_cons.mpr ⟨rfl, List.forall_mem_cons.mpr ⟨rfl, List.forall_mem_nil _⟩⟩) (c_true_69 (I := I) d (m := m + 1) hok h71 hvh hord (by omega) ho (c_voi_n hv hsn))).imp ?_
      rintro q ⟨Q9, rfl, h9⟩
      exact ⟨Q9, am_r_wk uV (am_k_id), h9⟩
    · show am_E _ _ _ 28 [(1, .inl (m : Int)), (0, .inr (.inr (.inl (some 71))))] [] (am_mm D I J ρ) _
      have hh : S (7 + m) = 0 := (sp_hp_t.mp (by assumption)).2
      refine am_e_ss 5 (q := (35, [(1, .inl (m : Int)), (0, .inr (.inr (.inl (some 71))))], [.inl (m : Int), .inr (.inr (.inl (some 80))), .inl (m : Int), .inr (.inr (.inl (some 71)))], (am_mm D I J ρ))) rfl ?_
      refine am_e_aaload (m := 6) (c := 23) rfl rfl (by decide) (by omega) (by omega) (by omega) ?_
      rw [show ((am_mm D I J ρ)).2.2.2 80 ((m : Int)).toNat = some (81 + m) from (am_r80 (ρ := ρ) (by omega))]
      show am_E _ _ _ 36 [(1, .inl (m : Int)), (0, .inr (.inr (.inl (some 71))))] [.inr (.inr (.inl (some (81 + m)))), .inl (m : Int), .inr (.inr (.inl (some 71)))] (am_mm D I J ρ) _
      refine am_e_virtual (Q := fun r => r = (none, (am_mm D (am_cpg I (81 + m) 0 (74 + m) 0 6) J ρ))) rfl rfl (Nat.le_of_ble_eq_true rfl) rfl rfl (Nat.le_of_ble_eq_true rfl) (Nat.le_of_ble_eq_true rfl) (c_putOrder _ (a := m) (b := m) (by omega) (by omega)) ?_
      rintro r rfl
      show am_E _ _ _ 39 [(1, .inl (m : Int)), (0, .inr (.inr (.inl (some 71))))] [] (am_mm D (am_cpg I (81 + m) 0 (74 + m) 0 6) J ρ) _
      refine am_e_ss 2 (q := (41, [(1, .inl (m : Int)), (0, .inr (.inr (.inl (some 71))))], [.inl (m : Int), .inr (.inr (.inl (some 71)))], (am_mm D (am_cpg I (81 + m) 0 (74 + m) 0 6) J ρ))) rfl ?_
      refine am_e_virtual (Q := fun r => ∃ Q138, r = (none, (am_mm D (am_wp uTc (am_cpg I (81 + m) 0 (74 + m) 0 6) Q138) J ρ)) ∧ Q138 71 6 = am_bits (fun x => sp_spk (sp_vl S 1) m x || x == m) 6 ∧ c_talQ (am_cpg I (81 + m) 0 (74 + m) 0 6) Q138 1 (sp_ord S m)) rfl rfl (Nat.le_of_ble_eq_true rfl) rfl rfl (Nat.le_of_ble_eq_true rfl) (Nat.le_of_ble_eq_true rfl) (c_hear _ (m := m) (p := sp_spk (sp_vl S 1) m) (L := sp_ord S m) (by omega) (show (am_cpg I (81 + m) 0 (74 + m) 0 6) 71 6 = _ from (if_neg (by omega)).trans hv.1) (show (am_cpg I (81 + m) 0 (74 + m) 0 6) 71 3 = _ from (if_neg (by omega)).trans (h3.trans hlen.symm)) (by omega) sp_ord_nd hx6 (am_rowl_cpg (hO m (by omega)) (by omega))) ?_
      rintro r ⟨Q138, rfl, ⟨z1, z2⟩⟩
      show am_E _ _ _ 44 [(1, .inl (m : Int)), (0, .inr (.inr (.inl (some 71))))] [] (am_mm D (am_wp uTc (am_cpg I (81 + m) 0 (74 + m) 0 6) Q138) J ρ) _
      refine am_e_ss 2 (q := (6, [(1, .inl ((m : Int) + 1)), (0, .inr (.inr (.inl (some 71))))], [], (am_mm D (am_wp uTc (am_cpg I (81 + m) 0 (74 + m) 0 6) Q138) J ρ))) rfl ?_
      have hvl : sp_vl S 1 m = sp_ord S m := by
        unfold sp_vl
        rw [if_neg (by omega), if_pos hh]
      have kc : ∀ c i, c ≠ 81 + m → (am_cpg I (81 + m) 0 (74 + m) 0 6) c i = I c i := fun c i hc => if_neg (by omega)
      have k81 : ∀ j i, j < 6 → (am_wp uTc (am_cpg I (81 + m) 0 (74 + m) 0 6) Q138) (81 + j) i = (am_cpg I (81 + m) 0 (74 + m) 0 6) (81 + j) i := fun j i hj => am_wp_off (by rcases (show j = 0 ∨ j = 1 ∨ j = 2 ∨ j = 3 ∨ j = 4 ∨ j = 5 by omega) with rfl | rfl | rfl | rfl | rfl | rfl <;> rfl)
      have k91 : ∀ a b, a < 6 → (am_wp uTc (am_cpg I (81 + m) 0 (74 + m) 0 6) Q138) (91 + a) b = Q138 (91 + a) b := fun a b ha => am_wp_in (by rcases (show a = 0 ∨ a = 1 ∨ a = 2 ∨ a = 3 ∨ a = 4 ∨ a = 5 by omega) with rfl | rfl | rfl | rfl | rfl | rfl <;> rfl)
      have k74 : ∀ j i, j < 6 → (am_wp uTc (am_cpg I (81 + m) 0 (74 + m) 0 6) Q138) (74 + j) i = I (74 + j) i := fun j i hj => (am_wp_off (by rcases (show j = 0 ∨ j = 1 ∨ j = 2 ∨ j = 3 ∨ j = 4 ∨ j = 5 by omega) with rfl | rfl | rfl | rfl | rfl | rfl <;> rfl)).trans (kc _ _ (by omega))
      have k20 : ∀ j i, j < 6 → (am_wp uTc (am_cpg I (81 + m) 0 (74 + m) 0 6) Q138) (20 + j) i = I (20 + j) i := fun j i hj => (am_wp_off (by rcases (show j = 0 ∨ j = 1 ∨ j = 2 ∨ j = 3 ∨ j = 4 ∨ j = 5 by omega) with rfl | rfl | rfl | rfl | rfl | rfl <;> rfl)).trans (kc _ _ (by omega))
      have hlo : ∀ c i, c = 1 ∨ c = 2 ∨ c = 69 ∨ c = 72 → (am_wp uTc (am_cpg I (81 + m) 0 (74 + m) 0 6) Q138) c i = I c i := fun c i hc => (am_wp_off (by rcases hc with rfl | rfl | rfl | rfl <;> rfl)).trans (kc _ _ (by omega))
      have h713 : (am_wp uTc (am_cpg I (81 + m) 0 (74 + m) 0 6) Q138) 71 3 = I 71 3 := (am_wp_off rfl).trans (kc _ _ (by omega))
      have hne : ¬ sp_vl S 1 m = [] := by
        rw [hvl]
        intro e
        rw [e] at hlen
        exact ho hlen.symm
      rw [← hvl] at z2
      have hv2 : c_voi (am_wp uTc (am_cpg I (81 + m) 0 (74 + m) 0 6) Q138) (sp_vl S 1) (m + 1) := by
        refine c_voi_s (E := am_cpg I (81 + m) 0 (74 + m) 0 6) hv hne ?_ (fun j hj i => (k81 j i (by omega)).trans (kc _ _ (by omega))) z1 ⟨fun b => ⟨kc _ _ (by omega), kc _ _ (by omega), kc _ _ (by omega)⟩, fun a b ha => kc _ _ (by omega)⟩ ⟨z2.1, fun a b ha hb => (k91 a b ha).trans (z2.2 a b ha hb)⟩
        rw [hvl]
        exact am_rowl_cg (am_rowl_cpg (dst := 81 + m) (hO m (by omega)) (show (sp_ord S m).length ≤ 6 by omega)) (fun i _ => k81 m _ (by omega))
      have hvh2 : c_vh D (am_wp uTc (am_cpg I (81 + m) 0 (74 + m) 0 6) Q138) ρ 69 S := ⟨(hlo 1 2 (by omega)).trans h12, (hlo 1 4 (by omega)).trans h14, (hlo 69 0 (by omega)).trans hr0, (hlo 69 1 (by omega)).trans hhr, (hlo 69 2 (by omega)).trans hhd, fun m b hm hb => (k20 m b (by omega)).trans (hlk m b hm hb), c_mems_cg hmem (am_k_wp uTc_tlo (am_k_cpg (fun i => tlo_81 (by omega) i) am_k_id))⟩
      have hord2 : c_ords (am_wp uTc (am_cpg I (81 + m) 0 (74 + m) 0 6) Q138) S := ⟨h713.trans h3, am_rowl_cg hob (fun i _ => hlo 72 _ (by omega)), fun m hm => am_rowl_cg (hO m hm) (fun i _ => k74 m _ (by omega))⟩
      refine (am_less (lv := [(1, .inl ((m + 1) : Int)), (0, .inr (.inr (.inl (some 71))))]) rfl (List.forall_mem_cons.mpr ⟨rfl, List.forall_mem_cons.mpr ⟨rfl, List.forall_mem_nil _⟩⟩) (c_true_69 (I := am_wp uTc (am_cpg I (81 + m) 0 (74 + m) 0 6) Q138) d (m := m + 1) hok h71 hvh2 hord2 (by omega) ho hv2)).imp ?_
      rintro q ⟨Q9, rfl, h9⟩
      exact ⟨Q9, am_r_wk uV (am_k_wp uTc_uV (am_k_cpg (fun i => (by rcases (show m = 0 ∨ m = 1 ∨ m = 2 ∨ m = 3 ∨ m = 4 ∨ m = 5 by omega) with rfl | rfl | rfl | rfl | rfl | rfl <;> rfl)) am_k_id)), h9⟩
termination_by 7 - m
decreasing_by all_goals omega
theorem c_true0_69 {X : Nat × (Nat → Int)} {D : List (Nat × Nat)} {I J : Nat → Nat → Int} {ρ : Nat → Nat → Option Nat} (d : Nat) {S : Nat → Int} {B : Int} (hok : r_ok S B) (h71 : ρ 71 1 = some 69) (h12 : I 1 2 = S 19) (hhr : I 69 1 = am_bits (sp_hp S) 6) (h3 : I 71 3 = 0) {m : Nat} {p : Nat → Bool} (hm : (m : Int) ≤ S 19) (hp : I 71 6 = am_bits p 6) : am_E X (d + 2) 66 6 [(1, .inl (m : Int)), (0, .inr (.inr (.inl (some 71))))] [] (am_mm D I J ρ) (fun q => ∃ Q, q = (none, am_mm D (am_wp uV I Q) J ρ) ∧ True) := by
  have h19 := r_ok_19 hok
  refine am_e_ss 4 (q := (14, [(1, .inl (m : Int)), (0, .inr (.inr (.inl (some 71))))], [.inl ((I 1 2)), .inl (m : Int)], (am_mm D I J ρ))) rfl ?_
  refine am_e_icmp2 rfl ⟨by omega, by omega⟩ ⟨by omega, by omega⟩ (fun (hw1 : (I 1 2) ≤ (m : Int)) => ?_) (fun (hw1 : ¬ ((I 1 2) ≤ (m : Int))) => ?_)
  · show am_E _ _ _ 50 [(1, .inl (m : Int)), (0, .inr (.inr (.inl (some 71))))] [] (am_mm D I J ρ) _
    refine am_e_return rfl rfl ?_
    exact ⟨I, am_r_wp uV am_k_id, True.intro⟩
  · show am_E _ _ _ 17 [(1, .inl (m : Int)), (0, .inr (.inr (.inl (some 71))))] [] (am_mm D I J ρ) _
    refine am_e_ss 1 (q := (18, [(1, .inl (m : Int)), (0, .inr (.inr (.inl (some 71))))], [.inr (.inr (.inl (some 71)))], (am_mm D I J ρ))) rfl ?_
    refine am_e_getR (c := 10) (m := 14) (f := 1) (w := 69) rfl rfl rfl (by decide) (by decide) rfl rfl h71 ?_
    show am_E _ _ _ 21 [(1, .inl (m : Int)), (0, .inr (.inr (.inl (some 71))))] [.inr (.inr (.inl (some 69)))] (am_mm D I J ρ) _
    refine am_e_ss 1 (q := (22, [(1, .inl (m : Int)), (0, .inr (.inr (.inl (some 71))))], [.inl (m : Int), .inr (.inr (.inl (some 69)))], (am_mm D I J ρ))) rfl ?_
    refine am_e_virtual (Q := fun r => r = (some (.inl ((am_bi (sp_hp S m = true)))), (am_mm D I J ρ))) rfl rfl (Nat.le_of_ble_eq_true rfl) rfl rfl (Nat.le_of_ble_eq_true rfl) (Nat.le_of_ble_eq_true rfl) (c_isHere_69 _ (p := sp_hp S) hhr (by omega)) ?_
    rintro r rfl
    show am_E _ _ _ 25 [(1, .inl (m : Int)), (0, .inr (.inr (.inl (some 71))))] [.inl ((am_bi (sp_hp S m = true)))] (am_mm D I J ρ) _
    refine am_e_ifeq rfl (fun hw2 => ?_) (fun hw2 => ?_)
    · show am_E _ _ _ 44 [(1, .inl (m : Int)), (0, .inr (.inr (.inl (some 71))))] [] (am_mm D I J ρ) _
      refine am_e_ss 2 (q := (6, [(1, .inl ((m : Int) + 1)), (0, .inr (.inr (.inl (some 71))))], [], (am_mm D I J ρ))) rfl ?_
      refine (am_less (lv := [(1, .inl ((m + 1) : Int)), (0, .inr (.inr (.inl (some 71))))]) rfl (List.forall_mem_cons.mpr ⟨rfl, List.forall_mem_cons.mpr ⟨rfl, List.forall_mem_nil _⟩⟩) (c_true0_69 (I := I) d (m := m + 1) hok h71 h12 hhr h3 (by omega) hp)).imp ?_
      rintro q ⟨Q9, rfl, h9⟩
      exact ⟨Q9, am_r_wk uV (am_k_id), h9⟩
    · show am_E _ _ _ 28 [(1, .inl (m : Int)), (0, .inr (.inr (.inl (some 71))))] [] (am_mm D I J ρ) _
      refine am_e_ss 5 (q := (35, [(1, .inl (m : Int)), (0, .inr (.inr (.inl (some 71))))], [.inl (m : Int), .inr (.inr (.inl (some 80))), .inl (m : Int), .inr (.inr (.inl (some 71)))], (am_mm D I J ρ))) rfl ?_
      refine am_e_aaload (m := 6) (c := 23) rfl rfl (by decide) (by omega) (by omega) (by omega) ?_
      rw [show ((am_mm D I J ρ)).2.2.2 80 ((m : Int)).toNat = some (81 + m) from (am_r80 (ρ := ρ) (by omega))]
      show am_E _ _ _ 36 [(1, .inl (m : Int)), (0, .inr (.inr (.inl (some 71))))] [.inr (.inr (.inl (some (81 + m)))), .inl (m : Int), .inr (.inr (.inl (some 71)))] (am_mm D I J ρ) _
      refine am_e_virtual (Q := fun r => r = (none, (am_mm D (am_cpg I (81 + m) 0 (74 + m) 0 6) J ρ))) rfl rfl (Nat.le_of_ble_eq_true rfl) rfl rfl (Nat.le_of_ble_eq_true rfl) (Nat.le_of_ble_eq_true rfl) (c_putOrder _ (a := m) (b := m) (by omega) (by omega)) ?_
      rintro r rfl
      show am_E _ _ _ 39 [(1, .inl (m : Int)), (0, .inr (.inr (.inl (some 71))))] [] (am_mm D (am_cpg I (81 + m) 0 (74 + m) 0 6) J ρ) _
      refine am_e_ss 2 (q := (41, [(1, .inl (m : Int)), (0, .inr (.inr (.inl (some 71))))], [.inl (m : Int), .inr (.inr (.inl (some 71)))], (am_mm D (am_cpg I (81 + m) 0 (74 + m) 0 6) J ρ))) rfl ?_
      refine am_e_virtual (Q := fun r => ∃ Q139, r = (none, (am_mm D (am_wp uTc (am_cpg I (81 + m) 0 (74 + m) 0 6) Q139) J ρ)) ∧ Q139 71 6 = am_bits (fun x => p x || x == m) 6 ∧ c_talQ (am_cpg I (81 + m) 0 (74 + m) 0 6) Q139 1 []) rfl rfl (Nat.le_of_ble_eq_true rfl) rfl rfl (Nat.le_of_ble_eq_true rfl) (Nat.le_of_ble_eq_true rfl) (c_hear _ (m := m) (p := p) (L := []) (by omega) (show (am_cpg I (81 + m) 0 (74 + m) 0 6) 71 6 = _ from (if_neg (by omega)).trans hp) (show (am_cpg I (81 + m) 0 (74 + m) 0 6) 71 3 = _ from (if_neg (by omega)).trans h3) (by simp) List.nodup_nil (fun x hx => by simp at hx) am_rowl_nil) ?_
      rintro r ⟨Q139, rfl, ⟨z1, z2⟩⟩
      show am_E _ _ _ 44 [(1, .inl (m : Int)), (0, .inr (.inr (.inl (some 71))))] [] (am_mm D (am_wp uTc (am_cpg I (81 + m) 0 (74 + m) 0 6) Q139) J ρ) _
      refine am_e_ss 2 (q := (6, [(1, .inl ((m : Int) + 1)), (0, .inr (.inr (.inl (some 71))))], [], (am_mm D (am_wp uTc (am_cpg I (81 + m) 0 (74 + m) 0 6) Q139) J ρ))) rfl ?_
      have kc : ∀ c i, c ≠ 81 + m → (am_cpg I (81 + m) 0 (74 + m) 0 6) c i = I c i := fun c i hc => if_neg (by omega)
      have hlo : ∀ c i, c = 1 ∨ c = 2 ∨ c = 69 ∨ c = 72 → (am_wp uTc (am_cpg I (81 + m) 0 (74 + m) 0 6) Q139) c i = I c i := fun c i hc => (am_wp_off (by rcases hc with rfl | rfl | rfl | rfl <;> rfl)).trans (kc _ _ (by omega))
      have h713 : (am_wp uTc (am_cpg I (81 + m) 0 (74 + m) 0 6) Q139) 71 3 = I 71 3 := (am_wp_off rfl).trans (kc _ _ (by omega))
      refine (am_less (lv := [(1, .inl ((m + 1) : Int)), (0, .inr (.inr (.inl (some 71))))]) rfl (List.forall_mem_cons.mpr ⟨rfl, List.forall_mem_cons.mpr ⟨rfl, List.forall_mem_nil _⟩⟩) (c_true0_69 (I := am_wp uTc (am_cpg I (81 + m) 0 (74 + m) 0 6) Q139) d (m := m + 1) hok h71 ((hlo 1 2 (by omega)).trans h12) ((hlo 69 1 (by omega)).trans hhr) (h713.trans h3) (by omega) z1)).imp ?_
      rintro q ⟨Q9, rfl, h9⟩
      exact ⟨Q9, am_r_wk uV (am_k_wp uTc_uV (am_k_cpg (fun i => (by rcases (show m = 0 ∨ m = 1 ∨ m = 2 ∨ m = 3 ∨ m = 4 ∨ m = 5 by omega) with rfl | rfl | rfl | rfl | rfl | rfl <;> rfl)) am_k_id)), h9⟩
termination_by 7 - m
decreasing_by all_goals omega
theorem c_speakTrue_69 {X : Nat × (Nat → Int)} {D : List (Nat × Nat)} {I J : Nat → Nat → Int} {ρ : Nat → Nat → Option Nat} (d : Nat) {S : Nat → Int} {B : Int} (hok : r_ok S B) (h71 : ρ 71 1 = some 69) (hvh : c_vh D I ρ 69 S) (hord : c_ords I S) : am_E X (d + 2) 66 0 [(0, .inr (.inr (.inl (some 71))))] [] (am_mm D I J ρ) (fun q => ∃ Q, q = (none, am_mm D (am_wp uV I Q) J ρ) ∧ (¬ sp_ops S = 0 → c_voi Q (sp_vl S 1) (S 19).toNat)) := by
  obtain ⟨h12, h14, hr0, hhr, hhd, hlk, hmem⟩ := hvh
  have hvh : c_vh D I ρ 69 S := ⟨h12, h14, hr0, hhr, hhd, hlk, hmem⟩
  have h19 := r_ok_19 hok
  have hord0 := hord
  obtain ⟨h3, hob, hO⟩ := hord
  have hord := hord0
  have ob := sp_ops_b hok
  refine am_e_ss 1 (q := (1, [(0, .inr (.inr (.inl (some 71))))], [.inr (.inr (.inl (some 71)))], (am_mm D I J ρ))) rfl ?_
  refine am_e_virtual (Q := fun r => ∃ Q140, r = (none, (am_mm D (am_wp uTc I Q140) J ρ)) ∧ (∀ b, b < 6 → Q140 87 b = 0 ∧ Q140 88 b = 0 ∧ Q140 89 b = 0) ∧ (∀ a b, a < 6 → b < 6 → Q140 (91 + a) b = 0) ∧ Q140 71 6 = 0) rfl rfl (Nat.le_of_ble_eq_true rfl) rfl rfl (Nat.le_of_ble_eq_true rfl) (Nat.le_of_ble_eq_true rfl) (c_clear _) ?_
  rintro r ⟨Q140, rfl, ⟨t1, t2, t3⟩⟩
  show am_E _ _ _ 4 [(0, .inr (.inr (.inl (some 71))))] [] (am_mm D (am_wp uTc I Q140) J ρ) _
  refine am_e_ss 2 (q := (6, [(1, .inl 0), (0, .inr (.inr (.inl (some 71))))], [], (am_mm D (am_wp uTc I Q140) J ρ))) rfl ?_
  have k74 : ∀ j i, j < 6 → (am_wp uTc I Q140) (74 + j) i = I (74 + j) i := fun j i hj => am_wp_off (by rcases (show j = 0 ∨ j = 1 ∨ j = 2 ∨ j = 3 ∨ j = 4 ∨ j = 5 by omega) with rfl | rfl | rfl | rfl | rfl | rfl <;> rfl)
  have k20 : ∀ j i, j < 6 → (am_wp uTc I Q140) (20 + j) i = I (20 + j) i := fun j i hj => am_wp_off (by rcases (show j = 0 ∨ j = 1 ∨ j = 2 ∨ j = 3 ∨ j = 4 ∨ j = 5 by omega) with rfl | rfl | rfl | rfl | rfl | rfl <;> rfl)
  have k91 : ∀ a b, a < 6 → (am_wp uTc I Q140) (91 + a) b = Q140 (91 + a) b := fun a b ha => am_wp_in (by rcases (show a = 0 ∨ a = 1 ∨ a = 2 ∨ a = 3 ∨ a = 4 ∨ a = 5 by omega) with rfl | rfl | rfl | rfl | rfl | rfl <;> rfl)
  have hvh2 : c_vh D (am_wp uTc I Q140) ρ 69 S := ⟨h12, h14, hr0, hhr, hhd, fun m b hm hb => (k20 m b (by omega)).trans (hlk m b hm hb), c_mems_cg hmem (am_k_wp (uTc_tlo) (am_k_id))⟩
  have hord2 : c_ords (am_wp uTc I Q140) S := ⟨h3, hob, fun m hm => am_rowl_cg (hO m hm) (fun i _ => k74 m _ (by omega))⟩
  have hv0 : c_voi (am_wp uTc I Q140) (sp_vl S 1) 0 := c_voi_0 t1 (fun a b ha hb => (k91 a b ha).trans (t2 a b ha hb)) t3
  by_cases ho : sp_ops S = 0
  · refine (am_less (lv := [(1, .inl (0 : Int)), (0, .inr (.inr (.inl (some 71))))]) rfl (List.forall_mem_cons.mpr ⟨rfl, List.forall_mem_cons.mpr ⟨rfl, List.forall_mem_nil _⟩⟩) (c_true0_69 (I := am_wp uTc I Q140) d (m := 0) (S := S) hok h71 h12 hhr (h3.trans ho) (by omega) hv0.1)).imp ?_
    rintro q ⟨Q9, rfl, h9⟩
    exact ⟨Q9, am_r_wk uV (am_k_wp (uTc_uV) (am_k_id)), fun h => absurd ho h⟩
  · refine (am_less (lv := [(1, .inl (0 : Int)), (0, .inr (.inr (.inl (some 71))))]) rfl (List.forall_mem_cons.mpr ⟨rfl, List.forall_mem_cons.mpr ⟨rfl, List.forall_mem_nil _⟩⟩) (c_true_69 (I := am_wp uTc I Q140) d (m := 0) hok h71 hvh2 hord2 (by omega) ho hv0)).imp ?_
    rintro q ⟨Q9, rfl, h9⟩
    exact ⟨Q9, am_r_wk uV (am_k_wp (uTc_uV) (am_k_id)), fun _ => h9⟩
theorem c_collA_69 {X : Nat × (Nat → Int)} {D : List (Nat × Nat)} {I J : Nat → Nat → Int} {ρ : Nat → Nat → Option Nat} (d : Nat) {S : Nat → Int} {B : Int} (hok : r_ok S B) (h71 : ρ 71 1 = some 69) (hvh : c_vh D I ρ 69 S) (hwf : sp_wfS S) {m : Nat} (hm : (m : Int) ≤ S 19) (h3 : I 71 3 = sp_ops S) (hob : am_rowl (I 72) 0 (sp_ob S)) (hOm : ∀ j, j < m → am_rowl (I (74 + j)) 0 (sp_ord S j)) : am_E X (d + 4) 65 11 [(2, .inl (m : Int)), (0, .inr (.inr (.inl (some 71))))] [] (am_mm D I J ρ) (fun q => ∃ Q, q = (none, am_mm D (am_wp uC I Q) J ρ) ∧ c_ords Q S ∧ c_voi Q (sp_vl S 0) (S 19).toNat) := by
  obtain ⟨h12, h14, hr0, hhr, hhd, hlk, hmem⟩ := hvh
  have hvh : c_vh D I ρ 69 S := ⟨h12, h14, hr0, hhr, hhd, hlk, hmem⟩
  have h19 := r_ok_19 hok
  have ob := sp_ops_b hok
  have obl := sp_ob_len (S := S)
  have hob6 : ∀ x ∈ sp_ob S, x < 6 := fun x hx => by have := sp_ob_mem.mp hx; omega
  have hlb : m < 6 → ∀ x ∈ sp_ob S, -2147483648 ≤ sp_like S m x ∧ sp_like S m x < 2147483648 := fun hm6 x hx => by have := sp_like_b hok hwf (m := (m : Int)) (b := (x : Int)) ⟨by omega, by omega⟩ ⟨by omega, by have := hob6 x hx; omega⟩; omega
  refine am_e_ss 4 (q := (19, [(2, .inl (m : Int)), (0, .inr (.inr (.inl (some 71))))], [.inl ((I 1 2)), .inl (m : Int)], (am_mm D I J ρ))) rfl ?_
  refine am_e_icmp2 rfl ⟨by omega, by omega⟩ ⟨by omega, by omega⟩ (fun (hw1 : (I 1 2) ≤ (m : Int)) => ?_) (fun (hw1 : ¬ ((I 1 2) ≤ (m : Int))) => ?_)
  · show am_E _ _ _ 47 [(2, .inl (m : Int)), (0, .inr (.inr (.inl (some 71))))] [] (am_mm D I J ρ) _
    have hO0 : ∀ m, m < (S 19).toNat → ¬ sp_ops S = 0 → I (74 + m) 0 = sp_hd S m := by
      intro m2 hm2 ho
      have hol := sp_ord_len (S := S) (m := m2)
      have hrd := hOm m2 (by omega)
      unfold sp_hd
      cases hL : sp_ord S m2 with
      | nil => rw [hL] at hol; exact absurd hol.symm ho
      | cons a r => rw [hL] at hrd; exact am_rowl_h hrd
    refine am_e_ss 2 (q := (49, [(2, .inl (m : Int)), (0, .inr (.inr (.inl (some 71))))], [.inr (.inr (.inl (some 71))), .inr (.inr (.inl (some 71)))], (am_mm D I J ρ))) rfl ?_
    refine am_e_virtual (Q := fun r => r = (some (.inl ((sp_fav S))), (am_mm D I J ρ))) rfl rfl (Nat.le_of_ble_eq_true rfl) rfl rfl (Nat.le_of_ble_eq_true rfl) (Nat.le_of_ble_eq_true rfl) (c_fav_69 _ hok h71 h12 hhr h3 hob hO0) ?_
    rintro r rfl
    show am_E _ _ _ 52 [(2, .inl (m : Int)), (0, .inr (.inr (.inl (some 71))))] [.inl ((sp_fav S)), .inr (.inr (.inl (some 71)))] (am_mm D I J ρ) _
    refine am_e_ss 2 (q := (56, [(2, .inl (m : Int)), (0, .inr (.inr (.inl (some 71))))], [.inr (.inr (.inl (some 71)))], (am_mm D (am_up I 71 7 (sp_fav S)) J ρ))) rfl ?_
    refine am_e_virtual (Q := fun r => ∃ Q141, r = (none, (am_mm D (am_wp uTc (am_up I 71 7 (sp_fav S)) Q141) J ρ)) ∧ (∀ b, b < 6 → Q141 87 b = 0 ∧ Q141 88 b = 0 ∧ Q141 89 b = 0) ∧ (∀ a b, a < 6 → b < 6 → Q141 (91 + a) b = 0) ∧ Q141 71 6 = 0) rfl rfl (Nat.le_of_ble_eq_true rfl) rfl rfl (Nat.le_of_ble_eq_true rfl) (Nat.le_of_ble_eq_true rfl) (c_clear _) ?_
    rintro r ⟨Q141, rfl, ⟨t1, t2, t3⟩⟩
    show am_E _ _ _ 59 [(2, .inl (m : Int)), (0, .inr (.inr (.inl (some 71))))] [] (am_mm D (am_wp uTc (am_up I 71 7 (sp_fav S)) Q141) J ρ) _
    refine am_e_ss 2 (q := (63, [(2, .inl (m : Int)), (0, .inr (.inr (.inl (some 71))))], [.inl ((I 71 3))], (am_mm D (am_wp uTc (am_up I 71 7 (sp_fav S)) Q141) J ρ))) rfl ?_
    refine am_e_if2 rfl ⟨by omega, by omega⟩ (fun (hw2 : ¬ (I 71 3) = 0) => ?_) (fun (hw2 : ¬ (¬ (I 71 3) = 0)) => ?_)
    · show am_E _ _ _ 67 [(2, .inl (m : Int)), (0, .inr (.inr (.inl (some 71))))] [] (am_mm D (am_wp uTc (am_up I 71 7 (sp_fav S)) Q141) J ρ) _
      refine am_e_ss 2 (q := (69, [(2, .inl 0), (0, .inr (.inr (.inl (some 71))))], [], (am_mm D (am_wp uTc (am_up I 71 7 (sp_fav S)) Q141) J ρ))) rfl ?_
      have k74 : ∀ j i, j < 6 → (am_wp uTc (am_up I 71 7 (sp_fav S)) Q141) (74 + j) i = I (74 + j) i := fun j i hj => (am_wp_off (by rcases (show j = 0 ∨ j = 1 ∨ j = 2 ∨ j = 3 ∨ j = 4 ∨ j = 5 by omega) with rfl | rfl | rfl | rfl | rfl | rfl <;> rfl)).trans (am_up_ne2 (by omega))
      have k20 : ∀ j i, j < 6 → (am_wp uTc (am_up I 71 7 (sp_fav S)) Q141) (20 + j) i = I (20 + j) i := fun j i hj => (am_wp_off (by rcases (show j = 0 ∨ j = 1 ∨ j = 2 ∨ j = 3 ∨ j = 4 ∨ j = 5 by omega) with rfl | rfl | rfl | rfl | rfl | rfl <;> rfl)).trans (am_up_ne2 (by omega))
      have k91 : ∀ a b, a < 6 → (am_wp uTc (am_up I 71 7 (sp_fav S)) Q141) (91 + a) b = Q141 (91 + a) b := fun a b ha => am_wp_in (by rcases (show a = 0 ∨ a = 1 ∨ a = 2 ∨ a = 3 ∨ a = 4 ∨ a = 5 by omega) with rfl | rfl | rfl | rfl | rfl | rfl <;> rfl)
      have hvh2 : c_vh D (am_wp uTc (am_up I 71 7 (sp_fav S)) Q141) ρ 69 S := ⟨h12, h14, hr0, hhr, hhd, fun m b hm hb => (k20 m b (by omega)).trans (hlk m b hm hb), c_mems_cg hmem (am_k_wp (uTc_tlo) (am_k_up rfl (am_k_id)))⟩
      have hord2 : c_ords (am_wp uTc (am_up I 71 7 (sp_fav S)) Q141) S := ⟨h3, hob, fun m hm => am_rowl_cg (hOm m (by omega)) (fun i _ => k74 m _ (by omega))⟩
      have hv0 : c_voi (am_wp uTc (am_up I 71 7 (sp_fav S)) Q141) (sp_vl S 0) 0 := c_voi_0 t1 (fun a b ha hb => (k91 a b ha).trans (t2 a b ha hb)) t3
      refine (am_less (lv := [(2, .inl (0 : Int)), (0, .inr (.inr (.inl (some 71))))]) rfl (List.forall_mem_cons.mpr ⟨rfl, List.forall_mem_cons.mpr ⟨rfl, List.forall_mem_nil _⟩⟩) (c_coll2_69 (I := am_wp uTc (am_up I 71 7 (sp_fav S)) Q141) d (m := 0) hok h71 hvh2 hord2 rfl (by omega) (by omega) hv0)).imp ?_
      rintro q ⟨Q9, rfl, h9⟩
      obtain ⟨v1, v2, v3, v4⟩ := h9
      have w81 : ∀ j i, j < 6 → (am_wp uV (am_wp uTc (am_up I 71 7 (sp_fav S)) Q141) Q9) (81 + j) i = Q9 (81 + j) i := fun j i hj => am_wp_in (by rcases (show j = 0 ∨ j = 1 ∨ j = 2 ∨ j = 3 ∨ j = 4 ∨ j = 5 by omega) with rfl | rfl | rfl | rfl | rfl | rfl <;> rfl)
      have w91 : ∀ a b, a < 6 → (am_wp uV (am_wp uTc (am_up I 71 7 (sp_fav S)) Q141) Q9) (91 + a) b = Q9 (91 + a) b := fun a b ha => am_wp_in (by rcases (show a = 0 ∨ a = 1 ∨ a = 2 ∨ a = 3 ∨ a = 4 ∨ a = 5 by omega) with rfl | rfl | rfl | rfl | rfl | rfl <;> rfl)
      have w74 : ∀ j i, j < 6 → (am_wp uV (am_wp uTc (am_up I 71 7 (sp_fav S)) Q141) Q9) (74 + j) i = I (74 + j) i := fun j i hj => (am_wp_off (by rcases (show j = 0 ∨ j = 1 ∨ j = 2 ∨ j = 3 ∨ j = 4 ∨ j = 5 by omega) with rfl | rfl | rfl | rfl | rfl | rfl <;> rfl)).trans (k74 j i hj)
      exact ⟨_, am_r_wp uC (am_k_wp uV_uC (am_k_wp (uTc_uC) (am_k_up rfl (am_k_id)))), ⟨h3, hob, fun m hm => am_rowl_cg (hOm m (by omega)) (fun i _ => w74 m _ (by omega))⟩, v1, fun j hj hn => am_rowl_cg (v2 j hj hn) (fun i _ => w81 j _ (by omega)), v3, fun a b ha hb => (w91 a b ha).trans (v4 a b ha hb)⟩
    · show am_E _ _ _ 66 [(2, .inl (m : Int)), (0, .inr (.inr (.inl (some 71))))] [] (am_mm D (am_wp uTc (am_up I 71 7 (sp_fav S)) Q141) J ρ) _
      refine am_e_return rfl rfl ?_
      have k74 : ∀ j i, j < 6 → (am_wp uTc (am_up I 71 7 (sp_fav S)) Q141) (74 + j) i = I (74 + j) i := fun j i hj => (am_wp_off (by rcases (show j = 0 ∨ j = 1 ∨ j = 2 ∨ j = 3 ∨ j = 4 ∨ j = 5 by omega) with rfl | rfl | rfl | rfl | rfl | rfl <;> rfl)).trans (am_up_ne2 (by omega))
      have k91 : ∀ a b, a < 6 → (am_wp uTc (am_up I 71 7 (sp_fav S)) Q141) (91 + a) b = Q141 (91 + a) b := fun a b ha => am_wp_in (by rcases (show a = 0 ∨ a = 1 ∨ a = 2 ∨ a = 3 ∨ a = 4 ∨ a = 5 by omega) with rfl | rfl | rfl | rfl | rfl | rfl <;> rfl)
      have hv0 : c_voi (am_wp uTc (am_up I 71 7 (sp_fav S)) Q141) (sp_vl S 0) 0 := c_voi_0 t1 (fun a b ha hb => (k91 a b ha).trans (t2 a b ha hb)) t3
      have hvn : ∀ n, c_voi (am_wp uTc (am_up I 71 7 (sp_fav S)) Q141) (sp_vl S 0) n := by
        intro n
        induction n with
        | zero => exact hv0
        | succ n ih => exact c_voi_n ih (by (show sp_says S n = []); unfold sp_says; rw [if_pos (by omega)])
      exact ⟨_, am_r_wp uC (am_k_wp (uTc_uC) (am_k_up rfl (am_k_id))), ⟨h3, hob, fun m hm => am_rowl_cg (hOm m (by omega)) (fun i _ => k74 m _ (by omega))⟩, hvn _⟩
  · show am_E _ _ _ 22 [(2, .inl (m : Int)), (0, .inr (.inr (.inl (some 71))))] [] (am_mm D I J ρ) _
    refine am_e_ss 5 (q := (31, [(2, .inl (m : Int)), (0, .inr (.inr (.inl (some 71))))], [.inl (m : Int), .inr (.inr (.inl (some 19))), .inr (.inr (.inl (some 71)))], (am_mm D I J ρ))) rfl ?_
    refine am_e_aaload (m := 6) (c := 23) rfl rfl (by decide) (by omega) (by omega) (by omega) ?_
    rw [show ((am_mm D I J ρ)).2.2.2 19 ((m : Int)).toNat = some (20 + m) from (am_r19 (ρ := ρ) (by omega))]
    show am_E _ _ _ 32 [(2, .inl (m : Int)), (0, .inr (.inr (.inl (some 71))))] [.inr (.inr (.inl (some (20 + m)))), .inr (.inr (.inl (some 71)))] (am_mm D I J ρ) _
    refine am_e_ss 3 (q := (37, [(2, .inl (m : Int)), (0, .inr (.inr (.inl (some 71))))], [.inl (m : Int), .inr (.inr (.inl (some 73))), .inr (.inr (.inl (some (20 + m)))), .inr (.inr (.inl (some 71)))], (am_mm D I J ρ))) rfl ?_
    refine am_e_aaload (m := 6) (c := 23) rfl rfl (by decide) (by omega) (by omega) (by omega) ?_
    rw [show ((am_mm D I J ρ)).2.2.2 73 ((m : Int)).toNat = some (74 + m) from (am_r73 (ρ := ρ) (by omega))]
    show am_E _ _ _ 38 [(2, .inl (m : Int)), (0, .inr (.inr (.inl (some 71))))] [.inr (.inr (.inl (some (74 + m)))), .inr (.inr (.inl (some (20 + m)))), .inr (.inr (.inl (some 71)))] (am_mm D I J ρ) _
    refine am_e_virtual (Q := fun r => ∃ Q142, r = (none, (am_mm D (am_wp uR I Q142) J ρ)) ∧ am_rowl (Q142 (74 + m)) 0 (sp_isrt (fun b => sp_like S m b) (sp_ob S)) ∧ ∀ j, j ≠ m → ∀ i, Q142 (74 + j) i = I (74 + j) i) rfl rfl (Nat.le_of_ble_eq_true rfl) rfl rfl (Nat.le_of_ble_eq_true rfl) (Nat.le_of_ble_eq_true rfl) (c_sortM _ (m := m) (l := fun b => sp_like S m b) (L := sp_ob S) (by omega) hob (h3.trans sp_ob_len.symm) (by omega) hob6 (fun x hx => ⟨hlk m x (by omega) (sp_ob_mem.mp hx).1, hlb (by omega) x hx⟩)) ?_
    rintro r ⟨Q142, rfl, ⟨y1, y2⟩⟩
    show am_E _ _ _ 41 [(2, .inl (m : Int)), (0, .inr (.inr (.inl (some 71))))] [] (am_mm D (am_wp uR I Q142) J ρ) _
    refine am_e_ss 2 (q := (11, [(2, .inl ((m : Int) + 1)), (0, .inr (.inr (.inl (some 71))))], [], (am_mm D (am_wp uR I Q142) J ρ))) rfl ?_
    have k74 : ∀ j i, j < 6 → (am_wp uR I Q142) (74 + j) i = Q142 (74 + j) i := fun j i hj => am_wp_in (by rcases (show j = 0 ∨ j = 1 ∨ j = 2 ∨ j = 3 ∨ j = 4 ∨ j = 5 by omega) with rfl | rfl | rfl | rfl | rfl | rfl <;> rfl)
    have k20 : ∀ j i, j < 6 → (am_wp uR I Q142) (20 + j) i = I (20 + j) i := fun j i hj => am_wp_off (by rcases (show j = 0 ∨ j = 1 ∨ j = 2 ∨ j = 3 ∨ j = 4 ∨ j = 5 by omega) with rfl | rfl | rfl | rfl | rfl | rfl <;> rfl)
    have hvh2 : c_vh D (am_wp uR I Q142) ρ 69 S := ⟨h12, h14, hr0, hhr, hhd, fun m b hm hb => (k20 m b (by omega)).trans (hlk m b hm hb), c_mems_cg hmem (am_k_wp (uR_tlo) (am_k_id))⟩
    have hOm2 : ∀ j, j < m + 1 → am_rowl ((am_wp uR I Q142) (74 + j)) 0 (sp_ord S j) := by
      intro j hj
      by_cases e : j = m
      · subst e
        unfold sp_ord
        rw [sp_isrt_ord]
        exact am_rowl_cg y1 (fun i _ => k74 j _ (by omega))
      · exact am_rowl_cg (hOm j (by omega)) (fun i _ => (k74 j _ (by omega)).trans (y2 j e _))
    refine (am_less (lv := [(2, .inl ((m + 1) : Int)), (0, .inr (.inr (.inl (some 71))))]) rfl (List.forall_mem_cons.mpr ⟨rfl, List.forall_mem_cons.mpr ⟨rfl, List.forall_mem_nil _⟩⟩) (c_collA_69 (I := am_wp uR I Q142) d (m := m + 1) hok h71 hvh2 hwf (by omega) h3 hob hOm2)).imp ?_
    rintro q ⟨Q9, rfl, h9⟩
    exact ⟨Q9, am_r_wk uC (am_k_wp (uR_uC) (am_k_id)), h9⟩
termination_by 7 - m
decreasing_by all_goals omega
theorem c_coll0_69 {X : Nat × (Nat → Int)} {D : List (Nat × Nat)} {I J : Nat → Nat → Int} {ρ : Nat → Nat → Option Nat} (d : Nat) {S : Nat → Int} {B : Int} (hok : r_ok S B) (h71 : ρ 71 1 = some 69) (hvh : c_vh D I ρ 69 S) (hwf : sp_wfS S) : am_E X (d + 4) 65 5 [(0, .inr (.inr (.inl (some 71))))] [] (am_mm D I J ρ) (fun q => ∃ Q, q = (none, am_mm D (am_wp uC I Q) J ρ) ∧ c_ords Q S ∧ c_voi Q (sp_vl S 0) (S 19).toNat) := by
  obtain ⟨h12, h14, hr0, hhr, hhd, hlk, hmem⟩ := hvh
  have hvh : c_vh D I ρ 69 S := ⟨h12, h14, hr0, hhr, hhd, hlk, hmem⟩
  have h19 := r_ok_19 hok
  refine am_e_ss 1 (q := (6, [(0, .inr (.inr (.inl (some 71))))], [.inr (.inr (.inl (some 71)))], (am_mm D I J ρ))) rfl ?_
  refine am_e_virtual (Q := fun r => ∃ Q143, r = (none, (am_mm D (am_wp uO I Q143) J ρ)) ∧ Q143 71 3 = sp_ops S ∧ am_rowl (Q143 72) 0 (sp_ob S)) rfl rfl (Nat.le_of_ble_eq_true rfl) rfl rfl (Nat.le_of_ble_eq_true rfl) (Nat.le_of_ble_eq_true rfl) (c_listOpen_69 _ hok h71 h14 hhd) ?_
  rintro r ⟨Q143, rfl, ⟨h3, hob⟩⟩
  show am_E _ _ _ 9 [(0, .inr (.inr (.inl (some 71))))] [] (am_mm D (am_wp uO I Q143) J ρ) _
  refine am_e_ss 2 (q := (11, [(2, .inl 0), (0, .inr (.inr (.inl (some 71))))], [], (am_mm D (am_wp uO I Q143) J ρ))) rfl ?_
  have k20 : ∀ j i, j < 6 → (am_wp uO I Q143) (20 + j) i = I (20 + j) i := fun j i hj => am_wp_off (by rcases (show j = 0 ∨ j = 1 ∨ j = 2 ∨ j = 3 ∨ j = 4 ∨ j = 5 by omega) with rfl | rfl | rfl | rfl | rfl | rfl <;> rfl)
  have hvh2 : c_vh D (am_wp uO I Q143) ρ 69 S := ⟨h12, h14, hr0, hhr, hhd, fun m b hm hb => (k20 m b (by omega)).trans (hlk m b hm hb), c_mems_cg hmem (am_k_wp (uO_tlo) (am_k_id))⟩
  refine (am_less (lv := [(2, .inl (0 : Int)), (0, .inr (.inr (.inl (some 71))))]) rfl (List.forall_mem_cons.mpr ⟨rfl, List.forall_mem_cons.mpr ⟨rfl, List.forall_mem_nil _⟩⟩) (c_collA_69 (I := am_wp uO I Q143) d (m := 0) hok h71 hvh2 hwf (by omega) h3 hob (fun j hj => by omega))).imp ?_
  rintro q ⟨Q9, rfl, h9⟩
  exact ⟨Q9, am_r_wk uC (am_k_wp (uO_uC) (am_k_id)), h9⟩
theorem c_collect_69 {X : Nat × (Nat → Int)} {D : List (Nat × Nat)} {I J : Nat → Nat → Int} {ρ : Nat → Nat → Option Nat} (d : Nat) {S : Nat → Int} {B : Int} (hok : r_ok S B) (hvh : c_vh D I ρ 69 S) (hwf : sp_wfS S) : am_E X (d + 4) 65 0 [(0, .inr (.inr (.inl (some 71)))), (1, .inr (.inr (.inl (some 69))))] [] (am_mm D I J ρ) (fun q => ∃ Q, q = (none, am_mm D (am_wp uC I Q) J (am_up ρ 71 1 (some 69))) ∧ c_ords Q S ∧ c_voi Q (sp_vl S 0) (S 19).toNat) := by
  have hvh2 : c_vh D I (am_up ρ 71 1 (some 69)) 69 S := by
    obtain ⟨h1, h2, h3, h4, h5, h6, h7⟩ := hvh
    refine ⟨h1, h2, h3, h4, h5, h6, ?_⟩
    intro m hm
    obtain ⟨k, g1, g2⟩ := h7 m hm
    exact ⟨k, (if_neg (by omega)).trans g1, g2⟩
  refine am_e_ss 2 (q := (2, [(0, .inr (.inr (.inl (some 71)))), (1, .inr (.inr (.inl (some 69))))], [.inr (.inr (.inl (some 69))), .inr (.inr (.inl (some 71)))], (am_mm D I J ρ))) rfl ?_
  refine am_e_putR (c := 10) (m := 14) (f := 1) rfl rfl rfl (by decide) (by decide) rfl rfl ?_
  show am_E _ _ _ 5 [(0, .inr (.inr (.inl (some 71)))), (1, .inr (.inr (.inl (some 69))))] [] (am_mm D I J (am_up ρ 71 1 (some 69))) _
  exact am_less (lv := [(0, .inr (.inr (.inl (some 71))))]) rfl (List.forall_mem_cons.mpr ⟨rfl, List.forall_mem_nil _⟩) (c_coll0_69 d hok (if_pos ⟨rfl, rfl⟩) hvh2 hwf)
