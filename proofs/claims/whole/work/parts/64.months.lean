/-! THE CLASS: months -/
/-- the club that holds: how many must read -/
def c_come (D : List (Nat × Nat)) (I : Nat → Nat → Int) (ρ : Nat → Nat → Option Nat) (a : Nat) (S : Nat → Int) : Prop := ∃ c, ρ a 5 = some c ∧ (am_S ++ D)[c]? = some (1, 10) ∧ (c = 12 ∨ c = 46 ∨ c = 102 ∨ 124 ≤ c) ∧ I c 0 = sp_come S
def c_lo (I : Nat → Nat → Int) (o : Nat) (S : Nat → Int) : Prop := ∀ m b : Nat, m < (S 19).toNat → b < (S 20).toNat → I (20 + o + m) b = sp_like S m b ∧ I (27 + o + m) b = sp_odds S m b
/-- what a month leans on -/
def c_mh (D : List (Nat × Nat)) (I : Nat → Nat → Int) (ρ : Nat → Nat → Option Nat) (S : Nat → Int) : Prop := I 1 2 = S 19 ∧ I 1 4 = S 20 ∧ (∀ m b : Nat, m < (S 19).toNat → b < (S 20).toNat → I (20 + m) b = sp_like S m b ∧ I (27 + m) b = sp_odds S m b) ∧ c_mems D I ρ 4 S ∧ c_come D I ρ 1 S
def uH2 : Nat → Nat → Bool := fun c i => (Nat.beq c 2 && (Nat.beq i 2))
theorem c_setHad_2 {X : Nat × (Nat → Int)} {D : List (Nat × Nat)} {I J : Nat → Nat → Int} {ρ : Nat → Nat → Option Nat} (d : Nat) {z : Int} {b : Nat} {p : Nat → Bool} (hz : z = 0 ∨ z = 1) (hb : b < 6) (hp : I 2 2 = am_bits p 6) : am_E X d 52 0 [(0, .inr (.inr (.inl (some 2)))), (1, .inl (b : Int)), (2, .inl z)] [] (am_mm D I J ρ) (fun q => ∃ Q, q = (none, am_mm D (am_wp uH2 I Q) J ρ) ∧ Q 2 2 = am_bits (fun x => if x = b then decide (z = 1) else p x) 6) := by
  refine am_e_ss 2 (q := (2, [(0, .inr (.inr (.inl (some 2)))), (1, .inl (b : Int)), (2, .inl z)], [.inl z, .inr (.inr (.inl (some 2)))], (am_mm D I J ρ))) rfl ?_
  refine am_e_if2 rfl ⟨by omega, by omega⟩ (fun (hw1 : z = 0) => ?_) (fun (hw1 : ¬ (z = 0)) => ?_)
  · show am_E _ _ _ 16 [(0, .inr (.inr (.inl (some 2)))), (1, .inl (b : Int)), (2, .inl z)] [.inr (.inr (.inl (some 2)))] (am_mm D I J ρ) _
    refine am_e_ss 9 (q := (29, [(0, .inr (.inr (.inl (some 2)))), (1, .inl (b : Int)), (2, .inl z)], [], (am_mm D (am_up I 2 2 (Int32.ofInt (I 2 2) &&& Int32.ofInt (Int32.ofInt (Int32.ofInt 1 <<< (Int32.ofInt (b : Int) &&& 31)).toInt ^^^ Int32.ofInt (-1)).toInt).toInt) J ρ))) rfl ?_
    refine am_e_return rfl rfl ?_
    refine ⟨_, am_r_wp uH2 (am_k_up rfl (am_k_id)), ?_⟩
    show (Int32.ofInt (I 2 2) &&& Int32.ofInt (Int32.ofInt (Int32.ofInt 1 <<< (Int32.ofInt (b : Int) &&& 31)).toInt ^^^ Int32.ofInt (-1)).toInt).toInt = _
    rw [hp]
    refine (am_bits_clr p b hb).trans (am_bits_cg 6 (fun x _ => ?_))
    by_cases e : x = b
    · subst e; rw [if_pos rfl, decide_eq_false (show ¬ z = 1 by omega)]; simp
    · rw [if_neg e]; simp [e]
  · show am_E _ _ _ 5 [(0, .inr (.inr (.inl (some 2)))), (1, .inl (b : Int)), (2, .inl z)] [.inr (.inr (.inl (some 2)))] (am_mm D I J ρ) _
    refine am_e_ss 8 (q := (29, [(0, .inr (.inr (.inl (some 2)))), (1, .inl (b : Int)), (2, .inl z)], [], (am_mm D (am_up I 2 2 (Int32.ofInt (I 2 2) ||| Int32.ofInt (Int32.ofInt 1 <<< (Int32.ofInt (b : Int) &&& 31)).toInt).toInt) J ρ))) rfl ?_
    refine am_e_return rfl rfl ?_
    refine ⟨_, am_r_wp uH2 (am_k_up rfl (am_k_id)), ?_⟩
    show (Int32.ofInt (I 2 2) ||| Int32.ofInt (Int32.ofInt 1 <<< (Int32.ofInt (b : Int) &&& 31)).toInt).toInt = _
    rw [hp]
    refine (am_bits_set p b hb).trans (am_bits_cg 6 (fun x _ => ?_))
    by_cases e : x = b
    · subst e; rw [if_pos rfl, decide_eq_true (show z = 1 by omega)]; simp
    · rw [if_neg e]; simp [e]
def uH69 : Nat → Nat → Bool := fun c i => (Nat.beq c 69 && (Nat.beq i 2))
theorem c_setHad_69 {X : Nat × (Nat → Int)} {D : List (Nat × Nat)} {I J : Nat → Nat → Int} {ρ : Nat → Nat → Option Nat} (d : Nat) {z : Int} {b : Nat} {p : Nat → Bool} (hz : z = 0 ∨ z = 1) (hb : b < 6) (hp : I 69 2 = am_bits p 6) : am_E X d 52 0 [(0, .inr (.inr (.inl (some 69)))), (1, .inl (b : Int)), (2, .inl z)] [] (am_mm D I J ρ) (fun q => ∃ Q, q = (none, am_mm D (am_wp uH69 I Q) J ρ) ∧ Q 69 2 = am_bits (fun x => if x = b then decide (z = 1) else p x) 6) := by
  refine am_e_ss 2 (q := (2, [(0, .inr (.inr (.inl (some 69)))), (1, .inl (b : Int)), (2, .inl z)], [.inl z, .inr (.inr (.inl (some 69)))], (am_mm D I J ρ))) rfl ?_
  refine am_e_if2 rfl ⟨by omega, by omega⟩ (fun (hw1 : z = 0) => ?_) (fun (hw1 : ¬ (z = 0)) => ?_)
  · show am_E _ _ _ 16 [(0, .inr (.inr (.inl (some 69)))), (1, .inl (b : Int)), (2, .inl z)] [.inr (.inr (.inl (some 69)))] (am_mm D I J ρ) _
    refine am_e_ss 9 (q := (29, [(0, .inr (.inr (.inl (some 69)))), (1, .inl (b : Int)), (2, .inl z)], [], (am_mm D (am_up I 69 2 (Int32.ofInt (I 69 2) &&& Int32.ofInt (Int32.ofInt (Int32.ofInt 1 <<< (Int32.ofInt (b : Int) &&& 31)).toInt ^^^ Int32.ofInt (-1)).toInt).toInt) J ρ))) rfl ?_
    refine am_e_return rfl rfl ?_
    refine ⟨_, am_r_wp uH69 (am_k_up rfl (am_k_id)), ?_⟩
    show (Int32.ofInt (I 69 2) &&& Int32.ofInt (Int32.ofInt (Int32.ofInt 1 <<< (Int32.ofInt (b : Int) &&& 31)).toInt ^^^ Int32.ofInt (-1)).toInt).toInt = _
    rw [hp]
    refine (am_bits_clr p b hb).trans (am_bits_cg 6 (fun x _ => ?_))
    by_cases e : x = b
    · subst e; rw [if_pos rfl, decide_eq_false (show ¬ z = 1 by omega)]; simp
    · rw [if_neg e]; simp [e]
  · show am_E _ _ _ 5 [(0, .inr (.inr (.inl (some 69)))), (1, .inl (b : Int)), (2, .inl z)] [.inr (.inr (.inl (some 69)))] (am_mm D I J ρ) _
    refine am_e_ss 8 (q := (29, [(0, .inr (.inr (.inl (some 69)))), (1, .inl (b : Int)), (2, .inl z)], [], (am_mm D (am_up I 69 2 (Int32.ofInt (I 69 2) ||| Int32.ofInt (Int32.ofInt 1 <<< (Int32.ofInt (b : Int) &&& 31)).toInt).toInt) J ρ))) rfl ?_
    refine am_e_return rfl rfl ?_
    refine ⟨_, am_r_wp uH69 (am_k_up rfl (am_k_id)), ?_⟩
    show (Int32.ofInt (I 69 2) ||| Int32.ofInt (Int32.ofInt 1 <<< (Int32.ofInt (b : Int) &&& 31)).toInt).toInt = _
    rw [hp]
    refine (am_bits_set p b hb).trans (am_bits_cg 6 (fun x _ => ?_))
    by_cases e : x = b
    · subst e; rw [if_pos rfl, decide_eq_true (show z = 1 by omega)]; simp
    · rw [if_neg e]; simp [e]
theorem c_attends {X : Nat × (Nat → Int)} {D : List (Nat × Nat)} {I J : Nat → Nat → Int} {ρ : Nat → Nat → Option Nat} (d : Nat) {S : Nat → Int} {B mo : Int} {m b : Nat} (hok : r_ok S B) (hm : m < (S 19).toNat) (hb : b < (S 20).toNat) (hmo : mo = S 0) (hmh : c_mh D I ρ S) : am_E X (d + 1) 30 0 [(0, .inr (.inr (.inl (some 1)))), (1, .inl (m : Int)), (2, .inl (b : Int)), (3, .inl mo)] [] (am_mm D I J ρ) (fun r => r = (some (.inl ((sp_cmi S m b))), (am_mm D I J ρ))) := by
  have h19 := r_ok_19 hok
  obtain ⟨h12, h14, hlo, hmem, hcm⟩ := hmh
  obtain ⟨c, hρc, hsc, hcc, hc0⟩ := hcm
  obtain ⟨k, hρk, hk124, hsk, hk0, hk1, hk2⟩ := hmem m (by omega)
  obtain ⟨oKm, oVm, o00⟩ : (0 ≤ S (26 + m) ∧ S (26 + m) ≤ 6) ∧ (0 ≤ S (32 + m) ∧ S (32 + m) ≤ 9) ∧ (0 ≤ S 0 ∧ S 0 ≤ 200) := by
    obtain ⟨o0, oG, oH, oD, o19, o20, o21, o22, o23, o24, oK, oV, _⟩ := hok
    exact ⟨oK m (by omega), oV m (by omega), o0⟩
  have hod := (hlo m b hm hb).2
  have odb := sp_odds_b S m b
  have cmb := r_come_b hok
  refine am_e_ss 3 (q := (5, [(0, .inr (.inr (.inl (some 1)))), (1, .inl (m : Int)), (2, .inl (b : Int)), (3, .inl mo)], [.inl (m : Int), .inr (.inr (.inl (some 26)))], (am_mm D I J ρ))) rfl ?_
  refine am_e_aaload (m := 6) (c := 23) rfl rfl (by decide) (by omega) (by omega) (by omega) ?_
  rw [show ((am_mm D I J ρ)).2.2.2 26 ((m : Int)).toNat = some (27 + m) from (am_r26 (ρ := ρ) (by omega))]
  show am_E _ _ _ 6 [(0, .inr (.inr (.inl (some 1)))), (1, .inl (m : Int)), (2, .inl (b : Int)), (3, .inl mo)] [.inr (.inr (.inl (some (27 + m))))] (am_mm D I J ρ) _
  refine am_e_ss 1 (q := (7, [(0, .inr (.inr (.inl (some 1)))), (1, .inl (m : Int)), (2, .inl (b : Int)), (3, .inl mo)], [.inl (b : Int), .inr (.inr (.inl (some (27 + m))))], (am_mm D I J ρ))) rfl ?_
  refine am_e_iaload (m := 6) rfl (am_k27 (by omega)) (by omega) (by omega) (by omega) ?_
  show am_E _ _ _ 8 [(0, .inr (.inr (.inl (some 1)))), (1, .inl (m : Int)), (2, .inl (b : Int)), (3, .inl mo)] [.inl ((I (27 + m) b))] (am_mm D I J ρ) _
  refine am_e_ss 1 (q := (9, [(0, .inr (.inr (.inl (some 1)))), (1, .inl (m : Int)), (2, .inl (b : Int)), (3, .inl mo)], [.inr (.inr (.inl (some 1))), .inl ((I (27 + m) b))], (am_mm D I J ρ))) rfl ?_
  refine am_e_getR (c := 3) (m := 14) (f := 5) (w := c) rfl rfl rfl (by decide) (by decide) rfl rfl hρc ?_
  show am_E _ _ _ 12 [(0, .inr (.inr (.inl (some 1)))), (1, .inl (m : Int)), (2, .inl (b : Int)), (3, .inl mo)] [.inr (.inr (.inl (some c))), .inl ((I (27 + m) b))] (am_mm D I J ρ) _
  refine am_e_getfield (c := 1) (m := 10) (f := 0) rfl hsc rfl (by decide) (by decide) ?_
  show am_E _ _ _ 15 [(0, .inr (.inr (.inl (some 1)))), (1, .inl (m : Int)), (2, .inl (b : Int)), (3, .inl mo)] [.inl ((I c 0)), .inl ((I (27 + m) b))] (am_mm D I J ρ) _
  refine am_e_icmp2 rfl ⟨by omega, by omega⟩ ⟨by omega, by omega⟩ (fun (hw1 : (I (27 + m) b) < (I c 0)) => ?_) (fun (hw1 : ¬ ((I (27 + m) b) < (I c 0))) => ?_)
  · show am_E _ _ _ 35 [(0, .inr (.inr (.inl (some 1)))), (1, .inl (m : Int)), (2, .inl (b : Int)), (3, .inl mo)] [] (am_mm D I J ρ) _
    refine am_e_ss 1 (q := (36, [(0, .inr (.inr (.inl (some 1)))), (1, .inl (m : Int)), (2, .inl (b : Int)), (3, .inl mo)], [.inl 0], (am_mm D I J ρ))) rfl ?_
    refine am_e_ireturn rfl rfl ?_
    have ea : sp_cmi S m b = 0 := by
      unfold sp_cmi
      rw [show (26 + (m : Int)).toNat = 26 + m by omega, show (32 + (m : Int)).toNat = 32 + m by omega]
      split
      · rfl
      · exact if_pos (by omega)
    rw [ea]
  · show am_E _ _ _ 18 [(0, .inr (.inr (.inl (some 1)))), (1, .inl (m : Int)), (2, .inl (b : Int)), (3, .inl mo)] [] (am_mm D I J ρ) _
    refine am_e_ss 3 (q := (23, [(0, .inr (.inr (.inl (some 1)))), (1, .inl (m : Int)), (2, .inl (b : Int)), (3, .inl mo)], [.inl (m : Int), .inr (.inr (.inl (some 4)))], (am_mm D I J ρ))) rfl ?_
    refine am_e_aaload (m := 6) (c := 24) rfl rfl (by decide) (by omega) (by omega) (by omega) ?_
    rw [show ((am_mm D I J ρ)).2.2.2 4 ((m : Int)).toNat = some k from (show am_Rf ρ 4 m = some k from hρk)]
    show am_E _ _ _ 24 [(0, .inr (.inr (.inl (some 1)))), (1, .inl (m : Int)), (2, .inl (b : Int)), (3, .inl mo)] [.inr (.inr (.inl (some k)))] (am_mm D I J ρ) _
    refine am_e_ss 1 (q := (25, [(0, .inr (.inr (.inl (some 1)))), (1, .inl (m : Int)), (2, .inl (b : Int)), (3, .inl mo)], [.inl mo, .inr (.inr (.inl (some k)))], (am_mm D I J ρ))) rfl ?_
    refine am_e_vm (K := (S (26 + m)).toNat) (tg := (am_tg [36, 36, 36, 36, 36, 36, 3])) (N := 2) (Q := fun r => ∃ Q216, r = (some (.inl ((am_bi ((S (26 + m)).toNat = 6 ∧ mo % (S (32 + m) + 2) = 0)))), (am_mm D I J ρ)) ∧ True) rfl rfl (Nat.le_of_ble_eq_true rfl) hsk (by omega) (by decide) (Nat.le_of_ble_eq_true rfl) (Nat.le_of_ble_eq_true rfl) (by decide) ((m_away _ (K := (S (26 + m)).toNat) (mo := mo) (v := S (32 + m)) (by omega) hsk hk2 oVm (by omega)).imp (fun q h => ⟨I, h, True.intro⟩)) ?_
    rintro r ⟨Q216, rfl, -⟩
    show am_E _ _ _ 28 [(0, .inr (.inr (.inl (some 1)))), (1, .inl (m : Int)), (2, .inl (b : Int)), (3, .inl mo)] [.inl ((am_bi ((S (26 + m)).toNat = 6 ∧ mo % (S (32 + m) + 2) = 0)))] (am_mm D I J ρ) _
    refine am_e_ifne rfl (fun hw2 => ?_) (fun hw2 => ?_)
    · show am_E _ _ _ 35 [(0, .inr (.inr (.inl (some 1)))), (1, .inl (m : Int)), (2, .inl (b : Int)), (3, .inl mo)] [] (am_mm D I J ρ) _
      refine am_e_ss 1 (q := (36, [(0, .inr (.inr (.inl (some 1)))), (1, .inl (m : Int)), (2, .inl (b : Int)), (3, .inl mo)], [.inl 0], (am_mm D I J ρ))) rfl ?_
      refine am_e_ireturn rfl rfl ?_
      have ea : sp_cmi S m b = 0 := by
        unfold sp_cmi
        rw [show (26 + (m : Int)).toNat = 26 + m by omega, show (32 + (m : Int)).toNat = 32 + m by omega]
        rw [if_pos ⟨by omega, by rw [← hmo]; exact hw2.2⟩]
      rw [ea]
    · show am_E _ _ _ 31 [(0, .inr (.inr (.inl (some 1)))), (1, .inl (m : Int)), (2, .inl (b : Int)), (3, .inl mo)] [] (am_mm D I J ρ) _
      refine am_e_ss 2 (q := (36, [(0, .inr (.inr (.inl (some 1)))), (1, .inl (m : Int)), (2, .inl (b : Int)), (3, .inl mo)], [.inl 1], (am_mm D I J ρ))) rfl ?_
      refine am_e_ireturn rfl rfl ?_
      have ea : sp_cmi S m b = 1 := by
        unfold sp_cmi
        rw [show (26 + (m : Int)).toNat = 26 + m by omega, show (32 + (m : Int)).toNat = 32 + m by omega]
        rw [if_neg (fun h => absurd (show (S (26 + m)).toNat = 6 ∧ mo % (S (32 + m) + 2) = 0 from ⟨by omega, by rw [hmo]; exact h.2⟩) (by assumption)), if_neg (by omega)]
      rw [ea]
/-- who is here behind the first m of a month -/
def sp_pm (S : Nat → Int) (b : Int) (m x : Nat) : Bool := sp_hp S x && !(decide (x < m) && decide (sp_ng S b x < -50))
theorem sp_pm_0 {S : Nat → Int} {b : Int} : sp_pm S b 0 = sp_hp S := by
  funext x
  unfold sp_pm
  simp
theorem sp_pm_m {S : Nat → Int} {b : Int} {m : Nat} : sp_pm S b m m = sp_hp S m := by
  unfold sp_pm
  simp
theorem sp_pm_go {S : Nat → Int} {B : Int} {b x : Nat} (hok : r_ok S B) (hb : b < 6) (hx : x < 6) : sp_pm S (b : Int) (S 19).toNat x = sp_hp (sp_go S (b : Int)) x := by
  unfold sp_pm sp_hp
  rw [← sp_go_al (b := (b : Int)) hok ⟨by omega, by omega⟩ 19 (by omega), sp_go_hr hok (by omega) hx]
  by_cases e1 : x < (S 19).toNat
  · by_cases e2 : sp_ng S b x < -50
    · rw [if_pos ⟨e1, e2⟩]; simp [e1, e2]
    · rw [if_neg (fun h => e2 h.2)]; simp [e1, e2]
  · simp [e1]
theorem sp_dp_go {S : Nat → Int} {B : Int} {b x : Nat} (hok : r_ok S B) (hb : b < (S 20).toNat) : (if x = b then decide ((1 : Int) = 1) else sp_dp S x) = sp_dp (sp_go S (b : Int)) x := by
  have h20 := (r_ok_19 hok).2
  unfold sp_dp
  rw [← sp_go_al (b := (b : Int)) hok ⟨by omega, by omega⟩ 20 (by omega), sp_go_hd hok (by omega)]
  by_cases e : x = b
  · subst e
    rw [if_pos rfl, if_pos rfl]; simp [hb]
  · rw [if_neg e, if_neg (by omega)]
def uP2 : Nat → Nat → Bool := fun c i => Nat.beq c 3 || (Nat.beq c 2 && (Nat.beq i 0 || Nat.beq i 1 || Nat.beq i 2))
theorem uH2_uP2 : ∀ c i, uH2 c i = true → uP2 c i = true := by
  intro c i
  unfold uH2 uP2
  simp
  omega
theorem uP2_tlo : ∀ c i, uP2 c i = true → tlo c i = true := by
  intro c i
  unfold uP2 tlo
  simp
  omega
theorem uP2_20 {m i : Nat} (h : m < 13) : uP2 (20 + m) i = false := by
  have h : m = 0 ∨ m = 1 ∨ m = 2 ∨ m = 3 ∨ m = 4 ∨ m = 5 ∨ m = 6 ∨ m = 7 ∨ m = 8 ∨ m = 9 ∨ m = 10 ∨ m = 11 ∨ m = 12 := by omega
  rcases h with rfl | rfl | rfl | rfl | rfl | rfl | rfl | rfl | rfl | rfl | rfl | rfl | rfl <;> rfl
theorem c_mh_P2 {D : List (Nat × Nat)} {I K : Nat → Nat → Int} {ρ : Nat → Nat → Option Nat} {S : Nat → Int} {B : Int} (hok : r_ok S B) (h : c_mh D I ρ S) (hk : ∀ c i, uP2 c i = false → K c i = I c i) (hlo : ∀ c i, tlo c i = false → K c i = I c i) : c_mh D K ρ S := by
  obtain ⟨h1, h2, h3, h4, c, g1, g2, g3, g4⟩ := h
  have h19 := r_ok_19 hok
  refine ⟨(hk 1 2 rfl).trans h1, (hk 1 4 rfl).trans h2, ?_, c_mems_cg h4 hlo, c, g1, g2, g3, ?_⟩
  · intro m b hm hb
    refine ⟨(hk _ _ (uP2_20 (by omega))).trans (h3 m b hm hb).1, ?_⟩
    rw [show 27 + m = 20 + (7 + m) by omega]
    refine (hk _ _ (uP2_20 (by omega))).trans ?_
    rw [show 20 + (7 + m) = 27 + m by omega]
    exact (h3 m b hm hb).2
  · rcases g3 with rfl | rfl | rfl | g3
    · exact (hk 12 0 rfl).trans g4
    · exact (hk 46 0 rfl).trans g4
    · exact (hk 102 0 rfl).trans g4
    · exact (hlo c 0 (tlo_hi g3)).trans g4
theorem c_month_2_l {X : Nat × (Nat → Int)} {D : List (Nat × Nat)} {I J : Nat → Nat → Int} {ρ : Nat → Nat → Option Nat} (d : Nat) {S : Nat → Int} {B : Int} {b : Nat} (hok : r_ok S B) (hwf : sp_wfS S) (hB : B ≤ 1900000000) (h0 : S 0 ≤ 199) (hb : b < (S 20).toNat) (hmh : c_mh D I ρ S) {cc : Int} {m : Nat} (hm : (m : Int) ≤ S 19) (hcc : cc = sp_cmc S b m) (hr0 : I 2 0 = S 0) (hr1 : I 2 1 = am_bits (sp_pm S b m) 6) (hr2 : I 2 2 = am_bits (sp_dp (sp_go S b)) 6) (hgl : ∀ j, j < (S 19).toNat → I 3 j = if j < m then sp_ng S b j else S (1 + j)) : am_E X (d + 3) 54 11 [(4, .inl (m : Int)), (3, .inl cc), (2, .inl (b : Int)), (1, .inr (.inr (.inl (some 1)))), (0, .inr (.inr (.inl (some 2))))] [] (am_mm D I J ρ) (fun q => ∃ Q, q = (some (.inl (sp_cmc S b (S 19).toNat)), am_mm D (am_wp uP2 I Q) J ρ) ∧ c_roll Q 2 3 (sp_go S b)) := by
  have h19 := r_ok_19 hok
  have hmh0 := hmh
  obtain ⟨h12, h14, hlo, hmem, hcm⟩ := hmh
  have hmh := hmh0
  have ccb := sp_cmc_b (S := S) (b := (b : Int)) m
  refine am_e_ss 3 (q := (17, [(4, .inl (m : Int)), (3, .inl cc), (2, .inl (b : Int)), (1, .inr (.inr (.inl (some 1)))), (0, .inr (.inr (.inl (some 2))))], [.inl ((I 1 2)), .inl (m : Int)], (am_mm D I J ρ))) rfl ?_
  refine am_e_icmp2 rfl ⟨by omega, by omega⟩ ⟨by omega, by omega⟩ (fun (hw1 : (I 1 2) ≤ (m : Int)) => ?_) (fun (hw1 : ¬ ((I 1 2) ≤ (m : Int))) => ?_)
  · show am_E _ _ _ 116 [(4, .inl (m : Int)), (3, .inl cc), (2, .inl (b : Int)), (1, .inr (.inr (.inl (some 1)))), (0, .inr (.inr (.inl (some 2))))] [] (am_mm D I J ρ) _
    refine am_e_ss 7 (q := (127, [(4, .inl (m : Int)), (3, .inl cc), (2, .inl (b : Int)), (1, .inr (.inr (.inl (some 1)))), (0, .inr (.inr (.inl (some 2))))], [.inl cc], (am_mm D (am_up I 2 0 ((I 2 0) + 1)) J ρ))) rfl ?_
    refine am_e_ireturn rfl rfl ?_
    have em : m = (S 19).toNat := by omega
    subst em
    rw [hcc]
    refine ⟨_, am_r_wp uP2 (am_k_up rfl (am_k_id)), ?_, ?_, hr2, ?_⟩
    · show I 2 0 + 1 = _
      rw [sp_go_0, hr0]
    · show I 2 1 = _
      rw [hr1]
      exact am_bits_cg 6 (fun x hx => sp_pm_go hok (by omega) hx)
    · intro j hj
      have h19b := sp_go_al (b := (b : Int)) hok ⟨by omega, by omega⟩ 19 (by omega)
      rw [← h19b] at hj
      show I 3 j = _
      rw [sp_go_gl hok (by omega) (by omega), hgl j hj]
  · show am_E _ _ _ 20 [(4, .inl (m : Int)), (3, .inl cc), (2, .inl (b : Int)), (1, .inr (.inr (.inl (some 1)))), (0, .inr (.inr (.inl (some 2))))] [] (am_mm D I J ρ) _
    refine am_e_ss 2 (q := (23, [(4, .inl (m : Int)), (3, .inl cc), (2, .inl (b : Int)), (1, .inr (.inr (.inl (some 1)))), (0, .inr (.inr (.inl (some 2))))], [.inl (m : Int), .inr (.inr (.inl (some 2)))], (am_mm D I J ρ))) rfl ?_
    refine am_e_virtual (Q := fun r => r = (some (.inl ((am_bi (sp_pm S b m m = true)))), (am_mm D I J ρ))) rfl rfl (Nat.le_of_ble_eq_true rfl) rfl rfl (Nat.le_of_ble_eq_true rfl) (Nat.le_of_ble_eq_true rfl) (c_isHere_2 _ (p := sp_pm S b m) hr1 (by omega)) ?_
    rintro r rfl
    show am_E _ _ _ 26 [(4, .inl (m : Int)), (3, .inl cc), (2, .inl (b : Int)), (1, .inr (.inr (.inl (some 1)))), (0, .inr (.inr (.inl (some 2))))] [.inl ((am_bi (sp_pm S b m m = true)))] (am_mm D I J ρ) _
    refine am_e_ifeq rfl (fun hw2 => ?_) (fun hw2 => ?_)
    · show am_E _ _ _ 110 [(4, .inl (m : Int)), (3, .inl cc), (2, .inl (b : Int)), (1, .inr (.inr (.inl (some 1)))), (0, .inr (.inr (.inl (some 2))))] [] (am_mm D I J ρ) _
      refine am_e_ss 2 (q := (11, [(4, .inl ((m : Int) + 1)), (3, .inl cc), (2, .inl (b : Int)), (1, .inr (.inr (.inl (some 1)))), (0, .inr (.inr (.inl (some 2))))], [], (am_mm D I J ρ))) rfl ?_
      have hmh2 : c_mh D (I) ρ S := c_mh_P2 hok hmh (am_k_id) (am_k_id)
      have hh : ¬ S (7 + m) = 0 := by
        intro h
        have h2 : sp_hp S m = true := sp_hp_t.mpr ⟨by omega, h⟩
        rw [← sp_pm_m (b := (b : Int))] at h2
        exact absurd h2 (by assumption)
      have eg : ∀ j, j < (S 19).toNat → I 3 j = if j < m + 1 then sp_ng S b j else S (1 + j) := by
        intro j hj
        refine (hgl j hj).trans ?_
        by_cases e : j = m
        · subst e; rw [if_neg (by omega), if_pos (by omega)]; unfold sp_ng; rw [if_neg hh]
        · by_cases e2 : j < m
          · rw [if_pos e2, if_pos (by omega)]
          · rw [if_neg e2, if_neg (by omega)]
      have ec : cc = sp_cmc S b (m + 1) := by
        unfold sp_cmc
        rw [if_neg hh]
        omega
      have er : I 2 1 = am_bits (sp_pm S b (m + 1)) 6 := by
        rw [hr1]
        refine am_bits_cg 6 (fun x _ => ?_)
        unfold sp_pm
        by_cases e : x = m
        · subst e
          have : sp_hp S x = false := by unfold sp_hp; simp [hh]
          simp [this]
        · have e3 : decide (x < m + 1) = decide (x < m) := by
            by_cases e4 : x < m
            · simp [e4]; omega
            · simp [e4]; omega
          rw [e3]
      refine (am_less (lv := [(4, .inl ((m + 1) : Int)), (3, .inl cc), (2, .inl (b : Int)), (1, .inr (.inr (.inl (some 1)))), (0, .inr (.inr (.inl (some 2))))]) rfl (List.forall_mem_cons.mpr ⟨rfl, List.forall_mem_cons.mpr ⟨rfl, List.forall_mem_cons.mpr ⟨rfl, List.forall_mem_cons.mpr ⟨rfl, List.forall_mem_cons.mpr ⟨rfl, List.forall_mem_nil _⟩⟩⟩⟩⟩) (c_month_2_l (I := I) d (b := b) (m := m + 1) hok hwf hB h0 hb hmh2 (by omega) ec hr0 er hr2 eg)).imp ?_
      rintro q ⟨Q9, rfl, h9⟩
      exact ⟨Q9, am_r_wk uP2 (am_k_id), h9⟩
    · show am_E _ _ _ 29 [(4, .inl (m : Int)), (3, .inl cc), (2, .inl (b : Int)), (1, .inr (.inr (.inl (some 1)))), (0, .inr (.inr (.inl (some 2))))] [] (am_mm D I J ρ) _
      have hh : S (7 + m) = 0 := by
        have h : sp_pm S b m m = true := by assumption
        rw [sp_pm_m] at h
        exact (sp_hp_t.mp h).2
      have hgm := hgl m (by omega)
      rw [if_neg (by omega)] at hgm
      have hlkm := hlo m b (by omega) hb
      have lb := sp_like_b hok hwf (m := (m : Int)) (b := (b : Int)) ⟨by omega, by omega⟩ ⟨by omega, by omega⟩
      have cm01 := sp_cmi_01 S m b
      have oGm : -B ≤ S (1 + m) ∧ S (1 + m) ≤ B := by
        obtain ⟨o0, oG, _⟩ := hok
        exact oG m (by omega)
      refine am_e_ss 5 (q := (37, [(4, .inl (m : Int)), (3, .inl cc), (2, .inl (b : Int)), (1, .inr (.inr (.inl (some 1)))), (0, .inr (.inr (.inl (some 2))))], [.inl ((I 2 0)), .inl (b : Int), .inl (m : Int), .inr (.inr (.inl (some 1)))], (am_mm D I J ρ))) rfl ?_
      refine am_e_virtual (Q := fun r => r = (some (.inl ((sp_cmi S m b))), (am_mm D I J ρ))) rfl rfl (Nat.le_of_ble_eq_true rfl) rfl rfl (Nat.le_of_ble_eq_true rfl) (Nat.le_of_ble_eq_true rfl) (c_attends _ (m := m) (b := b) hok (by omega) (by omega) hr0 hmh) ?_
      rintro r rfl
      show am_E _ _ _ 40 [(4, .inl (m : Int)), (3, .inl cc), (2, .inl (b : Int)), (1, .inr (.inr (.inl (some 1)))), (0, .inr (.inr (.inl (some 2))))] [.inl ((sp_cmi S m b))] (am_mm D I J ρ) _
      refine am_e_if2 rfl ⟨by omega, by omega⟩ (fun (hw3 : (sp_cmi S m b) = 0) => ?_) (fun (hw3 : ¬ ((sp_cmi S m b) = 0)) => ?_)
      · show am_E _ _ _ 71 [(4, .inl (m : Int)), (3, .inl cc), (2, .inl (b : Int)), (1, .inr (.inr (.inl (some 1)))), (0, .inr (.inr (.inl (some 2))))] [] (am_mm D I J ρ) _
        refine am_e_ss 4 (q := (78, [(4, .inl (m : Int)), (3, .inl cc), (2, .inl (b : Int)), (1, .inr (.inr (.inl (some 1)))), (0, .inr (.inr (.inl (some 2))))], [.inl (m : Int), .inr (.inr (.inl (some 3))), .inl (m : Int), .inr (.inr (.inl (some 3)))], (am_mm D I J ρ))) rfl ?_
        refine am_e_iaload (m := 6) rfl rfl (by omega) (by omega) (by omega) ?_
        show am_E _ _ _ 79 [(4, .inl (m : Int)), (3, .inl cc), (2, .inl (b : Int)), (1, .inr (.inr (.inl (some 1)))), (0, .inr (.inr (.inl (some 2))))] [.inl ((I 3 m)), .inl (m : Int), .inr (.inr (.inl (some 3)))] (am_mm D I J ρ) _
        refine am_e_ss 2 (q := (82, [(4, .inl (m : Int)), (3, .inl cc), (2, .inl (b : Int)), (1, .inr (.inr (.inl (some 1)))), (0, .inr (.inr (.inl (some 2))))], [.inl ((I 3 m) - 10), .inl (m : Int), .inr (.inr (.inl (some 3)))], (am_mm D I J ρ))) rfl ?_
        refine am_e_iastore (m := 6) rfl rfl (by omega) (by omega) (by omega) ?_
        show am_E _ _ _ 83 [(4, .inl (m : Int)), (3, .inl cc), (2, .inl (b : Int)), (1, .inr (.inr (.inl (some 1)))), (0, .inr (.inr (.inl (some 2))))] [] (am_mm D (am_up I 3 m ((I 3 m) - 10)) J ρ) _
        refine am_e_ss 3 (q := (89, [(4, .inl (m : Int)), (3, .inl cc), (2, .inl (b : Int)), (1, .inr (.inr (.inl (some 1)))), (0, .inr (.inr (.inl (some 2))))], [.inl (m : Int), .inr (.inr (.inl (some 3)))], (am_mm D (am_up I 3 m ((I 3 m) - 10)) J ρ))) rfl ?_
        refine am_e_iaload (m := 6) rfl rfl (by omega) (by omega) (by omega) ?_
        show am_E _ _ _ 90 [(4, .inl (m : Int)), (3, .inl cc), (2, .inl (b : Int)), (1, .inr (.inr (.inl (some 1)))), (0, .inr (.inr (.inl (some 2))))] [.inl (((am_up I 3 m ((I 3 m) - 10)) 3 m))] (am_mm D (am_up I 3 m ((I 3 m) - 10)) J ρ) _
        rw [show ((am_up I 3 m ((I 3 m) - 10)) 3 m) = ((I 3 m) - 10) from am_up_at2]
        show am_E _ _ _ 90 [(4, .inl (m : Int)), (3, .inl cc), (2, .inl (b : Int)), (1, .inr (.inr (.inl (some 1)))), (0, .inr (.inr (.inl (some 2))))] [.inl (((I 3 m) - 10))] (am_mm D (am_up I 3 m ((I 3 m) - 10)) J ρ) _
        refine am_e_ss 1 (q := (92, [(4, .inl (m : Int)), (3, .inl cc), (2, .inl (b : Int)), (1, .inr (.inr (.inl (some 1)))), (0, .inr (.inr (.inl (some 2))))], [.inl (-50), .inl (((I 3 m) - 10))], (am_mm D (am_up I 3 m ((I 3 m) - 10)) J ρ))) rfl ?_
        refine am_e_icmp2 rfl ⟨by omega, by omega⟩ ⟨by omega, by omega⟩ (fun (hw4 : (-50) ≤ ((I 3 m) - 10)) => ?_) (fun (hw4 : ¬ ((-50) ≤ ((I 3 m) - 10))) => ?_)
        · show am_E _ _ _ 110 [(4, .inl (m : Int)), (3, .inl cc), (2, .inl (b : Int)), (1, .inr (.inr (.inl (some 1)))), (0, .inr (.inr (.inl (some 2))))] [] (am_mm D (am_up I 3 m ((I 3 m) - 10)) J ρ) _
          refine am_e_ss 2 (q := (11, [(4, .inl ((m : Int) + 1)), (3, .inl cc), (2, .inl (b : Int)), (1, .inr (.inr (.inl (some 1)))), (0, .inr (.inr (.inl (some 2))))], [], (am_mm D (am_up I 3 m ((I 3 m) - 10)) J ρ))) rfl ?_
          have hmh2 : c_mh D (am_up I 3 m ((I 3 m) - 10)) ρ S := c_mh_P2 hok hmh (am_k_up rfl (am_k_id)) (am_k_up rfl (am_k_id))
          have hdl : ((I 3 m) - 10) = sp_ng S b m := by
            unfold sp_ng sp_dl
            rw [if_pos hh]
            split <;> omega
          have eg : ∀ j, j < (S 19).toNat → (am_up I 3 m ((I 3 m) - 10)) 3 j = if j < m + 1 then sp_ng S b j else S (1 + j) := by
            intro j hj
            by_cases e : j = m
            · subst e; rw [if_pos (by omega)]; exact am_up_at2.trans hdl
            · refine ((am_up_ne2 (by omega)).trans (hgl j hj)).trans ?_
              by_cases e2 : j < m
              · rw [if_pos e2, if_pos (by omega)]
              · rw [if_neg e2, if_neg (by omega)]
          have ec : cc = sp_cmc S b (m + 1) := by
            unfold sp_cmc
            rw [if_pos hh]
            omega
          have er : (am_up I 3 m ((I 3 m) - 10)) 2 1 = am_bits (sp_pm S b (m + 1)) 6 := by
            show I 2 1 = _
            rw [hr1]
            refine am_bits_cg 6 (fun x _ => ?_)
            unfold sp_pm
            by_cases e : x = m
            · subst e
              have : ¬ sp_ng S b x < -50 := by omega
              simp [this]
            · have e3 : decide (x < m + 1) = decide (x < m) := by
                by_cases e4 : x < m
                · simp [e4]; omega
                · simp [e4]; omega
              rw [e3]
          refine (am_less (lv := [(4, .inl ((m + 1) : Int)), (3, .inl cc), (2, .inl (b : Int)), (1, .inr (.inr (.inl (some 1)))), (0, .inr (.inr (.inl (some 2))))]) rfl (List.forall_mem_cons.mpr ⟨rfl, List.forall_mem_cons.mpr ⟨rfl, List.forall_mem_cons.mpr ⟨rfl, List.forall_mem_cons.mpr ⟨rfl, List.forall_mem_cons.mpr ⟨rfl, List.forall_mem_nil _⟩⟩⟩⟩⟩) (c_month_2_l (I := am_up I 3 m ((I 3 m) - 10)) d (b := b) (m := m + 1) hok hwf hB h0 hb hmh2 (by omega) ec hr0 er hr2 eg)).imp ?_
          rintro q ⟨Q9, rfl, h9⟩
          exact ⟨Q9, am_r_wk uP2 (am_k_up rfl (am_k_id)), h9⟩
        · show am_E _ _ _ 95 [(4, .inl (m : Int)), (3, .inl cc), (2, .inl (b : Int)), (1, .inr (.inr (.inl (some 1)))), (0, .inr (.inr (.inl (some 2))))] [] (am_mm D (am_up I 3 m ((I 3 m) - 10)) J ρ) _
          refine am_e_ss 12 (q := (11, [(4, .inl ((m : Int) + 1)), (3, .inl cc), (2, .inl (b : Int)), (1, .inr (.inr (.inl (some 1)))), (0, .inr (.inr (.inl (some 2))))], [], (am_mm D (am_up (am_up I 3 m ((I 3 m) - 10)) 2 1 (Int32.ofInt (I 2 1) &&& Int32.ofInt (Int32.ofInt (Int32.ofInt 1 <<< (Int32.ofInt (m : Int) &&& 31)).toInt ^^^ Int32.ofInt (-1)).toInt).toInt) J ρ))) rfl ?_
          have hmh2 : c_mh D (am_up (am_up I 3 m ((I 3 m) - 10)) 2 1 (Int32.ofInt (I 2 1) &&& Int32.ofInt (Int32.ofInt (Int32.ofInt 1 <<< (Int32.ofInt (m : Int) &&& 31)).toInt ^^^ Int32.ofInt (-1)).toInt).toInt) ρ S := c_mh_P2 hok hmh (am_k_up rfl (am_k_up rfl (am_k_id))) (am_k_up rfl (am_k_up rfl (am_k_id)))
          have hdl : ((I 3 m) - 10) = sp_ng S b m := by
            unfold sp_ng sp_dl
            rw [if_pos hh]
            split <;> omega
          have eg : ∀ j, j < (S 19).toNat → (am_up (am_up I 3 m ((I 3 m) - 10)) 2 1 (Int32.ofInt (I 2 1) &&& Int32.ofInt (Int32.ofInt (Int32.ofInt 1 <<< (Int32.ofInt (m : Int) &&& 31)).toInt ^^^ Int32.ofInt (-1)).toInt).toInt) 3 j = if j < m + 1 then sp_ng S b j else S (1 + j) := by
            intro j hj
            by_cases e : j = m
            · subst e; rw [if_pos (by omega)]; exact (am_up_ne2 (by omega)).trans (am_up_at2.trans hdl)
            · refine ((am_up_ne2 (by omega)).trans ((am_up_ne2 (by omega)).trans (hgl j hj))).trans ?_
              by_cases e2 : j < m
              · rw [if_pos e2, if_pos (by omega)]
              · rw [if_neg e2, if_neg (by omega)]
          have ec : cc = sp_cmc S b (m + 1) := by
            unfold sp_cmc
            rw [if_pos hh]
            omega
          have er : (am_up (am_up I 3 m ((I 3 m) - 10)) 2 1 (Int32.ofInt (I 2 1) &&& Int32.ofInt (Int32.ofInt (Int32.ofInt 1 <<< (Int32.ofInt (m : Int) &&& 31)).toInt ^^^ Int32.ofInt (-1)).toInt).toInt) 2 1 = am_bits (sp_pm S b (m + 1)) 6 := by
            show (Int32.ofInt (I 2 1) &&& Int32.ofInt (Int32.ofInt (Int32.ofInt 1 <<< (Int32.ofInt (m : Int) &&& 31)).toInt ^^^ Int32.ofInt (-1)).toInt).toInt = _
            rw [hr1]
            refine (am_bits_clr _ m (by omega)).trans (am_bits_cg 6 (fun x _ => ?_))
            unfold sp_pm
            by_cases e : x = m
            · subst e
              have : sp_ng S b x < -50 := by omega
              simp [this]
            · have e3 : decide (x < m + 1) = decide (x < m) := by
                by_cases e4 : x < m
                · simp [e4]; omega
                · simp [e4]; omega
              rw [e3]; simp [e]
          refine (am_less (lv := [(4, .inl ((m + 1) : Int)), (3, .inl cc), (2, .inl (b : Int)), (1, .inr (.inr (.inl (some 1)))), (0, .inr (.inr (.inl (some 2))))]) rfl (List.forall_mem_cons.mpr ⟨rfl, List.forall_mem_cons.mpr ⟨rfl, List.forall_mem_cons.mpr ⟨rfl, List.forall_mem_cons.mpr ⟨rfl, List.forall_mem_cons.mpr ⟨rfl, List.forall_mem_nil _⟩⟩⟩⟩⟩) (c_month_2_l (I := am_up (am_up I 3 m ((I 3 m) - 10)) 2 1 (Int32.ofInt (I 2 1) &&& Int32.ofInt (Int32.ofInt (Int32.ofInt 1 <<< (Int32.ofInt (m : Int) &&& 31)).toInt ^^^ Int32.ofInt (-1)).toInt).toInt) d (b := b) (m := m + 1) hok hwf hB h0 hb hmh2 (by omega) ec hr0 er hr2 eg)).imp ?_
          rintro q ⟨Q9, rfl, h9⟩
          exact ⟨Q9, am_r_wk uP2 (am_k_up rfl (am_k_up rfl (am_k_id))), h9⟩
      · show am_E _ _ _ 43 [(4, .inl (m : Int)), (3, .inl cc), (2, .inl (b : Int)), (1, .inr (.inr (.inl (some 1)))), (0, .inr (.inr (.inl (some 2))))] [] (am_mm D I J ρ) _
        refine am_e_ss 5 (q := (53, [(3, .inl (cc + 1)), (4, .inl (m : Int)), (2, .inl (b : Int)), (1, .inr (.inr (.inl (some 1)))), (0, .inr (.inr (.inl (some 2))))], [.inl (m : Int), .inr (.inr (.inl (some 3))), .inl (m : Int), .inr (.inr (.inl (some 3)))], (am_mm D I J ρ))) rfl ?_
        refine am_e_iaload (m := 6) rfl rfl (by omega) (by omega) (by omega) ?_
        show am_E _ _ _ 54 [(3, .inl (cc + 1)), (4, .inl (m : Int)), (2, .inl (b : Int)), (1, .inr (.inr (.inl (some 1)))), (0, .inr (.inr (.inl (some 2))))] [.inl ((I 3 m)), .inl (m : Int), .inr (.inr (.inl (some 3)))] (am_mm D I J ρ) _
        refine am_e_ss 3 (q := (60, [(3, .inl (cc + 1)), (4, .inl (m : Int)), (2, .inl (b : Int)), (1, .inr (.inr (.inl (some 1)))), (0, .inr (.inr (.inl (some 2))))], [.inl (m : Int), .inr (.inr (.inl (some 19))), .inl ((I 3 m)), .inl (m : Int), .inr (.inr (.inl (some 3)))], (am_mm D I J ρ))) rfl ?_
        refine am_e_aaload (m := 6) (c := 23) rfl rfl (by decide) (by omega) (by omega) (by omega) ?_
        rw [show ((am_mm D I J ρ)).2.2.2 19 ((m : Int)).toNat = some (20 + m) from (am_r19 (ρ := ρ) (by omega))]
        show am_E _ _ _ 61 [(3, .inl (cc + 1)), (4, .inl (m : Int)), (2, .inl (b : Int)), (1, .inr (.inr (.inl (some 1)))), (0, .inr (.inr (.inl (some 2))))] [.inr (.inr (.inl (some (20 + m)))), .inl ((I 3 m)), .inl (m : Int), .inr (.inr (.inl (some 3)))] (am_mm D I J ρ) _
        refine am_e_ss 1 (q := (62, [(3, .inl (cc + 1)), (4, .inl (m : Int)), (2, .inl (b : Int)), (1, .inr (.inr (.inl (some 1)))), (0, .inr (.inr (.inl (some 2))))], [.inl (b : Int), .inr (.inr (.inl (some (20 + m)))), .inl ((I 3 m)), .inl (m : Int), .inr (.inr (.inl (some 3)))], (am_mm D I J ρ))) rfl ?_
        refine am_e_iaload (m := 6) rfl (am_k20 (by omega)) (by omega) (by omega) (by omega) ?_
        show am_E _ _ _ 63 [(3, .inl (cc + 1)), (4, .inl (m : Int)), (2, .inl (b : Int)), (1, .inr (.inr (.inl (some 1)))), (0, .inr (.inr (.inl (some 2))))] [.inl ((I (20 + m) b)), .inl ((I 3 m)), .inl (m : Int), .inr (.inr (.inl (some 3)))] (am_mm D I J ρ) _
        refine am_e_ss 3 (q := (67, [(3, .inl (cc + 1)), (4, .inl (m : Int)), (2, .inl (b : Int)), (1, .inr (.inr (.inl (some 1)))), (0, .inr (.inr (.inl (some 2))))], [.inl ((I 3 m) + ((I (20 + m) b) - 50)), .inl (m : Int), .inr (.inr (.inl (some 3)))], (am_mm D I J ρ))) rfl ?_
        refine am_e_iastore (m := 6) rfl rfl (by omega) (by omega) (by omega) ?_
        show am_E _ _ _ 68 [(3, .inl (cc + 1)), (4, .inl (m : Int)), (2, .inl (b : Int)), (1, .inr (.inr (.inl (some 1)))), (0, .inr (.inr (.inl (some 2))))] [] (am_mm D (am_up I 3 m ((I 3 m) + ((I (20 + m) b) - 50))) J ρ) _
        refine am_e_ss 4 (q := (89, [(3, .inl (cc + 1)), (4, .inl (m : Int)), (2, .inl (b : Int)), (1, .inr (.inr (.inl (some 1)))), (0, .inr (.inr (.inl (some 2))))], [.inl (m : Int), .inr (.inr (.inl (some 3)))], (am_mm D (am_up I 3 m ((I 3 m) + ((I (20 + m) b) - 50))) J ρ))) rfl ?_
        refine am_e_iaload (m := 6) rfl rfl (by omega) (by omega) (by omega) ?_
        show am_E _ _ _ 90 [(3, .inl (cc + 1)), (4, .inl (m : Int)), (2, .inl (b : Int)), (1, .inr (.inr (.inl (some 1)))), (0, .inr (.inr (.inl (some 2))))] [.inl (((am_up I 3 m ((I 3 m) + ((I (20 + m) b) - 50))) 3 m))] (am_mm D (am_up I 3 m ((I 3 m) + ((I (20 + m) b) - 50))) J ρ) _
        rw [show ((am_up I 3 m ((I 3 m) + ((I (20 + m) b) - 50))) 3 m) = ((I 3 m) + ((I (20 + m) b) - 50)) from am_up_at2]
        show am_E _ _ _ 90 [(3, .inl (cc + 1)), (4, .inl (m : Int)), (2, .inl (b : Int)), (1, .inr (.inr (.inl (some 1)))), (0, .inr (.inr (.inl (some 2))))] [.inl (((I 3 m) + ((I (20 + m) b) - 50)))] (am_mm D (am_up I 3 m ((I 3 m) + ((I (20 + m) b) - 50))) J ρ) _
        refine am_e_ss 1 (q := (92, [(3, .inl (cc + 1)), (4, .inl (m : Int)), (2, .inl (b : Int)), (1, .inr (.inr (.inl (some 1)))), (0, .inr (.inr (.inl (some 2))))], [.inl (-50), .inl (((I 3 m) + ((I (20 + m) b) - 50)))], (am_mm D (am_up I 3 m ((I 3 m) + ((I (20 + m) b) - 50))) J ρ))) rfl ?_
        refine am_e_icmp2 rfl ⟨by omega, by omega⟩ ⟨by omega, by omega⟩ (fun (hw5 : (-50) ≤ ((I 3 m) + ((I (20 + m) b) - 50))) => ?_) (fun (hw5 : ¬ ((-50) ≤ ((I 3 m) + ((I (20 + m) b) - 50)))) => ?_)
        · show am_E _ _ _ 110 [(3, .inl (cc + 1)), (4, .inl (m : Int)), (2, .inl (b : Int)), (1, .inr (.inr (.inl (some 1)))), (0, .inr (.inr (.inl (some 2))))] [] (am_mm D (am_up I 3 m ((I 3 m) + ((I (20 + m) b) - 50))) J ρ) _
          refine am_e_ss 2 (q := (11, [(4, .inl ((m : Int) + 1)), (3, .inl (cc + 1)), (2, .inl (b : Int)), (1, .inr (.inr (.inl (some 1)))), (0, .inr (.inr (.inl (some 2))))], [], (am_mm D (am_up I 3 m ((I 3 m) + ((I (20 + m) b) - 50))) J ρ))) rfl ?_
          have hmh2 : c_mh D (am_up I 3 m ((I 3 m) + ((I (20 + m) b) - 50))) ρ S := c_mh_P2 hok hmh (am_k_up rfl (am_k_id)) (am_k_up rfl (am_k_id))
          have hdl : ((I 3 m) + ((I (20 + m) b) - 50)) = sp_ng S b m := by
            unfold sp_ng sp_dl
            rw [if_pos hh]
            split <;> omega
          have eg : ∀ j, j < (S 19).toNat → (am_up I 3 m ((I 3 m) + ((I (20 + m) b) - 50))) 3 j = if j < m + 1 then sp_ng S b j else S (1 + j) := by
            intro j hj
            by_cases e : j = m
            · subst e; rw [if_pos (by omega)]; exact am_up_at2.trans hdl
            · refine ((am_up_ne2 (by omega)).trans (hgl j hj)).trans ?_
              by_cases e2 : j < m
              · rw [if_pos e2, if_pos (by omega)]
              · rw [if_neg e2, if_neg (by omega)]
          have ec : (cc + 1) = sp_cmc S b (m + 1) := by
            unfold sp_cmc
            rw [if_pos hh]
            omega
          have er : (am_up I 3 m ((I 3 m) + ((I (20 + m) b) - 50))) 2 1 = am_bits (sp_pm S b (m + 1)) 6 := by
            show I 2 1 = _
            rw [hr1]
            refine am_bits_cg 6 (fun x _ => ?_)
            unfold sp_pm
            by_cases e : x = m
            · subst e
              have : ¬ sp_ng S b x < -50 := by omega
              simp [this]
            · have e3 : decide (x < m + 1) = decide (x < m) := by
                by_cases e4 : x < m
                · simp [e4]; omega
                · simp [e4]; omega
              rw [e3]
          refine (am_less (lv := [(4, .inl ((m + 1) : Int)), (3, .inl ((cc + 1))), (2, .inl (b : Int)), (1, .inr (.inr (.inl (some 1)))), (0, .inr (.inr (.inl (some 2))))]) rfl (List.forall_mem_cons.mpr ⟨rfl, List.forall_mem_cons.mpr ⟨rfl, List.forall_mem_cons.mpr ⟨rfl, List.forall_mem_cons.mpr ⟨rfl, List.forall_mem_cons.mpr ⟨rfl, List.forall_mem_nil _⟩⟩⟩⟩⟩) (c_month_2_l (I := am_up I 3 m ((I 3 m) + ((I (20 + m) b) - 50))) d (b := b) (m := m + 1) hok hwf hB h0 hb hmh2 (by omega) ec hr0 er hr2 eg)).imp ?_
          rintro q ⟨Q9, rfl, h9⟩
          exact ⟨Q9, am_r_wk uP2 (am_k_up rfl (am_k_id)), h9⟩
        · show am_E _ _ _ 95 [(3, .inl (cc + 1)), (4, .inl (m : Int)), (2, .inl (b : Int)), (1, .inr (.inr (.inl (some 1)))), (0, .inr (.inr (.inl (some 2))))] [] (am_mm D (am_up I 3 m ((I 3 m) + ((I (20 + m) b) - 50))) J ρ) _
          refine am_e_ss 12 (q := (11, [(4, .inl ((m : Int) + 1)), (3, .inl (cc + 1)), (2, .inl (b : Int)), (1, .inr (.inr (.inl (some 1)))), (0, .inr (.inr (.inl (some 2))))], [], (am_mm D (am_up (am_up I 3 m ((I 3 m) + ((I (20 + m) b) - 50))) 2 1 (Int32.ofInt (I 2 1) &&& Int32.ofInt (Int32.ofInt (Int32.ofInt 1 <<< (Int32.ofInt (m : Int) &&& 31)).toInt ^^^ Int32.ofInt (-1)).toInt).toInt) J ρ))) rfl ?_
          have hmh2 : c_mh D (am_up (am_up I 3 m ((I 3 m) + ((I (20 + m) b) - 50))) 2 1 (Int32.ofInt (I 2 1) &&& Int32.ofInt (Int32.ofInt (Int32.ofInt 1 <<< (Int32.ofInt (m : Int) &&& 31)).toInt ^^^ Int32.ofInt (-1)).toInt).toInt) ρ S := c_mh_P2 hok hmh (am_k_up rfl (am_k_up rfl (am_k_id))) (am_k_up rfl (am_k_up rfl (am_k_id)))
          have hdl : ((I 3 m) + ((I (20 + m) b) - 50)) = sp_ng S b m := by
            unfold sp_ng sp_dl
            rw [if_pos hh]
            split <;> omega
          have eg : ∀ j, j < (S 19).toNat → (am_up (am_up I 3 m ((I 3 m) + ((I (20 + m) b) - 50))) 2 1 (Int32.ofInt (I 2 1) &&& Int32.ofInt (Int32.ofInt (Int32.ofInt 1 <<< (Int32.ofInt (m : Int) &&& 31)).toInt ^^^ Int32.ofInt (-1)).toInt).toInt) 3 j = if j < m + 1 then sp_ng S b j else S (1 + j) := by
            intro j hj
            by_cases e : j = m
            · subst e; rw [if_pos (by omega)]; exact (am_up_ne2 (by omega)).trans (am_up_at2.trans hdl)
            · refine ((am_up_ne2 (by omega)).trans ((am_up_ne2 (by omega)).trans (hgl j hj))).trans ?_
              by_cases e2 : j < m
              · rw [if_pos e2, if_pos (by omega)]
              · rw [if_neg e2, if_neg (by omega)]
          have ec : (cc + 1) = sp_cmc S b (m + 1) := by
            unfold sp_cmc
            rw [if_pos hh]
            omega
          have er : (am_up (am_up I 3 m ((I 3 m) + ((I (20 + m) b) - 50))) 2 1 (Int32.ofInt (I 2 1) &&& Int32.ofInt (Int32.ofInt (Int32.ofInt 1 <<< (Int32.ofInt (m : Int) &&& 31)).toInt ^^^ Int32.ofInt (-1)).toInt).toInt) 2 1 = am_bits (sp_pm S b (m + 1)) 6 := by
            show (Int32.ofInt (I 2 1) &&& Int32.ofInt (Int32.ofInt (Int32.ofInt 1 <<< (Int32.ofInt (m : Int) &&& 31)).toInt ^^^ Int32.ofInt (-1)).toInt).toInt = _
            rw [hr1]
            refine (am_bits_clr _ m (by omega)).trans (am_bits_cg 6 (fun x _ => ?_))
            unfold sp_pm
            by_cases e : x = m
            · subst e
              have : sp_ng S b x < -50 := by omega
              simp [this]
            · have e3 : decide (x < m + 1) = decide (x < m) := by
                by_cases e4 : x < m
                · simp [e4]; omega
                · simp [e4]; omega
              rw [e3]; simp [e]
          refine (am_less (lv := [(4, .inl ((m + 1) : Int)), (3, .inl ((cc + 1))), (2, .inl (b : Int)), (1, .inr (.inr (.inl (some 1)))), (0, .inr (.inr (.inl (some 2))))]) rfl (List.forall_mem_cons.mpr ⟨rfl, List.forall_mem_cons.mpr ⟨rfl, List.forall_mem_cons.mpr ⟨rfl, List.forall_mem_cons.mpr ⟨rfl, List.forall_mem_cons.mpr ⟨rfl, List.forall_mem_nil _⟩⟩⟩⟩⟩) (c_month_2_l (I := am_up (am_up I 3 m ((I 3 m) + ((I (20 + m) b) - 50))) 2 1 (Int32.ofInt (I 2 1) &&& Int32.ofInt (Int32.ofInt (Int32.ofInt 1 <<< (Int32.ofInt (m : Int) &&& 31)).toInt ^^^ Int32.ofInt (-1)).toInt).toInt) d (b := b) (m := m + 1) hok hwf hB h0 hb hmh2 (by omega) ec hr0 er hr2 eg)).imp ?_
          rintro q ⟨Q9, rfl, h9⟩
          exact ⟨Q9, am_r_wk uP2 (am_k_up rfl (am_k_up rfl (am_k_id))), h9⟩
termination_by 7 - m
decreasing_by all_goals omega
theorem c_month_2 {X : Nat × (Nat → Int)} {D : List (Nat × Nat)} {I J : Nat → Nat → Int} {ρ : Nat → Nat → Option Nat} (d : Nat) {S : Nat → Int} {B : Int} {b : Nat} (hok : r_ok S B) (hwf : sp_wfS S) (hB : B ≤ 1900000000) (h0 : S 0 ≤ 199) (hb : b < (S 20).toNat) (hmh : c_mh D I ρ S) (hro : c_roll I 2 3 S) : am_E X (d + 3) 54 0 [(0, .inr (.inr (.inl (some 2)))), (1, .inr (.inr (.inl (some 1)))), (2, .inl (b : Int))] [] (am_mm D I J ρ) (fun q => ∃ Q, q = (some (.inl (sp_cmc S b (S 19).toNat)), am_mm D (am_wp uP2 I Q) J ρ) ∧ c_roll Q 2 3 (sp_go S b)) := by
  have h19 := r_ok_19 hok
  refine am_e_ss 5 (q := (5, [(3, .inl 0), (0, .inr (.inr (.inl (some 2)))), (1, .inr (.inr (.inl (some 1)))), (2, .inl (b : Int))], [.inl 1, .inl (b : Int), .inr (.inr (.inl (some 2)))], (am_mm D I J ρ))) rfl ?_
  refine am_e_virtual (Q := fun r => ∃ Q217, r = (none, (am_mm D (am_wp uH2 I Q217) J ρ)) ∧ Q217 2 2 = am_bits (fun x => if x = b then decide ((1 : Int) = 1) else sp_dp S x) 6) rfl rfl (Nat.le_of_ble_eq_true rfl) rfl rfl (Nat.le_of_ble_eq_true rfl) (Nat.le_of_ble_eq_true rfl) (c_setHad_2 _ (z := 1) (b := b) (p := sp_dp S) (Or.inr rfl) (by omega) hro.2.2.1) ?_
  rintro r ⟨Q217, rfl, hsh⟩
  show am_E _ _ _ 8 [(3, .inl 0), (0, .inr (.inr (.inl (some 2)))), (1, .inr (.inr (.inl (some 1)))), (2, .inl (b : Int))] [] (am_mm D (am_wp uH2 I Q217) J ρ) _
  refine am_e_ss 2 (q := (11, [(4, .inl 0), (3, .inl 0), (0, .inr (.inr (.inl (some 2)))), (1, .inr (.inr (.inl (some 1)))), (2, .inl (b : Int))], [], (am_mm D (am_wp uH2 I Q217) J ρ))) rfl ?_
  have hmh2 : c_mh D (am_wp uH2 I Q217) ρ S := c_mh_P2 hok hmh (am_k_wp (uH2_uP2) (am_k_id)) (am_k_wp (fun c i h => uP2_tlo c i (uH2_uP2 c i h)) am_k_id)
  refine (am_less (lv := [(4, .inl (0 : Int)), (3, .inl 0), (2, .inl (b : Int)), (1, .inr (.inr (.inl (some 1)))), (0, .inr (.inr (.inl (some 2))))]) rfl (List.forall_mem_cons.mpr ⟨rfl, List.forall_mem_cons.mpr ⟨rfl, List.forall_mem_cons.mpr ⟨rfl, List.forall_mem_cons.mpr ⟨rfl, List.forall_mem_cons.mpr ⟨rfl, List.forall_mem_nil _⟩⟩⟩⟩⟩) (c_month_2_l (I := am_wp uH2 I Q217) d (b := b) (m := 0) hok hwf hB h0 hb hmh2 (by omega) rfl hro.1 (by rw [sp_pm_0]; exact hro.2.1) (by (show Q217 2 2 = _); rw [hsh]; exact am_bits_cg 6 (fun x _ => sp_dp_go hok hb)) (fun j hj => by rw [if_neg (by omega)]; exact hro.2.2.2 j hj))).imp ?_
  rintro q ⟨Q9, rfl, h9⟩
  exact ⟨Q9, am_r_wk uP2 (am_k_wp (uH2_uP2) (am_k_id)), h9⟩
def uP69 : Nat → Nat → Bool := fun c i => Nat.beq c 70 || (Nat.beq c 69 && (Nat.beq i 0 || Nat.beq i 1 || Nat.beq i 2))
theorem uH69_uP69 : ∀ c i, uH69 c i = true → uP69 c i = true := by
  intro c i
  unfold uH69 uP69
  simp
  omega
theorem uP69_tlo : ∀ c i, uP69 c i = true → tlo c i = true := by
  intro c i
  unfold uP69 tlo
  simp
  omega
theorem uP69_20 {m i : Nat} (h : m < 13) : uP69 (20 + m) i = false := by
  have h : m = 0 ∨ m = 1 ∨ m = 2 ∨ m = 3 ∨ m = 4 ∨ m = 5 ∨ m = 6 ∨ m = 7 ∨ m = 8 ∨ m = 9 ∨ m = 10 ∨ m = 11 ∨ m = 12 := by omega
  rcases h with rfl | rfl | rfl | rfl | rfl | rfl | rfl | rfl | rfl | rfl | rfl | rfl | rfl <;> rfl
theorem c_mh_P69 {D : List (Nat × Nat)} {I K : Nat → Nat → Int} {ρ : Nat → Nat → Option Nat} {S : Nat → Int} {B : Int} (hok : r_ok S B) (h : c_mh D I ρ S) (hk : ∀ c i, uP69 c i = false → K c i = I c i) (hlo : ∀ c i, tlo c i = false → K c i = I c i) : c_mh D K ρ S := by
  obtain ⟨h1, h2, h3, h4, c, g1, g2, g3, g4⟩ := h
  have h19 := r_ok_19 hok
  refine ⟨(hk 1 2 rfl).trans h1, (hk 1 4 rfl).trans h2, ?_, c_mems_cg h4 hlo, c, g1, g2, g3, ?_⟩
  · intro m b hm hb
    refine ⟨(hk _ _ (uP69_20 (by omega))).trans (h3 m b hm hb).1, ?_⟩
    rw [show 27 + m = 20 + (7 + m) by omega]
    refine (hk _ _ (uP69_20 (by omega))).trans ?_
    rw [show 20 + (7 + m) = 27 + m by omega]
    exact (h3 m b hm hb).2
  · rcases g3 with rfl | rfl | rfl | g3
    · exact (hk 12 0 rfl).trans g4
    · exact (hk 46 0 rfl).trans g4
    · exact (hk 102 0 rfl).trans g4
    · exact (hlo c 0 (tlo_hi g3)).trans g4
theorem c_month_69_l {X : Nat × (Nat → Int)} {D : List (Nat × Nat)} {I J : Nat → Nat → Int} {ρ : Nat → Nat → Option Nat} (d : Nat) {S : Nat → Int} {B : Int} {b : Nat} (hok : r_ok S B) (hwf : sp_wfS S) (hB : B ≤ 1900000000) (h0 : S 0 ≤ 199) (hb : b < (S 20).toNat) (hmh : c_mh D I ρ S) {cc : Int} {m : Nat} (hm : (m : Int) ≤ S 19) (hcc : cc = sp_cmc S b m) (hr0 : I 69 0 = S 0) (hr1 : I 69 1 = am_bits (sp_pm S b m) 6) (hr2 : I 69 2 = am_bits (sp_dp (sp_go S b)) 6) (hgl : ∀ j, j < (S 19).toNat → I 70 j = if j < m then sp_ng S b j else S (1 + j)) : am_E X (d + 3) 54 11 [(4, .inl (m : Int)), (3, .inl cc), (2, .inl (b : Int)), (1, .inr (.inr (.inl (some 1)))), (0, .inr (.inr (.inl (some 69))))] [] (am_mm D I J ρ) (fun q => ∃ Q, q = (some (.inl (sp_cmc S b (S 19).toNat)), am_mm D (am_wp uP69 I Q) J ρ) ∧ c_roll Q 69 70 (sp_go S b)) := by
  have h19 := r_ok_19 hok
  have hmh0 := hmh
  obtain ⟨h12, h14, hlo, hmem, hcm⟩ := hmh
  have hmh := hmh0
  have ccb := sp_cmc_b (S := S) (b := (b : Int)) m
  refine am_e_ss 3 (q := (17, [(4, .inl (m : Int)), (3, .inl cc), (2, .inl (b : Int)), (1, .inr (.inr (.inl (some 1)))), (0, .inr (.inr (.inl (some 69))))], [.inl ((I 1 2)), .inl (m : Int)], (am_mm D I J ρ))) rfl ?_
  refine am_e_icmp2 rfl ⟨by omega, by omega⟩ ⟨by omega, by omega⟩ (fun (hw1 : (I 1 2) ≤ (m : Int)) => ?_) (fun (hw1 : ¬ ((I 1 2) ≤ (m : Int))) => ?_)
  · show am_E _ _ _ 116 [(4, .inl (m : Int)), (3, .inl cc), (2, .inl (b : Int)), (1, .inr (.inr (.inl (some 1)))), (0, .inr (.inr (.inl (some 69))))] [] (am_mm D I J ρ) _
    refine am_e_ss 7 (q := (127, [(4, .inl (m : Int)), (3, .inl cc), (2, .inl (b : Int)), (1, .inr (.inr (.inl (some 1)))), (0, .inr (.inr (.inl (some 69))))], [.inl cc], (am_mm D (am_up I 69 0 ((I 69 0) + 1)) J ρ))) rfl ?_
    refine am_e_ireturn rfl rfl ?_
    have em : m = (S 19).toNat := by omega
    subst em
    rw [hcc]
    refine ⟨_, am_r_wp uP69 (am_k_up rfl (am_k_id)), ?_, ?_, hr2, ?_⟩
    · show I 69 0 + 1 = _
      rw [sp_go_0, hr0]
    · show I 69 1 = _
      rw [hr1]
      exact am_bits_cg 6 (fun x hx => sp_pm_go hok (by omega) hx)
    · intro j hj
      have h19b := sp_go_al (b := (b : Int)) hok ⟨by omega, by omega⟩ 19 (by omega)
      rw [← h19b] at hj
      show I 70 j = _
      rw [sp_go_gl hok (by omega) (by omega), hgl j hj]
  · show am_E _ _ _ 20 [(4, .inl (m : Int)), (3, .inl cc), (2, .inl (b : Int)), (1, .inr (.inr (.inl (some 1)))), (0, .inr (.inr (.inl (some 69))))] [] (am_mm D I J ρ) _
    refine am_e_ss 2 (q := (23, [(4, .inl (m : Int)), (3, .inl cc), (2, .inl (b : Int)), (1, .inr (.inr (.inl (some 1)))), (0, .inr (.inr (.inl (some 69))))], [.inl (m : Int), .inr (.inr (.inl (some 69)))], (am_mm D I J ρ))) rfl ?_
    refine am_e_virtual (Q := fun r => r = (some (.inl ((am_bi (sp_pm S b m m = true)))), (am_mm D I J ρ))) rfl rfl (Nat.le_of_ble_eq_true rfl) rfl rfl (Nat.le_of_ble_eq_true rfl) (Nat.le_of_ble_eq_true rfl) (c_isHere_69 _ (p := sp_pm S b m) hr1 (by omega)) ?_
    rintro r rfl
    show am_E _ _ _ 26 [(4, .inl (m : Int)), (3, .inl cc), (2, .inl (b : Int)), (1, .inr (.inr (.inl (some 1)))), (0, .inr (.inr (.inl (some 69))))] [.inl ((am_bi (sp_pm S b m m = true)))] (am_mm D I J ρ) _
    refine am_e_ifeq rfl (fun hw2 => ?_) (fun hw2 => ?_)
    · show am_E _ _ _ 110 [(4, .inl (m : Int)), (3, .inl cc), (2, .inl (b : Int)), (1, .inr (.inr (.inl (some 1)))), (0, .inr (.inr (.inl (some 69))))] [] (am_mm D I J ρ) _
      refine am_e_ss 2 (q := (11, [(4, .inl ((m : Int) + 1)), (3, .inl cc), (2, .inl (b : Int)), (1, .inr (.inr (.inl (some 1)))), (0, .inr (.inr (.inl (some 69))))], [], (am_mm D I J ρ))) rfl ?_
      have hmh2 : c_mh D (I) ρ S := c_mh_P69 hok hmh (am_k_id) (am_k_id)
      have hh : ¬ S (7 + m) = 0 := by
        intro h
        have h2 : sp_hp S m = true := sp_hp_t.mpr ⟨by omega, h⟩
        rw [← sp_pm_m (b := (b : Int))] at h2
        exact absurd h2 (by assumption)
      have eg : ∀ j, j < (S 19).toNat → I 70 j = if j < m + 1 then sp_ng S b j else S (1 + j) := by
        intro j hj
        refine (hgl j hj).trans ?_
        by_cases e : j = m
        · subst e; rw [if_neg (by omega), if_pos (by omega)]; unfold sp_ng; rw [if_neg hh]
        · by_cases e2 : j < m
          · rw [if_pos e2, if_pos (by omega)]
          · rw [if_neg e2, if_neg (by omega)]
      have ec : cc = sp_cmc S b (m + 1) := by
        unfold sp_cmc
        rw [if_neg hh]
        omega
      have er : I 69 1 = am_bits (sp_pm S b (m + 1)) 6 := by
        rw [hr1]
        refine am_bits_cg 6 (fun x _ => ?_)
        unfold sp_pm
        by_cases e : x = m
        · subst e
          have : sp_hp S x = false := by unfold sp_hp; simp [hh]
          simp [this]
        · have e3 : decide (x < m + 1) = decide (x < m) := by
            by_cases e4 : x < m
            · simp [e4]; omega
            · simp [e4]; omega
          rw [e3]
      refine (am_less (lv := [(4, .inl ((m + 1) : Int)), (3, .inl cc), (2, .inl (b : Int)), (1, .inr (.inr (.inl (some 1)))), (0, .inr (.inr (.inl (some 69))))]) rfl (List.forall_mem_cons.mpr ⟨rfl, List.forall_mem_cons.mpr ⟨rfl, List.forall_mem_cons.mpr ⟨rfl, List.forall_mem_cons.mpr ⟨rfl, List.forall_mem_cons.mpr ⟨rfl, List.forall_mem_nil _⟩⟩⟩⟩⟩) (c_month_69_l (I := I) d (b := b) (m := m + 1) hok hwf hB h0 hb hmh2 (by omega) ec hr0 er hr2 eg)).imp ?_
      rintro q ⟨Q9, rfl, h9⟩
      exact ⟨Q9, am_r_wk uP69 (am_k_id), h9⟩
    · show am_E _ _ _ 29 [(4, .inl (m : Int)), (3, .inl cc), (2, .inl (b : Int)), (1, .inr (.inr (.inl (some 1)))), (0, .inr (.inr (.inl (some 69))))] [] (am_mm D I J ρ) _
      have hh : S (7 + m) = 0 := by
        have h : sp_pm S b m m = true := by assumption
        rw [sp_pm_m] at h
        exact (sp_hp_t.mp h).2
      have hgm := hgl m (by omega)
      rw [if_neg (by omega)] at hgm
      have hlkm := hlo m b (by omega) hb
      have lb := sp_like_b hok hwf (m := (m : Int)) (b := (b : Int)) ⟨by omega, by omega⟩ ⟨by omega, by omega⟩
      have cm01 := sp_cmi_01 S m b
      have oGm : -B ≤ S (1 + m) ∧ S (1 + m) ≤ B := by
        obtain ⟨o0, oG, _⟩ := hok
        exact oG m (by omega)
      refine am_e_ss 5 (q := (37, [(4, .inl (m : Int)), (3, .inl cc), (2, .inl (b : Int)), (1, .inr (.inr (.inl (some 1)))), (0, .inr (.inr (.inl (some 69))))], [.inl ((I 69 0)), .inl (b : Int), .inl (m : Int), .inr (.inr (.inl (some 1)))], (am_mm D I J ρ))) rfl ?_
      refine am_e_virtual (Q := fun r => r = (some (.inl ((sp_cmi S m b))), (am_mm D I J ρ))) rfl rfl (Nat.le_of_ble_eq_true rfl) rfl rfl (Nat.le_of_ble_eq_true rfl) (Nat.le_of_ble_eq_true rfl) (c_attends _ (m := m) (b := b) hok (by omega) (by omega) hr0 hmh) ?_
      rintro r rfl
      show am_E _ _ _ 40 [(4, .inl (m : Int)), (3, .inl cc), (2, .inl (b : Int)), (1, .inr (.inr (.inl (some 1)))), (0, .inr (.inr (.inl (some 69))))] [.inl ((sp_cmi S m b))] (am_mm D I J ρ) _
      refine am_e_if2 rfl ⟨by omega, by omega⟩ (fun (hw3 : (sp_cmi S m b) = 0) => ?_) (fun (hw3 : ¬ ((sp_cmi S m b) = 0)) => ?_)
      · show am_E _ _ _ 71 [(4, .inl (m : Int)), (3, .inl cc), (2, .inl (b : Int)), (1, .inr (.inr (.inl (some 1)))), (0, .inr (.inr (.inl (some 69))))] [] (am_mm D I J ρ) _
        refine am_e_ss 4 (q := (78, [(4, .inl (m : Int)), (3, .inl cc), (2, .inl (b : Int)), (1, .inr (.inr (.inl (some 1)))), (0, .inr (.inr (.inl (some 69))))], [.inl (m : Int), .inr (.inr (.inl (some 70))), .inl (m : Int), .inr (.inr (.inl (some 70)))], (am_mm D I J ρ))) rfl ?_
        refine am_e_iaload (m := 6) rfl rfl (by omega) (by omega) (by omega) ?_
        show am_E _ _ _ 79 [(4, .inl (m : Int)), (3, .inl cc), (2, .inl (b : Int)), (1, .inr (.inr (.inl (some 1)))), (0, .inr (.inr (.inl (some 69))))] [.inl ((I 70 m)), .inl (m : Int), .inr (.inr (.inl (some 70)))] (am_mm D I J ρ) _
        refine am_e_ss 2 (q := (82, [(4, .inl (m : Int)), (3, .inl cc), (2, .inl (b : Int)), (1, .inr (.inr (.inl (some 1)))), (0, .inr (.inr (.inl (some 69))))], [.inl ((I 70 m) - 10), .inl (m : Int), .inr (.inr (.inl (some 70)))], (am_mm D I J ρ))) rfl ?_
        refine am_e_iastore (m := 6) rfl rfl (by omega) (by omega) (by omega) ?_
        show am_E _ _ _ 83 [(4, .inl (m : Int)), (3, .inl cc), (2, .inl (b : Int)), (1, .inr (.inr (.inl (some 1)))), (0, .inr (.inr (.inl (some 69))))] [] (am_mm D (am_up I 70 m ((I 70 m) - 10)) J ρ) _
        refine am_e_ss 3 (q := (89, [(4, .inl (m : Int)), (3, .inl cc), (2, .inl (b : Int)), (1, .inr (.inr (.inl (some 1)))), (0, .inr (.inr (.inl (some 69))))], [.inl (m : Int), .inr (.inr (.inl (some 70)))], (am_mm D (am_up I 70 m ((I 70 m) - 10)) J ρ))) rfl ?_
        refine am_e_iaload (m := 6) rfl rfl (by omega) (by omega) (by omega) ?_
        show am_E _ _ _ 90 [(4, .inl (m : Int)), (3, .inl cc), (2, .inl (b : Int)), (1, .inr (.inr (.inl (some 1)))), (0, .inr (.inr (.inl (some 69))))] [.inl (((am_up I 70 m ((I 70 m) - 10)) 70 m))] (am_mm D (am_up I 70 m ((I 70 m) - 10)) J ρ) _
        rw [show ((am_up I 70 m ((I 70 m) - 10)) 70 m) = ((I 70 m) - 10) from am_up_at2]
        show am_E _ _ _ 90 [(4, .inl (m : Int)), (3, .inl cc), (2, .inl (b : Int)), (1, .inr (.inr (.inl (some 1)))), (0, .inr (.inr (.inl (some 69))))] [.inl (((I 70 m) - 10))] (am_mm D (am_up I 70 m ((I 70 m) - 10)) J ρ) _
        refine am_e_ss 1 (q := (92, [(4, .inl (m : Int)), (3, .inl cc), (2, .inl (b : Int)), (1, .inr (.inr (.inl (some 1)))), (0, .inr (.inr (.inl (some 69))))], [.inl (-50), .inl (((I 70 m) - 10))], (am_mm D (am_up I 70 m ((I 70 m) - 10)) J ρ))) rfl ?_
        refine am_e_icmp2 rfl ⟨by omega, by omega⟩ ⟨by omega, by omega⟩ (fun (hw4 : (-50) ≤ ((I 70 m) - 10)) => ?_) (fun (hw4 : ¬ ((-50) ≤ ((I 70 m) - 10))) => ?_)
        · show am_E _ _ _ 110 [(4, .inl (m : Int)), (3, .inl cc), (2, .inl (b : Int)), (1, .inr (.inr (.inl (some 1)))), (0, .inr (.inr (.inl (some 69))))] [] (am_mm D (am_up I 70 m ((I 70 m) - 10)) J ρ) _
          refine am_e_ss 2 (q := (11, [(4, .inl ((m : Int) + 1)), (3, .inl cc), (2, .inl (b : Int)), (1, .inr (.inr (.inl (some 1)))), (0, .inr (.inr (.inl (some 69))))], [], (am_mm D (am_up I 70 m ((I 70 m) - 10)) J ρ))) rfl ?_
          have hmh2 : c_mh D (am_up I 70 m ((I 70 m) - 10)) ρ S := c_mh_P69 hok hmh (am_k_up rfl (am_k_id)) (am_k_up rfl (am_k_id))
          have hdl : ((I 70 m) - 10) = sp_ng S b m := by
            unfold sp_ng sp_dl
            rw [if_pos hh]
            split <;> omega
          have eg : ∀ j, j < (S 19).toNat → (am_up I 70 m ((I 70 m) - 10)) 70 j = if j < m + 1 then sp_ng S b j else S (1 + j) := by
            intro j hj
            by_cases e : j = m
            · subst e; rw [if_pos (by omega)]; exact am_up_at2.trans hdl
            · refine ((am_up_ne2 (by omega)).trans (hgl j hj)).trans ?_
              by_cases e2 : j < m
              · rw [if_pos e2, if_pos (by omega)]
              · rw [if_neg e2, if_neg (by omega)]
          have ec : cc = sp_cmc S b (m + 1) := by
            unfold sp_cmc
            rw [if_pos hh]
            omega
          have er : (am_up I 70 m ((I 70 m) - 10)) 69 1 = am_bits (sp_pm S b (m + 1)) 6 := by
            show I 69 1 = _
            rw [hr1]
            refine am_bits_cg 6 (fun x _ => ?_)
            unfold sp_pm
            by_cases e : x = m
            · subst e
              have : ¬ sp_ng S b x < -50 := by omega
              simp [this]
            · have e3 : decide (x < m + 1) = decide (x < m) := by
                by_cases e4 : x < m
                · simp [e4]; omega
                · simp [e4]; omega
              rw [e3]
          refine (am_less (lv := [(4, .inl ((m + 1) : Int)), (3, .inl cc), (2, .inl (b : Int)), (1, .inr (.inr (.inl (some 1)))), (0, .inr (.inr (.inl (some 69))))]) rfl (List.forall_mem_cons.mpr ⟨rfl, List.forall_mem_cons.mpr ⟨rfl, List.forall_mem_cons.mpr ⟨rfl, List.forall_mem_cons.mpr ⟨rfl, List.forall_mem_cons.mpr ⟨rfl, List.forall_mem_nil _⟩⟩⟩⟩⟩) (c_month_69_l (I := am_up I 70 m ((I 70 m) - 10)) d (b := b) (m := m + 1) hok hwf hB h0 hb hmh2 (by omega) ec hr0 er hr2 eg)).imp ?_
          rintro q ⟨Q9, rfl, h9⟩
          exact ⟨Q9, am_r_wk uP69 (am_k_up rfl (am_k_id)), h9⟩
        · show am_E _ _ _ 95 [(4, .inl (m : Int)), (3, .inl cc), (2, .inl (b : Int)), (1, .inr (.inr (.inl (some 1)))), (0, .inr (.inr (.inl (some 69))))] [] (am_mm D (am_up I 70 m ((I 70 m) - 10)) J ρ) _
          refine am_e_ss 12 (q := (11, [(4, .inl ((m : Int) + 1)), (3, .inl cc), (2, .inl (b : Int)), (1, .inr (.inr (.inl (some 1)))), (0, .inr (.inr (.inl (some 69))))], [], (am_mm D (am_up (am_up I 70 m ((I 70 m) - 10)) 69 1 (Int32.ofInt (I 69 1) &&& Int32.ofInt (Int32.ofInt (Int32.ofInt 1 <<< (Int32.ofInt (m : Int) &&& 31)).toInt ^^^ Int32.ofInt (-1)).toInt).toInt) J ρ))) rfl ?_
          have hmh2 : c_mh D (am_up (am_up I 70 m ((I 70 m) - 10)) 69 1 (Int32.ofInt (I 69 1) &&& Int32.ofInt (Int32.ofInt (Int32.ofInt 1 <<< (Int32.ofInt (m : Int) &&& 31)).toInt ^^^ Int32.ofInt (-1)).toInt).toInt) ρ S := c_mh_P69 hok hmh (am_k_up rfl (am_k_up rfl (am_k_id))) (am_k_up rfl (am_k_up rfl (am_k_id)))
          have hdl : ((I 70 m) - 10) = sp_ng S b m := by
            unfold sp_ng sp_dl
            rw [if_pos hh]
            split <;> omega
          have eg : ∀ j, j < (S 19).toNat → (am_up (am_up I 70 m ((I 70 m) - 10)) 69 1 (Int32.ofInt (I 69 1) &&& Int32.ofInt (Int32.ofInt (Int32.ofInt 1 <<< (Int32.ofInt (m : Int) &&& 31)).toInt ^^^ Int32.ofInt (-1)).toInt).toInt) 70 j = if j < m + 1 then sp_ng S b j else S (1 + j) := by
            intro j hj
            by_cases e : j = m
            · subst e; rw [if_pos (by omega)]; exact (am_up_ne2 (by omega)).trans (am_up_at2.trans hdl)
            · refine ((am_up_ne2 (by omega)).trans ((am_up_ne2 (by omega)).trans (hgl j hj))).trans ?_
              by_cases e2 : j < m
              · rw [if_pos e2, if_pos (by omega)]
              · rw [if_neg e2, if_neg (by omega)]
          have ec : cc = sp_cmc S b (m + 1) := by
            unfold sp_cmc
            rw [if_pos hh]
            omega
          have er : (am_up (am_up I 70 m ((I 70 m) - 10)) 69 1 (Int32.ofInt (I 69 1) &&& Int32.ofInt (Int32.ofInt (Int32.ofInt 1 <<< (Int32.ofInt (m : Int) &&& 31)).toInt ^^^ Int32.ofInt (-1)).toInt).toInt) 69 1 = am_bits (sp_pm S b (m + 1)) 6 := by
            show (Int32.ofInt (I 69 1) &&& Int32.ofInt (Int32.ofInt (Int32.ofInt 1 <<< (Int32.ofInt (m : Int) &&& 31)).toInt ^^^ Int32.ofInt (-1)).toInt).toInt = _
            rw [hr1]
            refine (am_bits_clr _ m (by omega)).trans (am_bits_cg 6 (fun x _ => ?_))
            unfold sp_pm
            by_cases e : x = m
            · subst e
              have : sp_ng S b x < -50 := by omega
              simp [this]
            · have e3 : decide (x < m + 1) = decide (x < m) := by
                by_cases e4 : x < m
                · simp [e4]; omega
                · simp [e4]; omega
              rw [e3]; simp [e]
          refine (am_less (lv := [(4, .inl ((m + 1) : Int)), (3, .inl cc), (2, .inl (b : Int)), (1, .inr (.inr (.inl (some 1)))), (0, .inr (.inr (.inl (some 69))))]) rfl (List.forall_mem_cons.mpr ⟨rfl, List.forall_mem_cons.mpr ⟨rfl, List.forall_mem_cons.mpr ⟨rfl, List.forall_mem_cons.mpr ⟨rfl, List.forall_mem_cons.mpr ⟨rfl, List.forall_mem_nil _⟩⟩⟩⟩⟩) (c_month_69_l (I := am_up (am_up I 70 m ((I 70 m) - 10)) 69 1 (Int32.ofInt (I 69 1) &&& Int32.ofInt (Int32.ofInt (Int32.ofInt 1 <<< (Int32.ofInt (m : Int) &&& 31)).toInt ^^^ Int32.ofInt (-1)).toInt).toInt) d (b := b) (m := m + 1) hok hwf hB h0 hb hmh2 (by omega) ec hr0 er hr2 eg)).imp ?_
          rintro q ⟨Q9, rfl, h9⟩
          exact ⟨Q9, am_r_wk uP69 (am_k_up rfl (am_k_up rfl (am_k_id))), h9⟩
      · show am_E _ _ _ 43 [(4, .inl (m : Int)), (3, .inl cc), (2, .inl (b : Int)), (1, .inr (.inr (.inl (some 1)))), (0, .inr (.inr (.inl (some 69))))] [] (am_mm D I J ρ) _
        refine am_e_ss 5 (q := (53, [(3, .inl (cc + 1)), (4, .inl (m : Int)), (2, .inl (b : Int)), (1, .inr (.inr (.inl (some 1)))), (0, .inr (.inr (.inl (some 69))))], [.inl (m : Int), .inr (.inr (.inl (some 70))), .inl (m : Int), .inr (.inr (.inl (some 70)))], (am_mm D I J ρ))) rfl ?_
        refine am_e_iaload (m := 6) rfl rfl (by omega) (by omega) (by omega) ?_
        show am_E _ _ _ 54 [(3, .inl (cc + 1)), (4, .inl (m : Int)), (2, .inl (b : Int)), (1, .inr (.inr (.inl (some 1)))), (0, .inr (.inr (.inl (some 69))))] [.inl ((I 70 m)), .inl (m : Int), .inr (.inr (.inl (some 70)))] (am_mm D I J ρ) _
        refine am_e_ss 3 (q := (60, [(3, .inl (cc + 1)), (4, .inl (m : Int)), (2, .inl (b : Int)), (1, .inr (.inr (.inl (some 1)))), (0, .inr (.inr (.inl (some 69))))], [.inl (m : Int), .inr (.inr (.inl (some 19))), .inl ((I 70 m)), .inl (m : Int), .inr (.inr (.inl (some 70)))], (am_mm D I J ρ))) rfl ?_
        refine am_e_aaload (m := 6) (c := 23) rfl rfl (by decide) (by omega) (by omega) (by omega) ?_
        rw [show ((am_mm D I J ρ)).2.2.2 19 ((m : Int)).toNat = some (20 + m) from (am_r19 (ρ := ρ) (by omega))]
        show am_E _ _ _ 61 [(3, .inl (cc + 1)), (4, .inl (m : Int)), (2, .inl (b : Int)), (1, .inr (.inr (.inl (some 1)))), (0, .inr (.inr (.inl (some 69))))] [.inr (.inr (.inl (some (20 + m)))), .inl ((I 70 m)), .inl (m : Int), .inr (.inr (.inl (some 70)))] (am_mm D I J ρ) _
        refine am_e_ss 1 (q := (62, [(3, .inl (cc + 1)), (4, .inl (m : Int)), (2, .inl (b : Int)), (1, .inr (.inr (.inl (some 1)))), (0, .inr (.inr (.inl (some 69))))], [.inl (b : Int), .inr (.inr (.inl (some (20 + m)))), .inl ((I 70 m)), .inl (m : Int), .inr (.inr (.inl (some 70)))], (am_mm D I J ρ))) rfl ?_
        refine am_e_iaload (m := 6) rfl (am_k20 (by omega)) (by omega) (by omega) (by omega) ?_
        show am_E _ _ _ 63 [(3, .inl (cc + 1)), (4, .inl (m : Int)), (2, .inl (b : Int)), (1, .inr (.inr (.inl (some 1)))), (0, .inr (.inr (.inl (some 69))))] [.inl ((I (20 + m) b)), .inl ((I 70 m)), .inl (m : Int), .inr (.inr (.inl (some 70)))] (am_mm D I J ρ) _
        refine am_e_ss 3 (q := (67, [(3, .inl (cc + 1)), (4, .inl (m : Int)), (2, .inl (b : Int)), (1, .inr (.inr (.inl (some 1)))), (0, .inr (.inr (.inl (some 69))))], [.inl ((I 70 m) + ((I (20 + m) b) - 50)), .inl (m : Int), .inr (.inr (.inl (some 70)))], (am_mm D I J ρ))) rfl ?_
        refine am_e_iastore (m := 6) rfl rfl (by omega) (by omega) (by omega) ?_
        show am_E _ _ _ 68 [(3, .inl (cc + 1)), (4, .inl (m : Int)), (2, .inl (b : Int)), (1, .inr (.inr (.inl (some 1)))), (0, .inr (.inr (.inl (some 69))))] [] (am_mm D (am_up I 70 m ((I 70 m) + ((I (20 + m) b) - 50))) J ρ) _
        refine am_e_ss 4 (q := (89, [(3, .inl (cc + 1)), (4, .inl (m : Int)), (2, .inl (b : Int)), (1, .inr (.inr (.inl (some 1)))), (0, .inr (.inr (.inl (some 69))))], [.inl (m : Int), .inr (.inr (.inl (some 70)))], (am_mm D (am_up I 70 m ((I 70 m) + ((I (20 + m) b) - 50))) J ρ))) rfl ?_
        refine am_e_iaload (m := 6) rfl rfl (by omega) (by omega) (by omega) ?_
        show am_E _ _ _ 90 [(3, .inl (cc + 1)), (4, .inl (m : Int)), (2, .inl (b : Int)), (1, .inr (.inr (.inl (some 1)))), (0, .inr (.inr (.inl (some 69))))] [.inl (((am_up I 70 m ((I 70 m) + ((I (20 + m) b) - 50))) 70 m))] (am_mm D (am_up I 70 m ((I 70 m) + ((I (20 + m) b) - 50))) J ρ) _
        rw [show ((am_up I 70 m ((I 70 m) + ((I (20 + m) b) - 50))) 70 m) = ((I 70 m) + ((I (20 + m) b) - 50)) from am_up_at2]
        show am_E _ _ _ 90 [(3, .inl (cc + 1)), (4, .inl (m : Int)), (2, .inl (b : Int)), (1, .inr (.inr (.inl (some 1)))), (0, .inr (.inr (.inl (some 69))))] [.inl (((I 70 m) + ((I (20 + m) b) - 50)))] (am_mm D (am_up I 70 m ((I 70 m) + ((I (20 + m) b) - 50))) J ρ) _
        refine am_e_ss 1 (q := (92, [(3, .inl (cc + 1)), (4, .inl (m : Int)), (2, .inl (b : Int)), (1, .inr (.inr (.inl (some 1)))), (0, .inr (.inr (.inl (some 69))))], [.inl (-50), .inl (((I 70 m) + ((I (20 + m) b) - 50)))], (am_mm D (am_up I 70 m ((I 70 m) + ((I (20 + m) b) - 50))) J ρ))) rfl ?_
        refine am_e_icmp2 rfl ⟨by omega, by omega⟩ ⟨by omega, by omega⟩ (fun (hw5 : (-50) ≤ ((I 70 m) + ((I (20 + m) b) - 50))) => ?_) (fun (hw5 : ¬ ((-50) ≤ ((I 70 m) + ((I (20 + m) b) - 50)))) => ?_)
        · show am_E _ _ _ 110 [(3, .inl (cc + 1)), (4, .inl (m : Int)), (2, .inl (b : Int)), (1, .inr (.inr (.inl (some 1)))), (0, .inr (.inr (.inl (some 69))))] [] (am_mm D (am_up I 70 m ((I 70 m) + ((I (20 + m) b) - 50))) J ρ) _
          refine am_e_ss 2 (q := (11, [(4, .inl ((m : Int) + 1)), (3, .inl (cc + 1)), (2, .inl (b : Int)), (1, .inr (.inr (.inl (some 1)))), (0, .inr (.inr (.inl (some 69))))], [], (am_mm D (am_up I 70 m ((I 70 m) + ((I (20 + m) b) - 50))) J ρ))) rfl ?_
          have hmh2 : c_mh D (am_up I 70 m ((I 70 m) + ((I (20 + m) b) - 50))) ρ S := c_mh_P69 hok hmh (am_k_up rfl (am_k_id)) (am_k_up rfl (am_k_id))
          have hdl : ((I 70 m) + ((I (20 + m) b) - 50)) = sp_ng S b m := by
            unfold sp_ng sp_dl
            rw [if_pos hh]
            split <;> omega
          have eg : ∀ j, j < (S 19).toNat → (am_up I 70 m ((I 70 m) + ((I (20 + m) b) - 50))) 70 j = if j < m + 1 then sp_ng S b j else S (1 + j) := by
            intro j hj
            by_cases e : j = m
            · subst e; rw [if_pos (by omega)]; exact am_up_at2.trans hdl
            · refine ((am_up_ne2 (by omega)).trans (hgl j hj)).trans ?_
              by_cases e2 : j < m
              · rw [if_pos e2, if_pos (by omega)]
              · rw [if_neg e2, if_neg (by omega)]
          have ec : (cc + 1) = sp_cmc S b (m + 1) := by
            unfold sp_cmc
            rw [if_pos hh]
            omega
          have er : (am_up I 70 m ((I 70 m) + ((I (20 + m) b) - 50))) 69 1 = am_bits (sp_pm S b (m + 1)) 6 := by
            show I 69 1 = _
            rw [hr1]
            refine am_bits_cg 6 (fun x _ => ?_)
            unfold sp_pm
            by_cases e : x = m
            · subst e
              have : ¬ sp_ng S b x < -50 := by omega
              simp [this]
            · have e3 : decide (x < m + 1) = decide (x < m) := by
                by_cases e4 : x < m
                · simp [e4]; omega
                · simp [e4]; omega
              rw [e3]
          refine (am_less (lv := [(4, .inl ((m + 1) : Int)), (3, .inl ((cc + 1))), (2, .inl (b : Int)), (1, .inr (.inr (.inl (some 1)))), (0, .inr (.inr (.inl (some 69))))]) rfl (List.forall_mem_cons.mpr ⟨rfl, List.forall_mem_cons.mpr ⟨rfl, List.forall_mem_cons.mpr ⟨rfl, List.forall_mem_cons.mpr ⟨rfl, List.forall_mem_cons.mpr ⟨rfl, List.forall_mem_nil _⟩⟩⟩⟩⟩) (c_month_69_l (I := am_up I 70 m ((I 70 m) + ((I (20 + m) b) - 50))) d (b := b) (m := m + 1) hok hwf hB h0 hb hmh2 (by omega) ec hr0 er hr2 eg)).imp ?_
          rintro q ⟨Q9, rfl, h9⟩
          exact ⟨Q9, am_r_wk uP69 (am_k_up rfl (am_k_id)), h9⟩
        · show am_E _ _ _ 95 [(3, .inl (cc + 1)), (4, .inl (m : Int)), (2, .inl (b : Int)), (1, .inr (.inr (.inl (some 1)))), (0, .inr (.inr (.inl (some 69))))] [] (am_mm D (am_up I 70 m ((I 70 m) + ((I (20 + m) b) - 50))) J ρ) _
          refine am_e_ss 12 (q := (11, [(4, .inl ((m : Int) + 1)), (3, .inl (cc + 1)), (2, .inl (b : Int)), (1, .inr (.inr (.inl (some 1)))), (0, .inr (.inr (.inl (some 69))))], [], (am_mm D (am_up (am_up I 70 m ((I 70 m) + ((I (20 + m) b) - 50))) 69 1 (Int32.ofInt (I 69 1) &&& Int32.ofInt (Int32.ofInt (Int32.ofInt 1 <<< (Int32.ofInt (m : Int) &&& 31)).toInt ^^^ Int32.ofInt (-1)).toInt).toInt) J ρ))) rfl ?_
          have hmh2 : c_mh D (am_up (am_up I 70 m ((I 70 m) + ((I (20 + m) b) - 50))) 69 1 (Int32.ofInt (I 69 1) &&& Int32.ofInt (Int32.ofInt (Int32.ofInt 1 <<< (Int32.ofInt (m : Int) &&& 31)).toInt ^^^ Int32.ofInt (-1)).toInt).toInt) ρ S := c_mh_P69 hok hmh (am_k_up rfl (am_k_up rfl (am_k_id))) (am_k_up rfl (am_k_up rfl (am_k_id)))
          have hdl : ((I 70 m) + ((I (20 + m) b) - 50)) = sp_ng S b m := by
            unfold sp_ng sp_dl
            rw [if_pos hh]
            split <;> omega
          have eg : ∀ j, j < (S 19).toNat → (am_up (am_up I 70 m ((I 70 m) + ((I (20 + m) b) - 50))) 69 1 (Int32.ofInt (I 69 1) &&& Int32.ofInt (Int32.ofInt (Int32.ofInt 1 <<< (Int32.ofInt (m : Int) &&& 31)).toInt ^^^ Int32.ofInt (-1)).toInt).toInt) 70 j = if j < m + 1 then sp_ng S b j else S (1 + j) := by
            intro j hj
            by_cases e : j = m
            · subst e; rw [if_pos (by omega)]; exact (am_up_ne2 (by omega)).trans (am_up_at2.trans hdl)
            · refine ((am_up_ne2 (by omega)).trans ((am_up_ne2 (by omega)).trans (hgl j hj))).trans ?_
              by_cases e2 : j < m
              · rw [if_pos e2, if_pos (by omega)]
              · rw [if_neg e2, if_neg (by omega)]
          have ec : (cc + 1) = sp_cmc S b (m + 1) := by
            unfold sp_cmc
            rw [if_pos hh]
            omega
          have er : (am_up (am_up I 70 m ((I 70 m) + ((I (20 + m) b) - 50))) 69 1 (Int32.ofInt (I 69 1) &&& Int32.ofInt (Int32.ofInt (Int32.ofInt 1 <<< (Int32.ofInt (m : Int) &&& 31)).toInt ^^^ Int32.ofInt (-1)).toInt).toInt) 69 1 = am_bits (sp_pm S b (m + 1)) 6 := by
            show (Int32.ofInt (I 69 1) &&& Int32.ofInt (Int32.ofInt (Int32.ofInt 1 <<< (Int32.ofInt (m : Int) &&& 31)).toInt ^^^ Int32.ofInt (-1)).toInt).toInt = _
            rw [hr1]
            refine (am_bits_clr _ m (by omega)).trans (am_bits_cg 6 (fun x _ => ?_))
            unfold sp_pm
            by_cases e : x = m
            · subst e
              have : sp_ng S b x < -50 := by omega
              simp [this]
            · have e3 : decide (x < m + 1) = decide (x < m) := by
                by_cases e4 : x < m
                · simp [e4]; omega
                · simp [e4]; omega
              rw [e3]; simp [e]
          refine (am_less (lv := [(4, .inl ((m + 1) : Int)), (3, .inl ((cc + 1))), (2, .inl (b : Int)), (1, .inr (.inr (.inl (some 1)))), (0, .inr (.inr (.inl (some 69))))]) rfl (List.forall_mem_cons.mpr ⟨rfl, List.forall_mem_cons.mpr ⟨rfl, List.forall_mem_cons.mpr ⟨rfl, List.forall_mem_cons.mpr ⟨rfl, List.forall_mem_cons.mpr ⟨rfl, List.forall_mem_nil _⟩⟩⟩⟩⟩) (c_month_69_l (I := am_up (am_up I 70 m ((I 70 m) + ((I (20 + m) b) - 50))) 69 1 (Int32.ofInt (I 69 1) &&& Int32.ofInt (Int32.ofInt (Int32.ofInt 1 <<< (Int32.ofInt (m : Int) &&& 31)).toInt ^^^ Int32.ofInt (-1)).toInt).toInt) d (b := b) (m := m + 1) hok hwf hB h0 hb hmh2 (by omega) ec hr0 er hr2 eg)).imp ?_
          rintro q ⟨Q9, rfl, h9⟩
          exact ⟨Q9, am_r_wk uP69 (am_k_up rfl (am_k_up rfl (am_k_id))), h9⟩
termination_by 7 - m
decreasing_by all_goals omega
theorem c_month_69 {X : Nat × (Nat → Int)} {D : List (Nat × Nat)} {I J : Nat → Nat → Int} {ρ : Nat → Nat → Option Nat} (d : Nat) {S : Nat → Int} {B : Int} {b : Nat} (hok : r_ok S B) (hwf : sp_wfS S) (hB : B ≤ 1900000000) (h0 : S 0 ≤ 199) (hb : b < (S 20).toNat) (hmh : c_mh D I ρ S) (hro : c_roll I 69 70 S) : am_E X (d + 3) 54 0 [(0, .inr (.inr (.inl (some 69)))), (1, .inr (.inr (.inl (some 1)))), (2, .inl (b : Int))] [] (am_mm D I J ρ) (fun q => ∃ Q, q = (some (.inl (sp_cmc S b (S 19).toNat)), am_mm D (am_wp uP69 I Q) J ρ) ∧ c_roll Q 69 70 (sp_go S b)) := by
  have h19 := r_ok_19 hok
  refine am_e_ss 5 (q := (5, [(3, .inl 0), (0, .inr (.inr (.inl (some 69)))), (1, .inr (.inr (.inl (some 1)))), (2, .inl (b : Int))], [.inl 1, .inl (b : Int), .inr (.inr (.inl (some 69)))], (am_mm D I J ρ))) rfl ?_
  refine am_e_virtual (Q := fun r => ∃ Q218, r = (none, (am_mm D (am_wp uH69 I Q218) J ρ)) ∧ Q218 69 2 = am_bits (fun x => if x = b then decide ((1 : Int) = 1) else sp_dp S x) 6) rfl rfl (Nat.le_of_ble_eq_true rfl) rfl rfl (Nat.le_of_ble_eq_true rfl) (Nat.le_of_ble_eq_true rfl) (c_setHad_69 _ (z := 1) (b := b) (p := sp_dp S) (Or.inr rfl) (by omega) hro.2.2.1) ?_
  rintro r ⟨Q218, rfl, hsh⟩
  show am_E _ _ _ 8 [(3, .inl 0), (0, .inr (.inr (.inl (some 69)))), (1, .inr (.inr (.inl (some 1)))), (2, .inl (b : Int))] [] (am_mm D (am_wp uH69 I Q218) J ρ) _
  refine am_e_ss 2 (q := (11, [(4, .inl 0), (3, .inl 0), (0, .inr (.inr (.inl (some 69)))), (1, .inr (.inr (.inl (some 1)))), (2, .inl (b : Int))], [], (am_mm D (am_wp uH69 I Q218) J ρ))) rfl ?_
  have hmh2 : c_mh D (am_wp uH69 I Q218) ρ S := c_mh_P69 hok hmh (am_k_wp (uH69_uP69) (am_k_id)) (am_k_wp (fun c i h => uP69_tlo c i (uH69_uP69 c i h)) am_k_id)
  refine (am_less (lv := [(4, .inl (0 : Int)), (3, .inl 0), (2, .inl (b : Int)), (1, .inr (.inr (.inl (some 1)))), (0, .inr (.inr (.inl (some 69))))]) rfl (List.forall_mem_cons.mpr ⟨rfl, List.forall_mem_cons.mpr ⟨rfl, List.forall_mem_cons.mpr ⟨rfl, List.forall_mem_cons.mpr ⟨rfl, List.forall_mem_cons.mpr ⟨rfl, List.forall_mem_nil _⟩⟩⟩⟩⟩) (c_month_69_l (I := am_wp uH69 I Q218) d (b := b) (m := 0) hok hwf hB h0 hb hmh2 (by omega) rfl hro.1 (by rw [sp_pm_0]; exact hro.2.1) (by (show Q218 69 2 = _); rw [hsh]; exact am_bits_cg 6 (fun x _ => sp_dp_go hok hb)) (fun j hj => by rw [if_neg (by omega)]; exact hro.2.2.2 j hj))).imp ?_
  rintro q ⟨Q9, rfl, h9⟩
  exact ⟨Q9, am_r_wk uP69 (am_k_wp (uH69_uP69) (am_k_id)), h9⟩
def uK69 : Nat → Nat → Bool := fun c i => Nat.beq c 70 || (Nat.beq c 69 && (Nat.beq i 0 || Nat.beq i 1 || Nat.beq i 2))
theorem c_copyRoll_69 {X : Nat × (Nat → Int)} {D : List (Nat × Nat)} {I J : Nat → Nat → Int} {ρ : Nat → Nat → Option Nat} (d : Nat)  : am_E X (d + 1) 49 0 [(0, .inr (.inr (.inl (some 69)))), (1, .inr (.inr (.inl (some 2))))] [] (am_mm D I J ρ) (fun q => ∃ Q, q = (none, am_mm D (am_wp uK69 I Q) J ρ) ∧ Q 69 0 = I 2 0 ∧ Q 69 1 = I 2 1 ∧ Q 69 2 = I 2 2 ∧ ∀ i, i < 6 → Q 70 i = I 3 i) := by
  refine am_e_ss 19 (q := (36, [(0, .inr (.inr (.inl (some 69)))), (1, .inr (.inr (.inl (some 2))))], [.inl 6, .inl 0, .inr (.inr (.inl (some 70))), .inl 0, .inr (.inr (.inl (some 3)))], (am_mm D (am_up (am_up (am_up I 69 0 (I 2 0)) 69 1 (I 2 1)) 69 2 (I 2 2)) J ρ))) rfl ?_
  refine am_e_cp (k := 70) (q := 3) (a := 6) (b := 6) (dp := 0) (sp := 0) (n' := 6) rfl rfl rfl rfl rfl (by decide) (by decide) (by decide) (Nat.le_of_ble_eq_true rfl) ?_
  show am_E _ _ _ 39 [(0, .inr (.inr (.inl (some 69)))), (1, .inr (.inr (.inl (some 2))))] [] (am_mm D (am_cpg (am_up (am_up (am_up I 69 0 (I 2 0)) 69 1 (I 2 1)) 69 2 (I 2 2)) 70 0 3 0 6) J ρ) _
  refine am_e_return rfl rfl ?_
  refine ⟨_, am_r_wp uK69 (am_k_cpg (fun _ => rfl) (am_k_up rfl (am_k_up rfl (am_k_up rfl (am_k_id))))), rfl, rfl, rfl, ?_⟩
  intro i hi
  refine (if_pos ⟨rfl, by omega, by omega⟩).trans ?_
  rw [show 0 + (i - 0) = i by omega]
  rfl
def uK36 : Nat → Nat → Bool := fun c i => Nat.beq c 37 || (Nat.beq c 36 && (Nat.beq i 0 || Nat.beq i 1 || Nat.beq i 2))
theorem c_copyRoll_36 {X : Nat × (Nat → Int)} {D : List (Nat × Nat)} {I J : Nat → Nat → Int} {ρ : Nat → Nat → Option Nat} (d : Nat)  : am_E X (d + 1) 49 0 [(0, .inr (.inr (.inl (some 36)))), (1, .inr (.inr (.inl (some 2))))] [] (am_mm D I J ρ) (fun q => ∃ Q, q = (none, am_mm D (am_wp uK36 I Q) J ρ) ∧ Q 36 0 = I 2 0 ∧ Q 36 1 = I 2 1 ∧ Q 36 2 = I 2 2 ∧ ∀ i, i < 6 → Q 37 i = I 3 i) := by
  refine am_e_ss 19 (q := (36, [(0, .inr (.inr (.inl (some 36)))), (1, .inr (.inr (.inl (some 2))))], [.inl 6, .inl 0, .inr (.inr (.inl (some 37))), .inl 0, .inr (.inr (.inl (some 3)))], (am_mm D (am_up (am_up (am_up I 36 0 (I 2 0)) 36 1 (I 2 1)) 36 2 (I 2 2)) J ρ))) rfl ?_
  refine am_e_cp (k := 37) (q := 3) (a := 6) (b := 6) (dp := 0) (sp := 0) (n' := 6) rfl rfl rfl rfl rfl (by decide) (by decide) (by decide) (Nat.le_of_ble_eq_true rfl) ?_
  show am_E _ _ _ 39 [(0, .inr (.inr (.inl (some 36)))), (1, .inr (.inr (.inl (some 2))))] [] (am_mm D (am_cpg (am_up (am_up (am_up I 36 0 (I 2 0)) 36 1 (I 2 1)) 36 2 (I 2 2)) 37 0 3 0 6) J ρ) _
  refine am_e_return rfl rfl ?_
  refine ⟨_, am_r_wp uK36 (am_k_cpg (fun _ => rfl) (am_k_up rfl (am_k_up rfl (am_k_up rfl (am_k_id))))), rfl, rfl, rfl, ?_⟩
  intro i hi
  refine (if_pos ⟨rfl, by omega, by omega⟩).trans ?_
  rw [show 0 + (i - 0) = i by omega]
  rfl
def uK2 : Nat → Nat → Bool := fun c i => Nat.beq c 3 || (Nat.beq c 2 && (Nat.beq i 0 || Nat.beq i 1 || Nat.beq i 2))
theorem c_copyRoll_2 {X : Nat × (Nat → Int)} {D : List (Nat × Nat)} {I J : Nat → Nat → Int} {ρ : Nat → Nat → Option Nat} (d : Nat)  : am_E X (d + 1) 49 0 [(0, .inr (.inr (.inl (some 2)))), (1, .inr (.inr (.inl (some 36))))] [] (am_mm D I J ρ) (fun q => ∃ Q, q = (none, am_mm D (am_wp uK2 I Q) J ρ) ∧ Q 2 0 = I 36 0 ∧ Q 2 1 = I 36 1 ∧ Q 2 2 = I 36 2 ∧ ∀ i, i < 6 → Q 3 i = I 37 i) := by
  refine am_e_ss 19 (q := (36, [(0, .inr (.inr (.inl (some 2)))), (1, .inr (.inr (.inl (some 36))))], [.inl 6, .inl 0, .inr (.inr (.inl (some 3))), .inl 0, .inr (.inr (.inl (some 37)))], (am_mm D (am_up (am_up (am_up I 2 0 (I 36 0)) 2 1 (I 36 1)) 2 2 (I 36 2)) J ρ))) rfl ?_
  refine am_e_cp (k := 3) (q := 37) (a := 6) (b := 6) (dp := 0) (sp := 0) (n' := 6) rfl rfl rfl rfl rfl (by decide) (by decide) (by decide) (Nat.le_of_ble_eq_true rfl) ?_
  show am_E _ _ _ 39 [(0, .inr (.inr (.inl (some 2)))), (1, .inr (.inr (.inl (some 36))))] [] (am_mm D (am_cpg (am_up (am_up (am_up I 2 0 (I 36 0)) 2 1 (I 36 1)) 2 2 (I 36 2)) 3 0 37 0 6) J ρ) _
  refine am_e_return rfl rfl ?_
  refine ⟨_, am_r_wp uK2 (am_k_cpg (fun _ => rfl) (am_k_up rfl (am_k_up rfl (am_k_up rfl (am_k_id))))), rfl, rfl, rfl, ?_⟩
  intro i hi
  refine (if_pos ⟨rfl, by omega, by omega⟩).trans ?_
  rw [show 0 + (i - 0) = i by omega]
  rfl
theorem sp_gs_6 {S : Nat → Int} {B : Int} (hok : r_ok S B) {f : Nat → Int} (hf0 : f 0 = 0) (hf : ∀ m, m < 6 → f (m + 1) = f m + (if sp_hp S m = true then S (1 + m) else 0)) : f 6 = sp_G S := by
  have h19 := (r_ok_19 hok).1
  have key : ∀ n, n ≤ 6 → f n = sp_gs S (min n (S 19).toNat) := by
    intro n
    induction n with
    | zero => intro _; rw [hf0, Nat.zero_min]; rfl
    | succ n ih =>
      intro hn
      rw [hf n (by omega), ih (by omega)]
      by_cases e : n < (S 19).toNat
      · rw [Nat.min_eq_left (by omega), Nat.min_eq_left (by omega)]
        show _ = sp_gs S n + (if S (7 + n) = 0 then S (1 + n) else 0)
        by_cases e2 : S (7 + n) = 0
        · rw [if_pos e2, if_pos (sp_hp_t.mpr ⟨e, e2⟩)]
        · rw [if_neg e2, if_neg (fun h => e2 (sp_hp_t.mp h).2)]
      · rw [Nat.min_eq_right (by omega), Nat.min_eq_right (by omega), if_neg (fun h => e (sp_hp_t.mp h).1), Int.add_zero]
  rw [key 6 (by omega), Nat.min_eq_right (by omega)]
  rfl
def sp_g6 (S : Nat → Int) : Nat → Int
  | 0 => 0
  | m + 1 => sp_g6 S m + (if sp_hp S m = true then S (1 + m) else 0)
theorem sp_g6_G {S : Nat → Int} {B : Int} (hok : r_ok S B) : sp_g6 S 6 = sp_G S := sp_gs_6 hok rfl (fun _ _ => rfl)
theorem c_sumGlad_l {X : Nat × (Nat → Int)} {D : List (Nat × Nat)} {I J : Nat → Nat → Int} {ρ : Nat → Nat → Option Nat} (d : Nat) {S : Nat → Int} {B g : Int} {m : Nat} (hok : r_ok S B) (hro : c_roll I 69 70 S) (hm : m ≤ 6) (hg : g = sp_g6 S m) : am_E X (d + 1) 56 4 [(2, .inl (m : Int)), (1, .inl g), (0, .inr (.inr (.inl (some 69))))] [] (am_mm D I J ρ) (fun r => r = (some (.inl ((sp_G S))), (am_mm D I J ρ))) := by
  refine am_e_ss 2 (q := (7, [(2, .inl (m : Int)), (1, .inl g), (0, .inr (.inr (.inl (some 69))))], [.inl 6, .inl (m : Int)], (am_mm D I J ρ))) rfl ?_
  refine am_e_icmp2 rfl ⟨by omega, by omega⟩ ⟨by omega, by omega⟩ (fun (hw1 : 6 ≤ (m : Int)) => ?_) (fun (hw1 : ¬ (6 ≤ (m : Int))) => ?_)
  · show am_E _ _ _ 33 [(2, .inl (m : Int)), (1, .inl g), (0, .inr (.inr (.inl (some 69))))] [] (am_mm D I J ρ) _
    refine am_e_ss 1 (q := (34, [(2, .inl (m : Int)), (1, .inl g), (0, .inr (.inr (.inl (some 69))))], [.inl g], (am_mm D I J ρ))) rfl ?_
    refine am_e_ireturn rfl rfl ?_
    rw [hg, show m = 6 by omega, sp_g6_G hok]
  · show am_E _ _ _ 10 [(2, .inl (m : Int)), (1, .inl g), (0, .inr (.inr (.inl (some 69))))] [] (am_mm D I J ρ) _
    refine am_e_ss 2 (q := (12, [(2, .inl (m : Int)), (1, .inl g), (0, .inr (.inr (.inl (some 69))))], [.inl (m : Int), .inr (.inr (.inl (some 69)))], (am_mm D I J ρ))) rfl ?_
    refine am_e_virtual (Q := fun r => r = (some (.inl ((am_bi (sp_hp S m = true)))), (am_mm D I J ρ))) rfl rfl (Nat.le_of_ble_eq_true rfl) rfl rfl (Nat.le_of_ble_eq_true rfl) (Nat.le_of_ble_eq_true rfl) (c_isHere_69 _ (p := sp_hp S) hro.2.1 (by omega)) ?_
    rintro r rfl
    show am_E _ _ _ 15 [(2, .inl (m : Int)), (1, .inl g), (0, .inr (.inr (.inl (some 69))))] [.inl ((am_bi (sp_hp S m = true)))] (am_mm D I J ρ) _
    refine am_e_ifeq rfl (fun hw2 => ?_) (fun hw2 => ?_)
    · show am_E _ _ _ 27 [(2, .inl (m : Int)), (1, .inl g), (0, .inr (.inr (.inl (some 69))))] [] (am_mm D I J ρ) _
      refine am_e_ss 2 (q := (4, [(2, .inl ((m : Int) + 1)), (1, .inl g), (0, .inr (.inr (.inl (some 69))))], [], (am_mm D I J ρ))) rfl ?_
      have e9 : g = sp_g6 S (m + 1) := by
        show _ = sp_g6 S m + _
        rw [if_neg (by assumption), hg, Int.add_zero]
      exact am_less (lv := [(2, .inl ((m + 1) : Int)), (1, .inl g), (0, .inr (.inr (.inl (some 69))))]) rfl (List.forall_mem_cons.mpr ⟨rfl, List.forall_mem_cons.mpr ⟨rfl, List.forall_mem_cons.mpr ⟨rfl, List.forall_mem_nil _⟩⟩⟩) (c_sumGlad_l d (m := m + 1) hok hro (by omega) e9)
    · show am_E _ _ _ 18 [(2, .inl (m : Int)), (1, .inl g), (0, .inr (.inr (.inl (some 69))))] [] (am_mm D I J ρ) _
      refine am_e_ss 4 (q := (24, [(2, .inl (m : Int)), (1, .inl g), (0, .inr (.inr (.inl (some 69))))], [.inl (m : Int), .inr (.inr (.inl (some 70))), .inl g], (am_mm D I J ρ))) rfl ?_
      refine am_e_iaload (m := 6) rfl rfl (by omega) (by omega) (by omega) ?_
      show am_E _ _ _ 25 [(2, .inl (m : Int)), (1, .inl g), (0, .inr (.inr (.inl (some 69))))] [.inl ((I 70 m)), .inl g] (am_mm D I J ρ) _
      refine am_e_ss 4 (q := (4, [(2, .inl ((m : Int) + 1)), (1, .inl (g + (I 70 m))), (0, .inr (.inr (.inl (some 69))))], [], (am_mm D I J ρ))) rfl ?_
      have e9 : (g + (I 70 m)) = sp_g6 S (m + 1) := by
        show _ = sp_g6 S m + _
        have h := sp_hp_t.mp (by assumption : sp_hp S m = true)
        rw [if_pos (by assumption), hro.2.2.2 m h.1, hg]
      exact am_less (lv := [(2, .inl ((m + 1) : Int)), (1, .inl ((g + (I 70 m)))), (0, .inr (.inr (.inl (some 69))))]) rfl (List.forall_mem_cons.mpr ⟨rfl, List.forall_mem_cons.mpr ⟨rfl, List.forall_mem_cons.mpr ⟨rfl, List.forall_mem_nil _⟩⟩⟩) (c_sumGlad_l d (m := m + 1) hok hro (by omega) e9)
termination_by 6 - m
decreasing_by all_goals omega
theorem c_sumGlad {X : Nat × (Nat → Int)} {D : List (Nat × Nat)} {I J : Nat → Nat → Int} {ρ : Nat → Nat → Option Nat} (d : Nat) {S : Nat → Int} {B : Int} (hok : r_ok S B) (hro : c_roll I 69 70 S) : am_E X (d + 1) 56 0 [(0, .inr (.inr (.inl (some 69))))] [] (am_mm D I J ρ) (fun r => r = (some (.inl ((sp_G S))), (am_mm D I J ρ))) := by
  refine am_e_ss 4 (q := (4, [(2, .inl 0), (1, .inl 0), (0, .inr (.inr (.inl (some 69))))], [], (am_mm D I J ρ))) rfl ?_
  exact am_less (lv := [(2, .inl (0 : Int)), (1, .inl 0), (0, .inr (.inr (.inl (some 69))))]) rfl (List.forall_mem_cons.mpr ⟨rfl, List.forall_mem_cons.mpr ⟨rfl, List.forall_mem_cons.mpr ⟨rfl, List.forall_mem_nil _⟩⟩⟩) (c_sumGlad_l d (m := 0) hok hro (by omega) rfl)
theorem c_isBetter {X : Nat × (Nat → Int)} {D : List (Nat × Nat)} {I J : Nat → Nat → Int} {ρ : Nat → Nat → Option Nat} (d : Nat) {S : Nat → Int} {B bh bg : Int} (hok : r_ok S B) (hB : B ≤ 300000000) (hro : c_roll I 69 70 S) (hbh : -2147483648 ≤ bh ∧ bh < 2147483648) (hbg : -2147483648 ≤ bg ∧ bg < 2147483648) : am_E X (d + 2) 57 0 [(0, .inr (.inr (.inl (some 69)))), (1, .inl bh), (2, .inl bg)] [] (am_mm D I J ρ) (fun r => r = (some (.inl ((sp_btv (sp_hn S) (sp_G S) bh bg))), (am_mm D I J ρ))) := by
  have hnb := sp_hn_b hok
  have gb := sp_G_b hok (r_ok_B hok)
  refine am_e_ss 1 (q := (1, [(0, .inr (.inr (.inl (some 69)))), (1, .inl bh), (2, .inl bg)], [.inr (.inr (.inl (some 69)))], (am_mm D I J ρ))) rfl ?_
  refine am_e_virtual (Q := fun r => r = (some (.inl ((sp_hn S))), (am_mm D I J ρ))) rfl rfl (Nat.le_of_ble_eq_true rfl) rfl rfl (Nat.le_of_ble_eq_true rfl) (Nat.le_of_ble_eq_true rfl) ((c_countHere_69 _ (p := sp_hp S) hro.2.1).imp (fun q h => by rw [h, (sp_hn_cnt hok).1]; rfl)) ?_
  rintro r rfl
  show am_E _ _ _ 4 [(0, .inr (.inr (.inl (some 69)))), (1, .inl bh), (2, .inl bg)] [.inl ((sp_hn S))] (am_mm D I J ρ) _
  refine am_e_ss 3 (q := (7, [(3, .inl ((sp_hn S))), (0, .inr (.inr (.inl (some 69)))), (1, .inl bh), (2, .inl bg)], [.inl bh, .inl ((sp_hn S))], (am_mm D I J ρ))) rfl ?_
  refine am_e_icmp2 rfl ⟨by omega, by omega⟩ ⟨by omega, by omega⟩ (fun (hw1 : bh < (sp_hn S)) => ?_) (fun (hw1 : ¬ (bh < (sp_hn S))) => ?_)
  · show am_E _ _ _ 23 [(3, .inl ((sp_hn S))), (0, .inr (.inr (.inl (some 69)))), (1, .inl bh), (2, .inl bg)] [] (am_mm D I J ρ) _
    refine am_e_ss 2 (q := (28, [(3, .inl ((sp_hn S))), (0, .inr (.inr (.inl (some 69)))), (1, .inl bh), (2, .inl bg)], [.inl 1], (am_mm D I J ρ))) rfl ?_
    refine am_e_ireturn rfl rfl ?_
    rw [show sp_btv (sp_hn S) (sp_G S) bh bg = 1 by (unfold sp_btv; rw [if_pos (by omega)])]
  · show am_E _ _ _ 10 [(3, .inl ((sp_hn S))), (0, .inr (.inr (.inl (some 69)))), (1, .inl bh), (2, .inl bg)] [] (am_mm D I J ρ) _
    refine am_e_ss 2 (q := (12, [(3, .inl ((sp_hn S))), (0, .inr (.inr (.inl (some 69)))), (1, .inl bh), (2, .inl bg)], [.inl bh, .inl ((sp_hn S))], (am_mm D I J ρ))) rfl ?_
    refine am_e_icmp2 rfl ⟨by omega, by omega⟩ ⟨by omega, by omega⟩ (fun (hw2 : ¬ (sp_hn S) = bh) => ?_) (fun (hw2 : ¬ (¬ (sp_hn S) = bh)) => ?_)
    · show am_E _ _ _ 27 [(3, .inl ((sp_hn S))), (0, .inr (.inr (.inl (some 69)))), (1, .inl bh), (2, .inl bg)] [] (am_mm D I J ρ) _
      refine am_e_ss 1 (q := (28, [(3, .inl ((sp_hn S))), (0, .inr (.inr (.inl (some 69)))), (1, .inl bh), (2, .inl bg)], [.inl 0], (am_mm D I J ρ))) rfl ?_
      refine am_e_ireturn rfl rfl ?_
      rw [show sp_btv (sp_hn S) (sp_G S) bh bg = 0 by (unfold sp_btv; rw [if_neg (by omega)])]
    · show am_E _ _ _ 15 [(3, .inl ((sp_hn S))), (0, .inr (.inr (.inl (some 69)))), (1, .inl bh), (2, .inl bg)] [] (am_mm D I J ρ) _
      refine am_e_ss 1 (q := (16, [(3, .inl ((sp_hn S))), (0, .inr (.inr (.inl (some 69)))), (1, .inl bh), (2, .inl bg)], [.inr (.inr (.inl (some 69)))], (am_mm D I J ρ))) rfl ?_
      refine am_e_virtual (Q := fun r => r = (some (.inl ((sp_G S))), (am_mm D I J ρ))) rfl rfl (Nat.le_of_ble_eq_true rfl) rfl rfl (Nat.le_of_ble_eq_true rfl) (Nat.le_of_ble_eq_true rfl) (c_sumGlad _ hok hro) ?_
      rintro r rfl
      show am_E _ _ _ 19 [(3, .inl ((sp_hn S))), (0, .inr (.inr (.inl (some 69)))), (1, .inl bh), (2, .inl bg)] [.inl ((sp_G S))] (am_mm D I J ρ) _
      refine am_e_ss 1 (q := (20, [(3, .inl ((sp_hn S))), (0, .inr (.inr (.inl (some 69)))), (1, .inl bh), (2, .inl bg)], [.inl bg, .inl ((sp_G S))], (am_mm D I J ρ))) rfl ?_
      refine am_e_icmp2 rfl ⟨by omega, by omega⟩ ⟨by omega, by omega⟩ (fun (hw3 : (sp_G S) ≤ bg) => ?_) (fun (hw3 : ¬ ((sp_G S) ≤ bg)) => ?_)
      · show am_E _ _ _ 27 [(3, .inl ((sp_hn S))), (0, .inr (.inr (.inl (some 69)))), (1, .inl bh), (2, .inl bg)] [] (am_mm D I J ρ) _
        refine am_e_ss 1 (q := (28, [(3, .inl ((sp_hn S))), (0, .inr (.inr (.inl (some 69)))), (1, .inl bh), (2, .inl bg)], [.inl 0], (am_mm D I J ρ))) rfl ?_
        refine am_e_ireturn rfl rfl ?_
        rw [show sp_btv (sp_hn S) (sp_G S) bh bg = 0 by (unfold sp_btv; rw [if_neg (by omega)])]
      · show am_E _ _ _ 23 [(3, .inl ((sp_hn S))), (0, .inr (.inr (.inl (some 69)))), (1, .inl bh), (2, .inl bg)] [] (am_mm D I J ρ) _
        refine am_e_ss 2 (q := (28, [(3, .inl ((sp_hn S))), (0, .inr (.inr (.inl (some 69)))), (1, .inl bh), (2, .inl bg)], [.inl 1], (am_mm D I J ρ))) rfl ?_
        refine am_e_ireturn rfl rfl ?_
        rw [show sp_btv (sp_hn S) (sp_G S) bh bg = 1 by (unfold sp_btv; rw [if_pos (by omega)])]
theorem c_putF_l {X : Nat × (Nat → Int)} {D : List (Nat × Nat)} {I J : Nat → Nat → Int} {ρ : Nat → Nat → Option Nat} (d : Nat) {S : Nat → Int} {B : Int} (hok : r_ok S B) (h14 : I 1 4 = S 20) (hhd : I 69 2 = am_bits (sp_dp S) 6) (hby : ∀ b, b < (S 20).toNat → I (6 + b) 3 = S (56 + b)) {st : Int} {b : Nat} (hb : (b : Int) ≤ S 20) (hs : st = sp_mhk S b) : am_E X (d + 1) 31 4 [(3, .inl (b : Int)), (2, .inl st), (1, .inr (.inr (.inl (some 69)))), (0, .inr (.inr (.inl (some 1))))] [] (am_mm D I J ρ) (fun r => r = (some (.inl ((sp_mhk S (S 20).toNat))), (am_mm D I J ρ))) := by
  have h19 := r_ok_19 hok
  refine am_e_ss 3 (q := (9, [(3, .inl (b : Int)), (2, .inl st), (1, .inr (.inr (.inl (some 69)))), (0, .inr (.inr (.inl (some 1))))], [.inl ((I 1 4)), .inl (b : Int)], (am_mm D I J ρ))) rfl ?_
  refine am_e_icmp2 rfl ⟨by omega, by omega⟩ ⟨by omega, by omega⟩ (fun (hw1 : (I 1 4) ≤ (b : Int)) => ?_) (fun (hw1 : ¬ ((I 1 4) ≤ (b : Int))) => ?_)
  · show am_E _ _ _ 39 [(3, .inl (b : Int)), (2, .inl st), (1, .inr (.inr (.inl (some 69)))), (0, .inr (.inr (.inl (some 1))))] [] (am_mm D I J ρ) _
    refine am_e_ss 1 (q := (40, [(3, .inl (b : Int)), (2, .inl st), (1, .inr (.inr (.inl (some 69)))), (0, .inr (.inr (.inl (some 1))))], [.inl st], (am_mm D I J ρ))) rfl ?_
    refine am_e_ireturn rfl rfl ?_
    rw [hs, show b = (S 20).toNat by omega]
  · show am_E _ _ _ 12 [(3, .inl (b : Int)), (2, .inl st), (1, .inr (.inr (.inl (some 69)))), (0, .inr (.inr (.inl (some 1))))] [] (am_mm D I J ρ) _
    refine am_e_ss 2 (q := (14, [(3, .inl (b : Int)), (2, .inl st), (1, .inr (.inr (.inl (some 69)))), (0, .inr (.inr (.inl (some 1))))], [.inl (b : Int), .inr (.inr (.inl (some 69)))], (am_mm D I J ρ))) rfl ?_
    refine am_e_virtual (Q := fun r => r = (some (.inl ((am_bi (sp_dp S b = true)))), (am_mm D I J ρ))) rfl rfl (Nat.le_of_ble_eq_true rfl) rfl rfl (Nat.le_of_ble_eq_true rfl) (Nat.le_of_ble_eq_true rfl) (c_isHad_69 _ (p := sp_dp S) hhd (by omega)) ?_
    rintro r rfl
    show am_E _ _ _ 17 [(3, .inl (b : Int)), (2, .inl st), (1, .inr (.inr (.inl (some 69)))), (0, .inr (.inr (.inl (some 1))))] [.inl ((am_bi (sp_dp S b = true)))] (am_mm D I J ρ) _
    refine am_e_ifeq rfl (fun hw2 => ?_) (fun hw2 => ?_)
    · show am_E _ _ _ 33 [(3, .inl (b : Int)), (2, .inl st), (1, .inr (.inr (.inl (some 69)))), (0, .inr (.inr (.inl (some 1))))] [] (am_mm D I J ρ) _
      refine am_e_ss 2 (q := (4, [(3, .inl ((b : Int) + 1)), (2, .inl st), (1, .inr (.inr (.inl (some 69)))), (0, .inr (.inr (.inl (some 1))))], [], (am_mm D I J ρ))) rfl ?_
      have h0 : S (13 + b) = 0 := by
        by_cases e : S (13 + b) = 0
        · exact e
        · exact absurd (sp_dp_t.mpr ⟨by omega, e⟩) (by assumption)
      have e9 : st = sp_mhk S (b + 1) := by
        unfold sp_mhk
        rw [if_pos h0, ← hs]
      exact am_less (lv := [(3, .inl ((b + 1) : Int)), (2, .inl st), (1, .inr (.inr (.inl (some 69)))), (0, .inr (.inr (.inl (some 1))))]) rfl (List.forall_mem_cons.mpr ⟨rfl, List.forall_mem_cons.mpr ⟨rfl, List.forall_mem_cons.mpr ⟨rfl, List.forall_mem_cons.mpr ⟨rfl, List.forall_mem_nil _⟩⟩⟩⟩) (c_putF_l d (b := b + 1) hok h14 hhd hby (by omega) e9)
    · show am_E _ _ _ 20 [(3, .inl (b : Int)), (2, .inl st), (1, .inr (.inr (.inl (some 69)))), (0, .inr (.inr (.inl (some 1))))] [] (am_mm D I J ρ) _
      have hbb := hby b (by omega)
      have oYb : 0 ≤ S (56 + b) ∧ S (56 + b) ≤ 5 := by
        obtain ⟨o0, oG, oH, oD, o19, o20, o21, o22, o23, o24, oK, oV, oP, oM, oS, oY, _⟩ := hok
        exact oY b (by omega)
      refine am_e_ss 5 (q := (27, [(3, .inl (b : Int)), (2, .inl st), (1, .inr (.inr (.inl (some 69)))), (0, .inr (.inr (.inl (some 1))))], [.inl (b : Int), .inr (.inr (.inl (some 5))), .inl 1, .inl st], (am_mm D I J ρ))) rfl ?_
      refine am_e_aaload (m := 6) (c := 23) rfl rfl (by decide) (by omega) (by omega) (by omega) ?_
      rw [show ((am_mm D I J ρ)).2.2.2 5 ((b : Int)).toNat = some (6 + b) from (am_r5 (ρ := ρ) (by omega))]
      show am_E _ _ _ 28 [(3, .inl (b : Int)), (2, .inl st), (1, .inr (.inr (.inl (some 69)))), (0, .inr (.inr (.inl (some 1))))] [.inr (.inr (.inl (some (6 + b)))), .inl 1, .inl st] (am_mm D I J ρ) _
      refine am_e_ss 1 (q := (29, [(3, .inl (b : Int)), (2, .inl st), (1, .inr (.inr (.inl (some 69)))), (0, .inr (.inr (.inl (some 1))))], [.inl 3, .inr (.inr (.inl (some (6 + b)))), .inl 1, .inl st], (am_mm D I J ρ))) rfl ?_
      refine am_e_iaload (m := 4) rfl (am_k6 (by omega)) (by omega) (by omega) (by omega) ?_
      show am_E _ _ _ 30 [(3, .inl (b : Int)), (2, .inl st), (1, .inr (.inr (.inl (some 69)))), (0, .inr (.inr (.inl (some 1))))] [.inl ((I (6 + b) 3)), .inl 1, .inl st] (am_mm D I J ρ) _
      refine am_e_ss 5 (q := (4, [(3, .inl ((b : Int) + 1)), (2, .inl ((Int32.ofInt st ||| Int32.ofInt (Int32.ofInt 1 <<< (Int32.ofInt (I (6 + b) 3) &&& 31)).toInt).toInt)), (1, .inr (.inr (.inl (some 69)))), (0, .inr (.inr (.inl (some 1))))], [], (am_mm D I J ρ))) rfl ?_
      have e9 : (Int32.ofInt st ||| Int32.ofInt (Int32.ofInt 1 <<< (Int32.ofInt (I (6 + b) 3) &&& 31)).toInt).toInt = sp_mhk S (b + 1) := by
        have h := (sp_dp_t.mp (by assumption : sp_dp S b = true)).2
        unfold sp_mhk
        rw [if_neg h, ← hs, hby b (by omega)]
      exact am_less (lv := [(3, .inl ((b + 1) : Int)), (2, .inl ((Int32.ofInt st ||| Int32.ofInt (Int32.ofInt 1 <<< (Int32.ofInt (I (6 + b) 3) &&& 31)).toInt).toInt)), (1, .inr (.inr (.inl (some 69)))), (0, .inr (.inr (.inl (some 1))))]) rfl (List.forall_mem_cons.mpr ⟨rfl, List.forall_mem_cons.mpr ⟨rfl, List.forall_mem_cons.mpr ⟨rfl, List.forall_mem_cons.mpr ⟨rfl, List.forall_mem_nil _⟩⟩⟩⟩) (c_putF_l d (b := b + 1) hok h14 hhd hby (by omega) e9)
termination_by 7 - b
decreasing_by all_goals omega
theorem c_putF {X : Nat × (Nat → Int)} {D : List (Nat × Nat)} {I J : Nat → Nat → Int} {ρ : Nat → Nat → Option Nat} (d : Nat) {S : Nat → Int} {B : Int} (hok : r_ok S B) (h14 : I 1 4 = S 20) (hhd : I 69 2 = am_bits (sp_dp S) 6) (hby : ∀ b, b < (S 20).toNat → I (6 + b) 3 = S (56 + b))  : am_E X (d + 1) 31 0 [(0, .inr (.inr (.inl (some 1)))), (1, .inr (.inr (.inl (some 69))))] [] (am_mm D I J ρ) (fun r => r = (some (.inl ((sp_mhk S (S 20).toNat))), (am_mm D I J ρ))) := by
  refine am_e_ss 4 (q := (4, [(3, .inl 0), (2, .inl 0), (0, .inr (.inr (.inl (some 1)))), (1, .inr (.inr (.inl (some 69))))], [], (am_mm D I J ρ))) rfl ?_
  exact am_less (lv := [(3, .inl (0 : Int)), (2, .inl 0), (1, .inr (.inr (.inl (some 69)))), (0, .inr (.inr (.inl (some 1))))]) rfl (List.forall_mem_cons.mpr ⟨rfl, List.forall_mem_cons.mpr ⟨rfl, List.forall_mem_cons.mpr ⟨rfl, List.forall_mem_cons.mpr ⟨rfl, List.forall_mem_nil _⟩⟩⟩⟩) (c_putF_l d (b := 0) hok h14 hhd hby (by have := (r_ok_19 hok).2; omega) rfl)
