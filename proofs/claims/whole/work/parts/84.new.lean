/-! THE CLASS: a new member -/
theorem am_S_124 : am_S.length = 124 := rfl
theorem am_new_at {D : List (Nat × Nat)} {s : Nat × Nat} : (am_S ++ (D ++ [s]))[124 + D.length]? = some s := by
  rw [← List.append_assoc, List.getElem?_append_right (by rw [List.length_append, am_S_124]; omega), List.length_append, am_S_124, Nat.sub_self]
  rfl
theorem am_old_at {D E : List (Nat × Nat)} {k : Nat} {s : Nat × Nat} (h : (am_S ++ D)[k]? = some s) : (am_S ++ (D ++ E))[k]? = some s := by
  rw [← List.append_assoc, List.getElem?_append_left]
  · exact h
  · exact (List.getElem?_eq_some_iff.mp h).1
theorem am_Rf_z {ρ : Nat → Nat → Option Nat} {k : Nat} (h : 124 ≤ k) : am_z (am_Rf ρ) k none = am_Rf (am_z ρ k none) := by
  funext c i
  show (if c = k then none else am_Rf ρ c i) = (if am_mut c i = true then (if c = k then none else ρ c i) else (am_S0.getD c []).getD i none)
  by_cases e : c = k
  · have hmu : am_mut c i = true := by
      have hb : Nat.ble 124 c = true := Nat.ble_eq_true_of_le (by omega)
      unfold am_mut
      split <;> first | exact hb | (exfalso; omega)
    rw [if_pos e, if_pos e, if_pos hmu]
  · rw [if_neg e, if_neg e]
    rfl
theorem am_e_newR {X : Nat × (Nat → Int)} {d mid pc n x : Nat} {lv : List (Nat × am_V)} {st : List am_V} {P : am_R → Prop} {D : List (Nat × Nat)} {I J : Nat → Nat → Int} {ρ : Nat → Nat → Option Nat} {v : Nat} (hi : am_ins mid pc = some (.new v, n, x)) (hx : x < 13) (h : am_E X d mid (pc + n) lv (.inr (.inr (.inl (some (124 + D.length)))) :: st) (am_mm (D ++ [(x, am_nf x)]) (am_z I (124 + D.length) 0) (am_z J (124 + D.length) 0) (am_z ρ (124 + D.length) none)) P) : am_E X d mid pc lv st (am_mm D I J ρ) P := by
  have hl : (am_S ++ D).length = 124 + D.length := by rw [List.length_append, am_S_124]
  refine am_e_s hi (q := (pc + n, lv, .inr (.inr (.inl (some (am_S ++ D).length))) :: st, am_nw (am_mm D I J ρ) (x, am_nf x))) (if_pos hx) ?_
  unfold am_nw
  show am_E X d mid (pc + n) lv (.inr (.inr (.inl (some (am_S ++ D).length))) :: st) (am_S ++ D ++ [(x, am_nf x)], am_z I (am_S ++ D).length 0, am_z J (am_S ++ D).length 0, am_z (am_Rf ρ) (am_S ++ D).length none) P
  rw [hl, am_Rf_z (by omega), List.append_assoc]
  exact h
theorem am_e_pm {X : Nat × (Nat → Int)} {d mid pc n x : Nat} {lv : List (Nat × am_V)} {st : List am_V} {P : am_R → Prop} {D : List (Nat × Nat)} {I J : Nat → Nat → Int} {ρ : Nat → Nat → Option Nat} {v k K f : Nat} {z : Int} (hi : am_ins mid pc = some (.putfield v, n, x)) (hs : (am_S ++ D)[k]? = some (am_kc K, 3)) (hK : K < 7) (hf : ∀ K, K < 7 → am_F x (am_kc K) = some f) (hft : ∀ K, K < 7 → am_ft (am_kc K) f = 0) (hm : f < 3) (h : am_E X d mid (pc + n) lv st (am_mm D (am_up I k f z) J ρ) P) : am_E X d mid pc lv (.inl z :: .inr (.inr (.inl (some k))) :: st) (am_mm D I J ρ) P := by
  refine am_e_putfield (M' := am_mm D (am_up I k f z) J ρ) hi hs (hf K hK) (am_kc_lt K hK) hm ?_ h
  unfold am_pf
  rw [hft K hK]
  rfl
theorem m_i4 {X : Nat × (Nat → Int)} {D : List (Nat × Nat)} {I J : Nat → Nat → Int} {ρ : Nat → Nat → Option Nat} (d : Nat) {k K : Nat} (hK : K < 7) (hsk : (am_S ++ D)[k]? = some (am_kc K, 3)) {z0 z1 z2 : Int} : am_E X (d + 1) 32 0 [(0, .inr (.inr (.inl (some k)))), (1, .inl z0), (2, .inl z1), (3, .inl z2)] [] (am_mm D I J ρ) (fun r => r = (none, am_mm D (am_up (am_up (am_up I k 0 z0) k 1 z1) k 2 z2) J ρ)) := by
  refine am_e_ss 1 (q := (1, [(0, .inr (.inr (.inl (some k)))), (1, .inl z0), (2, .inl z1), (3, .inl z2)], [.inr (.inr (.inl (some k)))], am_mm D I J ρ)) rfl ?_
  refine am_e_oinit rfl rfl (am_kd_of hsk (am_kc_lt K hK)) rfl (Nat.le_of_ble_eq_true rfl) ?_
  show am_E _ _ _ 4 [(0, .inr (.inr (.inl (some k)))), (1, .inl z0), (2, .inl z1), (3, .inl z2)] [] (am_mm D I J ρ) _
  refine am_e_ss 2 (q := (6, [(0, .inr (.inr (.inl (some k)))), (1, .inl z0), (2, .inl z1), (3, .inl z2)], [.inl z0, .inr (.inr (.inl (some k)))], am_mm D I J ρ)) rfl ?_
  refine am_e_pm (K := K) (f := 0) rfl hsk hK (by decide) (by decide) (by decide) ?_
  show am_E _ _ _ 9 [(0, .inr (.inr (.inl (some k)))), (1, .inl z0), (2, .inl z1), (3, .inl z2)] [] (am_mm D (am_up I k 0 z0) J ρ) _
  refine am_e_ss 2 (q := (11, [(0, .inr (.inr (.inl (some k)))), (1, .inl z0), (2, .inl z1), (3, .inl z2)], [.inl z1, .inr (.inr (.inl (some k)))], am_mm D (am_up I k 0 z0) J ρ)) rfl ?_
  refine am_e_pm (K := K) (f := 1) rfl hsk hK (by decide) (by decide) (by decide) ?_
  show am_E _ _ _ 14 [(0, .inr (.inr (.inl (some k)))), (1, .inl z0), (2, .inl z1), (3, .inl z2)] [] (am_mm D (am_up (am_up I k 0 z0) k 1 z1) J ρ) _
  refine am_e_ss 2 (q := (16, [(0, .inr (.inr (.inl (some k)))), (1, .inl z0), (2, .inl z1), (3, .inl z2)], [.inl z2, .inr (.inr (.inl (some k)))], am_mm D (am_up (am_up I k 0 z0) k 1 z1) J ρ)) rfl ?_
  refine am_e_pm (K := K) (f := 2) rfl hsk hK (by decide) (by decide) (by decide) ?_
  show am_E _ _ _ 19 [(0, .inr (.inr (.inl (some k)))), (1, .inl z0), (2, .inl z1), (3, .inl z2)] [] (am_mm D (am_up (am_up (am_up I k 0 z0) k 1 z1) k 2 z2) J ρ) _
  refine am_e_return rfl rfl ?_
  rfl
theorem m_i5 {X : Nat × (Nat → Int)} {D : List (Nat × Nat)} {I J : Nat → Nat → Int} {ρ : Nat → Nat → Option Nat} (d : Nat) {k K : Nat} (hK : K < 7) (hsk : (am_S ++ D)[k]? = some (am_kc K, 3)) {z0 z1 z2 : Int} : am_E X (d + 2) 42 0 [(0, .inr (.inr (.inl (some k)))), (1, .inl z0), (2, .inl z1), (3, .inl z2)] [] (am_mm D I J ρ) (fun r => r = (none, am_mm D (am_up (am_up (am_up I k 0 z0) k 1 z1) k 2 z2) J ρ)) := by
  refine am_e_ss 4 (q := (4, [(0, .inr (.inr (.inl (some k)))), (1, .inl z0), (2, .inl z1), (3, .inl z2)], [.inl z2, .inl z1, .inl z0, .inr (.inr (.inl (some k)))], (am_mm D I J ρ))) rfl ?_
  refine am_e_special (Q := fun r => r = (none, (am_mm D (am_up (am_up (am_up I k 0 z0) k 1 z1) k 2 z2) J ρ))) rfl rfl (Nat.le_of_ble_eq_true rfl) (am_kd_of hsk (am_kc_lt _ hK)) rfl (by decide) (Nat.le_of_ble_eq_true rfl) (Nat.le_of_ble_eq_true rfl) (m_i4 _ hK hsk) ?_
  rintro r rfl
  show am_E _ _ _ 7 [(0, .inr (.inr (.inl (some k)))), (1, .inl z0), (2, .inl z1), (3, .inl z2)] [] (am_mm D (am_up (am_up (am_up I k 0 z0) k 1 z1) k 2 z2) J ρ) _
  refine am_e_return rfl rfl ?_
  rfl
theorem m_i6 {X : Nat × (Nat → Int)} {D : List (Nat × Nat)} {I J : Nat → Nat → Int} {ρ : Nat → Nat → Option Nat} (d : Nat) {k K : Nat} (hK : K < 7) (hsk : (am_S ++ D)[k]? = some (am_kc K, 3)) {z0 z1 z2 : Int} : am_E X (d + 2) 45 0 [(0, .inr (.inr (.inl (some k)))), (1, .inl z0), (2, .inl z1), (3, .inl z2)] [] (am_mm D I J ρ) (fun r => r = (none, am_mm D (am_up (am_up (am_up I k 0 z0) k 1 z1) k 2 z2) J ρ)) := by
  refine am_e_ss 4 (q := (4, [(0, .inr (.inr (.inl (some k)))), (1, .inl z0), (2, .inl z1), (3, .inl z2)], [.inl z2, .inl z1, .inl z0, .inr (.inr (.inl (some k)))], (am_mm D I J ρ))) rfl ?_
  refine am_e_special (Q := fun r => r = (none, (am_mm D (am_up (am_up (am_up I k 0 z0) k 1 z1) k 2 z2) J ρ))) rfl rfl (Nat.le_of_ble_eq_true rfl) (am_kd_of hsk (am_kc_lt _ hK)) rfl (by decide) (Nat.le_of_ble_eq_true rfl) (Nat.le_of_ble_eq_true rfl) (m_i4 _ hK hsk) ?_
  rintro r rfl
  show am_E _ _ _ 7 [(0, .inr (.inr (.inl (some k)))), (1, .inl z0), (2, .inl z1), (3, .inl z2)] [] (am_mm D (am_up (am_up (am_up I k 0 z0) k 1 z1) k 2 z2) J ρ) _
  refine am_e_return rfl rfl ?_
  rfl
theorem m_i8 {X : Nat × (Nat → Int)} {D : List (Nat × Nat)} {I J : Nat → Nat → Int} {ρ : Nat → Nat → Option Nat} (d : Nat) {k K : Nat} (hK : K < 7) (hsk : (am_S ++ D)[k]? = some (am_kc K, 3)) {z0 z1 z2 : Int} : am_E X (d + 2) 58 0 [(0, .inr (.inr (.inl (some k)))), (1, .inl z0), (2, .inl z1), (3, .inl z2)] [] (am_mm D I J ρ) (fun r => r = (none, am_mm D (am_up (am_up (am_up I k 0 z0) k 1 z1) k 2 z2) J ρ)) := by
  refine am_e_ss 4 (q := (4, [(0, .inr (.inr (.inl (some k)))), (1, .inl z0), (2, .inl z1), (3, .inl z2)], [.inl z2, .inl z1, .inl z0, .inr (.inr (.inl (some k)))], (am_mm D I J ρ))) rfl ?_
  refine am_e_special (Q := fun r => r = (none, (am_mm D (am_up (am_up (am_up I k 0 z0) k 1 z1) k 2 z2) J ρ))) rfl rfl (Nat.le_of_ble_eq_true rfl) (am_kd_of hsk (am_kc_lt _ hK)) rfl (by decide) (Nat.le_of_ble_eq_true rfl) (Nat.le_of_ble_eq_true rfl) (m_i4 _ hK hsk) ?_
  rintro r rfl
  show am_E _ _ _ 7 [(0, .inr (.inr (.inl (some k)))), (1, .inl z0), (2, .inl z1), (3, .inl z2)] [] (am_mm D (am_up (am_up (am_up I k 0 z0) k 1 z1) k 2 z2) J ρ) _
  refine am_e_return rfl rfl ?_
  rfl
theorem m_i2 {X : Nat × (Nat → Int)} {D : List (Nat × Nat)} {I J : Nat → Nat → Int} {ρ : Nat → Nat → Option Nat} (d : Nat) {k K : Nat} (hK : K < 7) (hsk : (am_S ++ D)[k]? = some (am_kc K, 3)) {z0 z1 z2 : Int} : am_E X (d + 3) 21 0 [(0, .inr (.inr (.inl (some k)))), (1, .inl z0), (2, .inl z1), (3, .inl z2)] [] (am_mm D I J ρ) (fun r => r = (none, am_mm D (am_up (am_up (am_up I k 0 z0) k 1 z1) k 2 z2) J ρ)) := by
  refine am_e_ss 4 (q := (4, [(0, .inr (.inr (.inl (some k)))), (1, .inl z0), (2, .inl z1), (3, .inl z2)], [.inl z2, .inl z1, .inl z0, .inr (.inr (.inl (some k)))], (am_mm D I J ρ))) rfl ?_
  refine am_e_special (Q := fun r => r = (none, (am_mm D (am_up (am_up (am_up I k 0 z0) k 1 z1) k 2 z2) J ρ))) rfl rfl (Nat.le_of_ble_eq_true rfl) (am_kd_of hsk (am_kc_lt _ hK)) rfl (by decide) (Nat.le_of_ble_eq_true rfl) (Nat.le_of_ble_eq_true rfl) (m_i5 _ hK hsk) ?_
  rintro r rfl
  show am_E _ _ _ 7 [(0, .inr (.inr (.inl (some k)))), (1, .inl z0), (2, .inl z1), (3, .inl z2)] [] (am_mm D (am_up (am_up (am_up I k 0 z0) k 1 z1) k 2 z2) J ρ) _
  refine am_e_return rfl rfl ?_
  rfl
theorem m_i9 {X : Nat × (Nat → Int)} {D : List (Nat × Nat)} {I J : Nat → Nat → Int} {ρ : Nat → Nat → Option Nat} (d : Nat) {k K : Nat} (hK : K < 7) (hsk : (am_S ++ D)[k]? = some (am_kc K, 3)) {z0 z1 z2 : Int} : am_E X (d + 3) 61 0 [(0, .inr (.inr (.inl (some k)))), (1, .inl z0), (2, .inl z1), (3, .inl z2)] [] (am_mm D I J ρ) (fun r => r = (none, am_mm D (am_up (am_up (am_up I k 0 z0) k 1 z1) k 2 z2) J ρ)) := by
  refine am_e_ss 4 (q := (4, [(0, .inr (.inr (.inl (some k)))), (1, .inl z0), (2, .inl z1), (3, .inl z2)], [.inl z2, .inl z1, .inl z0, .inr (.inr (.inl (some k)))], (am_mm D I J ρ))) rfl ?_
  refine am_e_special (Q := fun r => r = (none, (am_mm D (am_up (am_up (am_up I k 0 z0) k 1 z1) k 2 z2) J ρ))) rfl rfl (Nat.le_of_ble_eq_true rfl) (am_kd_of hsk (am_kc_lt _ hK)) rfl (by decide) (Nat.le_of_ble_eq_true rfl) (Nat.le_of_ble_eq_true rfl) (m_i6 _ hK hsk) ?_
  rintro r rfl
  show am_E _ _ _ 7 [(0, .inr (.inr (.inl (some k)))), (1, .inl z0), (2, .inl z1), (3, .inl z2)] [] (am_mm D (am_up (am_up (am_up I k 0 z0) k 1 z1) k 2 z2) J ρ) _
  refine am_e_return rfl rfl ?_
  rfl
theorem m_i0 {X : Nat × (Nat → Int)} {D : List (Nat × Nat)} {I J : Nat → Nat → Int} {ρ : Nat → Nat → Option Nat} (d : Nat) {k K : Nat} (hK : K < 7) (hsk : (am_S ++ D)[k]? = some (am_kc K, 3)) {z0 z1 z2 : Int} : am_E X (d + 3) 1 0 [(0, .inr (.inr (.inl (some k)))), (1, .inl z0), (2, .inl z1), (3, .inl z2)] [] (am_mm D I J ρ) (fun r => r = (none, am_mm D (am_up (am_up (am_up I k 0 z0) k 1 z1) k 2 z2) J ρ)) := by
  refine am_e_ss 4 (q := (4, [(0, .inr (.inr (.inl (some k)))), (1, .inl z0), (2, .inl z1), (3, .inl z2)], [.inl z2, .inl z1, .inl z0, .inr (.inr (.inl (some k)))], (am_mm D I J ρ))) rfl ?_
  refine am_e_special (Q := fun r => r = (none, (am_mm D (am_up (am_up (am_up I k 0 z0) k 1 z1) k 2 z2) J ρ))) rfl rfl (Nat.le_of_ble_eq_true rfl) (am_kd_of hsk (am_kc_lt _ hK)) rfl (by decide) (Nat.le_of_ble_eq_true rfl) (Nat.le_of_ble_eq_true rfl) (m_i8 _ hK hsk) ?_
  rintro r rfl
  show am_E _ _ _ 7 [(0, .inr (.inr (.inl (some k)))), (1, .inl z0), (2, .inl z1), (3, .inl z2)] [] (am_mm D (am_up (am_up (am_up I k 0 z0) k 1 z1) k 2 z2) J ρ) _
  refine am_e_return rfl rfl ?_
  rfl
theorem c_newM {X : Nat × (Nat → Int)} {D : List (Nat × Nat)} {I J : Nat → Nat → Int} {ρ : Nat → Nat → Option Nat} (d : Nat) {kind num v : Int} (hkind : 0 ≤ kind ∧ kind ≤ 6) : am_E X (d + 4) 91 0 [(0, .inl kind), (1, .inl num), (2, .inl v)] [] (am_mm D I J ρ) (fun r => ∃ I2 J2 ρ2, r = (some (.inr (.inr (.inl (some (124 + D.length))))), am_mm (D ++ [(am_kc kind.toNat, 3)]) I2 J2 ρ2) ∧ (∀ c j, c ≠ 124 + D.length → I2 c j = I c j ∧ J2 c j = J c j ∧ ρ2 c j = ρ c j) ∧ I2 (124 + D.length) 0 = kind ∧ I2 (124 + D.length) 1 = num ∧ I2 (124 + D.length) 2 = v) := by
  refine am_e_ss 1 (q := (1, [(0, .inl kind), (1, .inl num), (2, .inl v)], [.inl kind], (am_mm D I J ρ))) rfl ?_
  rcases (show kind < 1 ∨ kind = 1 ∨ kind = 2 ∨ kind = 3 ∨ kind = 4 ∨ kind = 5 ∨ kind = 6 ∨ 6 < kind by omega) with hw1 | hw1 | hw1 | hw1 | hw1 | hw1 | hw1 | hw1
  · refine am_e_tabOut (t := 106) rfl ⟨by omega, by omega⟩ (by omega) rfl ?_
    refine am_e_newR rfl (by decide) ?_
    show am_E _ _ _ 109 [(0, .inl kind), (1, .inl num), (2, .inl v)] [.inr (.inr (.inl (some (124 + D.length))))] (am_mm (D ++ [(4, 3)]) (am_z I (124 + D.length) 0) (am_z J (124 + D.length) 0) (am_z ρ (124 + D.length) none)) _
    refine am_e_ss 4 (q := (113, [(0, .inl kind), (1, .inl num), (2, .inl v)], [.inl v, .inl num, .inl kind, .inr (.inr (.inl (some (124 + D.length)))), .inr (.inr (.inl (some (124 + D.length))))], (am_mm (D ++ [(4, 3)]) (am_z I (124 + D.length) 0) (am_z J (124 + D.length) 0) (am_z ρ (124 + D.length) none)))) rfl ?_
    refine am_e_special (Q := fun r => r = (none, (am_mm (D ++ [(4, 3)]) (am_up (am_up (am_up (am_z I (124 + D.length) 0) (124 + D.length) 0 kind) (124 + D.length) 1 num) (124 + D.length) 2 v) (am_z J (124 + D.length) 0) (am_z ρ (124 + D.length) none)))) rfl rfl (Nat.le_of_ble_eq_true rfl) (am_kd_of am_new_at (by decide)) rfl (by decide) (Nat.le_of_ble_eq_true rfl) (Nat.le_of_ble_eq_true rfl) (m_i4 _ (K := 0) (by omega) am_new_at) ?_
    rintro r rfl
    show am_E _ _ _ 116 [(0, .inl kind), (1, .inl num), (2, .inl v)] [.inr (.inr (.inl (some (124 + D.length))))] (am_mm (D ++ [(4, 3)]) (am_up (am_up (am_up (am_z I (124 + D.length) 0) (124 + D.length) 0 kind) (124 + D.length) 1 num) (124 + D.length) 2 v) (am_z J (124 + D.length) 0) (am_z ρ (124 + D.length) none)) _
    refine am_e_areturn rfl rfl ?_
    have eK : kind = 0 := by omega
    subst eK
    refine ⟨_, _, _, rfl, fun c j h => ⟨?_, if_neg h, if_neg h⟩, ?_, ?_, ?_⟩
    · exact (if_neg (fun e => h e.1)).trans ((if_neg (fun e => h e.1)).trans ((if_neg (fun e => h e.1)).trans (if_neg h)))
    · exact (if_neg (by omega)).trans ((if_neg (by omega)).trans (if_pos ⟨rfl, rfl⟩))
    · exact (if_neg (by omega)).trans (if_pos ⟨rfl, rfl⟩)
    · exact if_pos ⟨rfl, rfl⟩
  · refine am_e_tabIn (t := 40) (off := 39) rfl ⟨by omega, by omega⟩ (by omega) (by rw [hw1]; rfl) rfl ?_
    refine am_e_newR rfl (by decide) ?_
    show am_E _ _ _ 43 [(0, .inl kind), (1, .inl num), (2, .inl v)] [.inr (.inr (.inl (some (124 + D.length))))] (am_mm (D ++ [(5, 3)]) (am_z I (124 + D.length) 0) (am_z J (124 + D.length) 0) (am_z ρ (124 + D.length) none)) _
    refine am_e_ss 4 (q := (47, [(0, .inl kind), (1, .inl num), (2, .inl v)], [.inl v, .inl num, .inl kind, .inr (.inr (.inl (some (124 + D.length)))), .inr (.inr (.inl (some (124 + D.length))))], (am_mm (D ++ [(5, 3)]) (am_z I (124 + D.length) 0) (am_z J (124 + D.length) 0) (am_z ρ (124 + D.length) none)))) rfl ?_
    refine am_e_special (Q := fun r => r = (none, (am_mm (D ++ [(5, 3)]) (am_up (am_up (am_up (am_z I (124 + D.length) 0) (124 + D.length) 0 kind) (124 + D.length) 1 num) (124 + D.length) 2 v) (am_z J (124 + D.length) 0) (am_z ρ (124 + D.length) none)))) rfl rfl (Nat.le_of_ble_eq_true rfl) (am_kd_of am_new_at (by decide)) rfl (by decide) (Nat.le_of_ble_eq_true rfl) (Nat.le_of_ble_eq_true rfl) (m_i5 _ (K := 1) (by omega) am_new_at) ?_
    rintro r rfl
    show am_E _ _ _ 50 [(0, .inl kind), (1, .inl num), (2, .inl v)] [.inr (.inr (.inl (some (124 + D.length))))] (am_mm (D ++ [(5, 3)]) (am_up (am_up (am_up (am_z I (124 + D.length) 0) (124 + D.length) 0 kind) (124 + D.length) 1 num) (124 + D.length) 2 v) (am_z J (124 + D.length) 0) (am_z ρ (124 + D.length) none)) _
    refine am_e_areturn rfl rfl ?_
    have eK : kind = 1 := by omega
    subst eK
    refine ⟨_, _, _, rfl, fun c j h => ⟨?_, if_neg h, if_neg h⟩, ?_, ?_, ?_⟩
    · exact (if_neg (fun e => h e.1)).trans ((if_neg (fun e => h e.1)).trans ((if_neg (fun e => h e.1)).trans (if_neg h)))
    · exact (if_neg (by omega)).trans ((if_neg (by omega)).trans (if_pos ⟨rfl, rfl⟩))
    · exact (if_neg (by omega)).trans (if_pos ⟨rfl, rfl⟩)
    · exact if_pos ⟨rfl, rfl⟩
  · refine am_e_tabIn (t := 51) (off := 50) rfl ⟨by omega, by omega⟩ (by omega) (by rw [hw1]; rfl) rfl ?_
    refine am_e_newR rfl (by decide) ?_
    show am_E _ _ _ 54 [(0, .inl kind), (1, .inl num), (2, .inl v)] [.inr (.inr (.inl (some (124 + D.length))))] (am_mm (D ++ [(6, 3)]) (am_z I (124 + D.length) 0) (am_z J (124 + D.length) 0) (am_z ρ (124 + D.length) none)) _
    refine am_e_ss 4 (q := (58, [(0, .inl kind), (1, .inl num), (2, .inl v)], [.inl v, .inl num, .inl kind, .inr (.inr (.inl (some (124 + D.length)))), .inr (.inr (.inl (some (124 + D.length))))], (am_mm (D ++ [(6, 3)]) (am_z I (124 + D.length) 0) (am_z J (124 + D.length) 0) (am_z ρ (124 + D.length) none)))) rfl ?_
    refine am_e_special (Q := fun r => r = (none, (am_mm (D ++ [(6, 3)]) (am_up (am_up (am_up (am_z I (124 + D.length) 0) (124 + D.length) 0 kind) (124 + D.length) 1 num) (124 + D.length) 2 v) (am_z J (124 + D.length) 0) (am_z ρ (124 + D.length) none)))) rfl rfl (Nat.le_of_ble_eq_true rfl) (am_kd_of am_new_at (by decide)) rfl (by decide) (Nat.le_of_ble_eq_true rfl) (Nat.le_of_ble_eq_true rfl) (m_i6 _ (K := 2) (by omega) am_new_at) ?_
    rintro r rfl
    show am_E _ _ _ 61 [(0, .inl kind), (1, .inl num), (2, .inl v)] [.inr (.inr (.inl (some (124 + D.length))))] (am_mm (D ++ [(6, 3)]) (am_up (am_up (am_up (am_z I (124 + D.length) 0) (124 + D.length) 0 kind) (124 + D.length) 1 num) (124 + D.length) 2 v) (am_z J (124 + D.length) 0) (am_z ρ (124 + D.length) none)) _
    refine am_e_areturn rfl rfl ?_
    have eK : kind = 2 := by omega
    subst eK
    refine ⟨_, _, _, rfl, fun c j h => ⟨?_, if_neg h, if_neg h⟩, ?_, ?_, ?_⟩
    · exact (if_neg (fun e => h e.1)).trans ((if_neg (fun e => h e.1)).trans ((if_neg (fun e => h e.1)).trans (if_neg h)))
    · exact (if_neg (by omega)).trans ((if_neg (by omega)).trans (if_pos ⟨rfl, rfl⟩))
    · exact (if_neg (by omega)).trans (if_pos ⟨rfl, rfl⟩)
    · exact if_pos ⟨rfl, rfl⟩
  · refine am_e_tabIn (t := 62) (off := 61) rfl ⟨by omega, by omega⟩ (by omega) (by rw [hw1]; rfl) rfl ?_
    refine am_e_newR rfl (by decide) ?_
    show am_E _ _ _ 65 [(0, .inl kind), (1, .inl num), (2, .inl v)] [.inr (.inr (.inl (some (124 + D.length))))] (am_mm (D ++ [(8, 3)]) (am_z I (124 + D.length) 0) (am_z J (124 + D.length) 0) (am_z ρ (124 + D.length) none)) _
    refine am_e_ss 4 (q := (69, [(0, .inl kind), (1, .inl num), (2, .inl v)], [.inl v, .inl num, .inl kind, .inr (.inr (.inl (some (124 + D.length)))), .inr (.inr (.inl (some (124 + D.length))))], (am_mm (D ++ [(8, 3)]) (am_z I (124 + D.length) 0) (am_z J (124 + D.length) 0) (am_z ρ (124 + D.length) none)))) rfl ?_
    refine am_e_special (Q := fun r => r = (none, (am_mm (D ++ [(8, 3)]) (am_up (am_up (am_up (am_z I (124 + D.length) 0) (124 + D.length) 0 kind) (124 + D.length) 1 num) (124 + D.length) 2 v) (am_z J (124 + D.length) 0) (am_z ρ (124 + D.length) none)))) rfl rfl (Nat.le_of_ble_eq_true rfl) (am_kd_of am_new_at (by decide)) rfl (by decide) (Nat.le_of_ble_eq_true rfl) (Nat.le_of_ble_eq_true rfl) (m_i8 _ (K := 3) (by omega) am_new_at) ?_
    rintro r rfl
    show am_E _ _ _ 72 [(0, .inl kind), (1, .inl num), (2, .inl v)] [.inr (.inr (.inl (some (124 + D.length))))] (am_mm (D ++ [(8, 3)]) (am_up (am_up (am_up (am_z I (124 + D.length) 0) (124 + D.length) 0 kind) (124 + D.length) 1 num) (124 + D.length) 2 v) (am_z J (124 + D.length) 0) (am_z ρ (124 + D.length) none)) _
    refine am_e_areturn rfl rfl ?_
    have eK : kind = 3 := by omega
    subst eK
    refine ⟨_, _, _, rfl, fun c j h => ⟨?_, if_neg h, if_neg h⟩, ?_, ?_, ?_⟩
    · exact (if_neg (fun e => h e.1)).trans ((if_neg (fun e => h e.1)).trans ((if_neg (fun e => h e.1)).trans (if_neg h)))
    · exact (if_neg (by omega)).trans ((if_neg (by omega)).trans (if_pos ⟨rfl, rfl⟩))
    · exact (if_neg (by omega)).trans (if_pos ⟨rfl, rfl⟩)
    · exact if_pos ⟨rfl, rfl⟩
  · refine am_e_tabIn (t := 73) (off := 72) rfl ⟨by omega, by omega⟩ (by omega) (by rw [hw1]; rfl) rfl ?_
    refine am_e_newR rfl (by decide) ?_
    show am_E _ _ _ 76 [(0, .inl kind), (1, .inl num), (2, .inl v)] [.inr (.inr (.inl (some (124 + D.length))))] (am_mm (D ++ [(2, 3)]) (am_z I (124 + D.length) 0) (am_z J (124 + D.length) 0) (am_z ρ (124 + D.length) none)) _
    refine am_e_ss 4 (q := (80, [(0, .inl kind), (1, .inl num), (2, .inl v)], [.inl v, .inl num, .inl kind, .inr (.inr (.inl (some (124 + D.length)))), .inr (.inr (.inl (some (124 + D.length))))], (am_mm (D ++ [(2, 3)]) (am_z I (124 + D.length) 0) (am_z J (124 + D.length) 0) (am_z ρ (124 + D.length) none)))) rfl ?_
    refine am_e_special (Q := fun r => r = (none, (am_mm (D ++ [(2, 3)]) (am_up (am_up (am_up (am_z I (124 + D.length) 0) (124 + D.length) 0 kind) (124 + D.length) 1 num) (124 + D.length) 2 v) (am_z J (124 + D.length) 0) (am_z ρ (124 + D.length) none)))) rfl rfl (Nat.le_of_ble_eq_true rfl) (am_kd_of am_new_at (by decide)) rfl (by decide) (Nat.le_of_ble_eq_true rfl) (Nat.le_of_ble_eq_true rfl) (m_i2 _ (K := 4) (by omega) am_new_at) ?_
    rintro r rfl
    show am_E _ _ _ 83 [(0, .inl kind), (1, .inl num), (2, .inl v)] [.inr (.inr (.inl (some (124 + D.length))))] (am_mm (D ++ [(2, 3)]) (am_up (am_up (am_up (am_z I (124 + D.length) 0) (124 + D.length) 0 kind) (124 + D.length) 1 num) (124 + D.length) 2 v) (am_z J (124 + D.length) 0) (am_z ρ (124 + D.length) none)) _
    refine am_e_areturn rfl rfl ?_
    have eK : kind = 4 := by omega
    subst eK
    refine ⟨_, _, _, rfl, fun c j h => ⟨?_, if_neg h, if_neg h⟩, ?_, ?_, ?_⟩
    · exact (if_neg (fun e => h e.1)).trans ((if_neg (fun e => h e.1)).trans ((if_neg (fun e => h e.1)).trans (if_neg h)))
    · exact (if_neg (by omega)).trans ((if_neg (by omega)).trans (if_pos ⟨rfl, rfl⟩))
    · exact (if_neg (by omega)).trans (if_pos ⟨rfl, rfl⟩)
    · exact if_pos ⟨rfl, rfl⟩
  · refine am_e_tabIn (t := 84) (off := 83) rfl ⟨by omega, by omega⟩ (by omega) (by rw [hw1]; rfl) rfl ?_
    refine am_e_newR rfl (by decide) ?_
    show am_E _ _ _ 87 [(0, .inl kind), (1, .inl num), (2, .inl v)] [.inr (.inr (.inl (some (124 + D.length))))] (am_mm (D ++ [(9, 3)]) (am_z I (124 + D.length) 0) (am_z J (124 + D.length) 0) (am_z ρ (124 + D.length) none)) _
    refine am_e_ss 4 (q := (91, [(0, .inl kind), (1, .inl num), (2, .inl v)], [.inl v, .inl num, .inl kind, .inr (.inr (.inl (some (124 + D.length)))), .inr (.inr (.inl (some (124 + D.length))))], (am_mm (D ++ [(9, 3)]) (am_z I (124 + D.length) 0) (am_z J (124 + D.length) 0) (am_z ρ (124 + D.length) none)))) rfl ?_
    refine am_e_special (Q := fun r => r = (none, (am_mm (D ++ [(9, 3)]) (am_up (am_up (am_up (am_z I (124 + D.length) 0) (124 + D.length) 0 kind) (124 + D.length) 1 num) (124 + D.length) 2 v) (am_z J (124 + D.length) 0) (am_z ρ (124 + D.length) none)))) rfl rfl (Nat.le_of_ble_eq_true rfl) (am_kd_of am_new_at (by decide)) rfl (by decide) (Nat.le_of_ble_eq_true rfl) (Nat.le_of_ble_eq_true rfl) (m_i9 _ (K := 5) (by omega) am_new_at) ?_
    rintro r rfl
    show am_E _ _ _ 94 [(0, .inl kind), (1, .inl num), (2, .inl v)] [.inr (.inr (.inl (some (124 + D.length))))] (am_mm (D ++ [(9, 3)]) (am_up (am_up (am_up (am_z I (124 + D.length) 0) (124 + D.length) 0 kind) (124 + D.length) 1 num) (124 + D.length) 2 v) (am_z J (124 + D.length) 0) (am_z ρ (124 + D.length) none)) _
    refine am_e_areturn rfl rfl ?_
    have eK : kind = 5 := by omega
    subst eK
    refine ⟨_, _, _, rfl, fun c j h => ⟨?_, if_neg h, if_neg h⟩, ?_, ?_, ?_⟩
    · exact (if_neg (fun e => h e.1)).trans ((if_neg (fun e => h e.1)).trans ((if_neg (fun e => h e.1)).trans (if_neg h)))
    · exact (if_neg (by omega)).trans ((if_neg (by omega)).trans (if_pos ⟨rfl, rfl⟩))
    · exact (if_neg (by omega)).trans (if_pos ⟨rfl, rfl⟩)
    · exact if_pos ⟨rfl, rfl⟩
  · refine am_e_tabIn (t := 95) (off := 94) rfl ⟨by omega, by omega⟩ (by omega) (by rw [hw1]; rfl) rfl ?_
    refine am_e_newR rfl (by decide) ?_
    show am_E _ _ _ 98 [(0, .inl kind), (1, .inl num), (2, .inl v)] [.inr (.inr (.inl (some (124 + D.length))))] (am_mm (D ++ [(0, 3)]) (am_z I (124 + D.length) 0) (am_z J (124 + D.length) 0) (am_z ρ (124 + D.length) none)) _
    refine am_e_ss 4 (q := (102, [(0, .inl kind), (1, .inl num), (2, .inl v)], [.inl v, .inl num, .inl kind, .inr (.inr (.inl (some (124 + D.length)))), .inr (.inr (.inl (some (124 + D.length))))], (am_mm (D ++ [(0, 3)]) (am_z I (124 + D.length) 0) (am_z J (124 + D.length) 0) (am_z ρ (124 + D.length) none)))) rfl ?_
    refine am_e_special (Q := fun r => r = (none, (am_mm (D ++ [(0, 3)]) (am_up (am_up (am_up (am_z I (124 + D.length) 0) (124 + D.length) 0 kind) (124 + D.length) 1 num) (124 + D.length) 2 v) (am_z J (124 + D.length) 0) (am_z ρ (124 + D.length) none)))) rfl rfl (Nat.le_of_ble_eq_true rfl) (am_kd_of am_new_at (by decide)) rfl (by decide) (Nat.le_of_ble_eq_true rfl) (Nat.le_of_ble_eq_true rfl) (m_i0 _ (K := 6) (by omega) am_new_at) ?_
    rintro r rfl
    show am_E _ _ _ 105 [(0, .inl kind), (1, .inl num), (2, .inl v)] [.inr (.inr (.inl (some (124 + D.length))))] (am_mm (D ++ [(0, 3)]) (am_up (am_up (am_up (am_z I (124 + D.length) 0) (124 + D.length) 0 kind) (124 + D.length) 1 num) (124 + D.length) 2 v) (am_z J (124 + D.length) 0) (am_z ρ (124 + D.length) none)) _
    refine am_e_areturn rfl rfl ?_
    have eK : kind = 6 := by omega
    subst eK
    refine ⟨_, _, _, rfl, fun c j h => ⟨?_, if_neg h, if_neg h⟩, ?_, ?_, ?_⟩
    · exact (if_neg (fun e => h e.1)).trans ((if_neg (fun e => h e.1)).trans ((if_neg (fun e => h e.1)).trans (if_neg h)))
    · exact (if_neg (by omega)).trans ((if_neg (by omega)).trans (if_pos ⟨rfl, rfl⟩))
    · exact (if_neg (by omega)).trans (if_pos ⟨rfl, rfl⟩)
    · exact if_pos ⟨rfl, rfl⟩
  · refine am_e_tabOut (t := 106) rfl ⟨by omega, by omega⟩ (by omega) rfl ?_
    refine am_e_newR rfl (by decide) ?_
    show am_E _ _ _ 109 [(0, .inl kind), (1, .inl num), (2, .inl v)] [.inr (.inr (.inl (some (124 + D.length))))] (am_mm (D ++ [(4, 3)]) (am_z I (124 + D.length) 0) (am_z J (124 + D.length) 0) (am_z ρ (124 + D.length) none)) _
    refine am_e_ss 4 (q := (113, [(0, .inl kind), (1, .inl num), (2, .inl v)], [.inl v, .inl num, .inl kind, .inr (.inr (.inl (some (124 + D.length)))), .inr (.inr (.inl (some (124 + D.length))))], (am_mm (D ++ [(4, 3)]) (am_z I (124 + D.length) 0) (am_z J (124 + D.length) 0) (am_z ρ (124 + D.length) none)))) rfl ?_
    refine am_e_special (Q := fun r => r = (none, (am_mm (D ++ [(4, 3)]) (am_up (am_up (am_up (am_z I (124 + D.length) 0) (124 + D.length) 0 kind) (124 + D.length) 1 num) (124 + D.length) 2 v) (am_z J (124 + D.length) 0) (am_z ρ (124 + D.length) none)))) rfl rfl (Nat.le_of_ble_eq_true rfl) (am_kd_of am_new_at (by decide)) rfl (by decide) (Nat.le_of_ble_eq_true rfl) (Nat.le_of_ble_eq_true rfl) (m_i4 _ (K := 0) (by omega) am_new_at) ?_
    rintro r rfl
    show am_E _ _ _ 116 [(0, .inl kind), (1, .inl num), (2, .inl v)] [.inr (.inr (.inl (some (124 + D.length))))] (am_mm (D ++ [(4, 3)]) (am_up (am_up (am_up (am_z I (124 + D.length) 0) (124 + D.length) 0 kind) (124 + D.length) 1 num) (124 + D.length) 2 v) (am_z J (124 + D.length) 0) (am_z ρ (124 + D.length) none)) _
    refine am_e_areturn rfl rfl ?_
    have eK : kind = 0 := by omega
    subst eK
    refine ⟨_, _, _, rfl, fun c j h => ⟨?_, if_neg h, if_neg h⟩, ?_, ?_, ?_⟩
    · exact (if_neg (fun e => h e.1)).trans ((if_neg (fun e => h e.1)).trans ((if_neg (fun e => h e.1)).trans (if_neg h)))
    · exact (if_neg (by omega)).trans ((if_neg (by omega)).trans (if_pos ⟨rfl, rfl⟩))
    · exact (if_neg (by omega)).trans (if_pos ⟨rfl, rfl⟩)
    · exact if_pos ⟨rfl, rfl⟩
