/-! THE CLASS: acts, what a member is -/
theorem am_rs_cg {j : Nat} : ∀ {l : List Int} {r r' : Nat → Int} {n : Nat}, r j = r' j → am_rs r n l j = am_rs r' n l j := by
  intro l
  induction l with
  | nil => intro r r' n h; exact h
  | cons b l ih =>
    intro r r' n h
    refine ih ?_
    unfold am_u1
    split
    · rfl
    · exact h
theorem am_rs_lt {j : Nat} : ∀ {l : List Int} {r : Nat → Int} {n : Nat}, j < n → am_rs r n l j = r j := by
  intro l
  induction l with
  | nil => intro r n h; rfl
  | cons b l ih =>
    intro r n h
    exact (ih (n := n + 1) (by omega)).trans (am_u1_ne (by omega))
theorem am_rs_get : ∀ {l : List Int} {r : Nat → Int} {n i : Nat}, i < l.length → am_rs r n l (n + i) = l.getD i 0 := by
  intro l
  induction l with
  | nil => intro r n i h; simp at h
  | cons b l ih =>
    intro r n i h
    cases i with
    | zero => exact (am_rs_lt (l := l) (n := n + 1) (by omega)).trans am_u1_at
    | succ i =>
      have := ih (r := am_u1 r n b) (n := n + 1) (i := i) (by simpa using h)
      rw [show n + 1 + i = n + (i + 1) by omega] at this
      exact this
/-- the bodies told, n of them and those of l -/
def c_bg (I : Nat → Nat → Int) (n : Nat) (l : List Int) : Nat → Nat → Int := fun c j => if c = 99 then (if j = 0 then ((n + l.length : Nat) : Int) else am_rs (I 99) (1 + n) l j) else I c j
section
variable {I : Nat → Nat → Int} {n c j : Nat} {l l1 l2 l3 : List Int}
theorem c_bg_ne (h : 124 ≤ c) : c_bg I n l c j = I c j := if_neg (by omega)
theorem c_bg_0 : c_bg I n l 99 0 = ((n + l.length : Nat) : Int) := rfl
theorem c_bg_app : c_bg (c_bg I n l1) (n + l1.length) l2 = c_bg I n (l1 ++ l2) := by
  funext c j
  unfold c_bg
  by_cases e : c = 99
  · rw [if_pos e, if_pos e]
    by_cases e2 : j = 0
    · rw [if_pos e2, if_pos e2, List.length_append, Nat.add_assoc]
    · rw [if_neg e2, if_neg e2, ← am_rs_app, show 1 + n + l1.length = 1 + (n + l1.length) by omega]
      refine am_rs_cg ?_
      rw [if_pos rfl, if_neg e2]
  · rw [if_neg e, if_neg e, if_neg e]
theorem c_bg_1 {b : Int} : c_bg (c_bg I n [b]) (n + 1) l = c_bg I n (b :: l) := c_bg_app (l1 := [b])
theorem c_bg_2 {b : Int} : c_bg (c_bg (c_bg I n [b]) (n + 1) l1) (n + 1 + l1.length) l2 = c_bg I n (b :: (l1 ++ l2)) := by
  rw [c_bg_app, c_bg_1]
end
theorem m_begin {X : Nat × (Nat → Int)} {D : List (Nat × Nat)} {I J : Nat → Nat → Int} {ρ : Nat → Nat → Option Nat} (d : Nat) {b : Int} {n : Nat} (hn : I 99 0 = (n : Int)) (hn2 : n < 20) : am_E X d 41 0 [(0, .inl b), (1, .inr (.inr (.inl (some 99))))] [] (am_mm D I J ρ) (fun r => r = (none, (am_mm D (c_bg I n [b]) J ρ))) := by
  refine am_e_ss 12 (q := (12, [(0, .inl b), (1, .inr (.inr (.inl (some 99))))], [.inl 21, .inl (((I 99 0) + 1))], (am_mm D (am_up I 99 0 ((I 99 0) + 1)) J ρ))) rfl ?_
  refine am_e_icmp2 rfl ⟨by omega, by omega⟩ ⟨by omega, by omega⟩ (fun (hw1 : 21 ≤ ((I 99 0) + 1)) => ?_) (fun (hw1 : ¬ (21 ≤ ((I 99 0) + 1))) => ?_)
  · show am_E _ _ _ 21 [(0, .inl b), (1, .inr (.inr (.inl (some 99))))] [] (am_mm D (am_up I 99 0 ((I 99 0) + 1)) J ρ) _
    refine am_e_return rfl rfl ?_
    exfalso
    omega
  · show am_E _ _ _ 15 [(0, .inl b), (1, .inr (.inr (.inl (some 99))))] [] (am_mm D (am_up I 99 0 ((I 99 0) + 1)) J ρ) _
    refine am_e_ss 5 (q := (20, [(0, .inl b), (1, .inr (.inr (.inl (some 99))))], [.inl b, .inl (((I 99 0) + 1)), .inr (.inr (.inl (some 99)))], (am_mm D (am_up I 99 0 ((I 99 0) + 1)) J ρ))) rfl ?_
    refine am_e_iastore (m := 21) rfl rfl (by omega) (by omega) (by omega) ?_
    show am_E _ _ _ 21 [(0, .inl b), (1, .inr (.inr (.inl (some 99))))] [] (am_mm D (am_up (am_up I 99 0 ((I 99 0) + 1)) 99 (((I 99 0) + 1)).toNat b) J ρ) _
    refine am_e_return rfl rfl ?_
    congr 2
    funext c j
    unfold c_bg am_rs am_rs am_up am_u1
    rw [show (I 99 0 + 1).toNat = 1 + n by omega]
    by_cases e1 : c = 99
    · subst e1
      by_cases e2 : j = 0
      · subst e2; rw [if_neg (by omega), if_pos (by omega), if_pos rfl, if_pos rfl, List.length_singleton]; omega
      · by_cases e3 : j = 1 + n
        · rw [if_pos (by omega), if_pos rfl, if_neg e2, if_pos e3]
        · rw [if_neg (by omega), if_neg (by omega), if_pos rfl, if_neg e2, if_neg e3]
    · rw [if_neg (by omega), if_neg (by omega), if_neg e1]
theorem m_w4 {X : Nat × (Nat → Int)} {D : List (Nat × Nat)} {I J : Nat → Nat → Int} {ρ : Nat → Nat → Option Nat} (d : Nat) {k K : Nat} (hK : K < 7) (hsk : (am_S ++ D)[k]? = some (am_kc K, 3)) (hk124 : 124 ≤ k) {i : Int} (hi : I k 1 = i) {n : Nat} (hn : I 99 0 = (n : Int)) (hn2 : n < 20) {x : Int} : am_E X (d + 1) 38 0 [(0, .inr (.inr (.inl (some k)))), (1, .inl x), (2, .inr (.inr (.inl (some 99))))] [] (am_mm D I J ρ) (fun r => r = (some (.inl (x + i)), am_mm D (c_bg I n [1]) J ρ)) := by
  refine am_e_ss 2 (q := (2, [(0, .inr (.inr (.inl (some k)))), (1, .inl x), (2, .inr (.inr (.inl (some 99))))], [.inr (.inr (.inl (some 99))), .inl 1], (am_mm D I J ρ))) rfl ?_
  refine am_e_static (Q := fun r => ∃ Q245, r = (none, (am_mm D (c_bg I n [1]) J ρ)) ∧ True) rfl (Nat.le_of_ble_eq_true rfl) rfl (Nat.le_of_ble_eq_true rfl) (Nat.le_of_ble_eq_true rfl) ((m_begin _ (n := n) hn (by omega)).imp (fun q h => ⟨I, h, True.intro⟩)) ?_
  rintro r ⟨Q245, rfl, -⟩
  have hn1 : (c_bg I n [1]) 99 0 = ((n + 1 : Nat) : Int) := rfl
  have g1 : (c_bg I n [1]) k 1 = i := (c_bg_ne (by omega)).trans hi
  show am_E _ _ _ 5 [(0, .inr (.inr (.inl (some k)))), (1, .inl x), (2, .inr (.inr (.inl (some 99))))] [] (am_mm D (c_bg I n [1]) J ρ) _
  refine am_e_ss 2 (q := (7, [(0, .inr (.inr (.inl (some k)))), (1, .inl x), (2, .inr (.inr (.inl (some 99))))], [.inr (.inr (.inl (some k))), .inl x], (am_mm D (c_bg I n [1]) J ρ))) rfl ?_
  refine am_e_gm (K := K) (f := 1) rfl hsk hK (by decide) (by decide) (by decide) ?_
  show am_E _ _ _ 10 [(0, .inr (.inr (.inl (some k)))), (1, .inl x), (2, .inr (.inr (.inl (some 99))))] [.inl (((c_bg I n [1]) k 1)), .inl x] (am_mm D (c_bg I n [1]) J ρ) _
  refine am_e_ss 1 (q := (11, [(0, .inr (.inr (.inl (some k)))), (1, .inl x), (2, .inr (.inr (.inl (some 99))))], [.inl (x + ((c_bg I n [1]) k 1))], (am_mm D (c_bg I n [1]) J ρ))) rfl ?_
  refine am_e_ireturn rfl rfl ?_
  rw [show (x + ((c_bg I n [1]) k 1)) = x + i by rw [c_bg_ne (by omega), hi]]
theorem m_w5 {X : Nat × (Nat → Int)} {D : List (Nat × Nat)} {I J : Nat → Nat → Int} {ρ : Nat → Nat → Option Nat} (d : Nat) {k K : Nat} (hK : K < 7) (hsk : (am_S ++ D)[k]? = some (am_kc K, 3)) (hk124 : 124 ≤ k) {i : Int} (hi : I k 1 = i) {n : Nat} (hn : I 99 0 = (n : Int)) (hn2 : n < 19) {x : Int} : am_E X (d + 2) 44 0 [(0, .inr (.inr (.inl (some k)))), (1, .inl x), (2, .inr (.inr (.inl (some 99))))] [] (am_mm D I J ρ) (fun r => r = (some (.inl (x * 3 + i)), am_mm D (c_bg I n [11, 1]) J ρ)) := by
  refine am_e_ss 2 (q := (3, [(0, .inr (.inr (.inl (some k)))), (1, .inl x), (2, .inr (.inr (.inl (some 99))))], [.inr (.inr (.inl (some 99))), .inl 11], (am_mm D I J ρ))) rfl ?_
  refine am_e_static (Q := fun r => ∃ Q246, r = (none, (am_mm D (c_bg I n [11]) J ρ)) ∧ True) rfl (Nat.le_of_ble_eq_true rfl) rfl (Nat.le_of_ble_eq_true rfl) (Nat.le_of_ble_eq_true rfl) ((m_begin _ (n := n) hn (by omega)).imp (fun q h => ⟨I, h, True.intro⟩)) ?_
  rintro r ⟨Q246, rfl, -⟩
  have hn1 : (c_bg I n [11]) 99 0 = ((n + 1 : Nat) : Int) := rfl
  have g1 : (c_bg I n [11]) k 1 = i := (c_bg_ne (by omega)).trans hi
  show am_E _ _ _ 6 [(0, .inr (.inr (.inl (some k)))), (1, .inl x), (2, .inr (.inr (.inl (some 99))))] [] (am_mm D (c_bg I n [11]) J ρ) _
  refine am_e_ss 5 (q := (11, [(0, .inr (.inr (.inl (some k)))), (1, .inl x), (2, .inr (.inr (.inl (some 99))))], [.inr (.inr (.inl (some 99))), .inl (x * 3), .inr (.inr (.inl (some k)))], (am_mm D (c_bg I n [11]) J ρ))) rfl ?_
  refine am_e_special (Q := fun r => r = (some (.inl (((x * 3) + i))), (am_mm D (c_bg (c_bg I n [11]) (n + 1) [1]) J ρ))) rfl rfl (Nat.le_of_ble_eq_true rfl) (am_kd_of hsk (am_kc_lt _ hK)) rfl (by decide) (Nat.le_of_ble_eq_true rfl) (Nat.le_of_ble_eq_true rfl) (m_w4 _ (n := n + 1) hK hsk hk124 g1 hn1 (by omega)) ?_
  rintro r rfl
  show am_E _ _ _ 14 [(0, .inr (.inr (.inl (some k)))), (1, .inl x), (2, .inr (.inr (.inl (some 99))))] [.inl (((x * 3) + i))] (am_mm D (c_bg (c_bg I n [11]) (n + 1) [1]) J ρ) _
  refine am_e_ireturn rfl rfl ?_
  rw [c_bg_1]
theorem m_w9 {X : Nat × (Nat → Int)} {D : List (Nat × Nat)} {I J : Nat → Nat → Int} {ρ : Nat → Nat → Option Nat} (d : Nat) {k : Nat} (hsk : (am_S ++ D)[k]? = some (9, 3)) (hk124 : 124 ≤ k) {i : Int} (hi : I k 1 = i) {n : Nat} (hn : I 99 0 = (n : Int)) (hn2 : n < 19) {x : Int} : am_E X (d + 2) 63 0 [(0, .inr (.inr (.inl (some k)))), (1, .inl x), (2, .inr (.inr (.inl (some 99))))] [] (am_mm D I J ρ) (fun r => r = (some (.inl (Int32.ofInt (x + i) ^^^ Int32.ofInt i).toInt), am_mm D (c_bg I n [51, 1]) J ρ)) := by
  refine am_e_ss 2 (q := (3, [(0, .inr (.inr (.inl (some k)))), (1, .inl x), (2, .inr (.inr (.inl (some 99))))], [.inr (.inr (.inl (some 99))), .inl 51], (am_mm D I J ρ))) rfl ?_
  refine am_e_static (Q := fun r => ∃ Q247, r = (none, (am_mm D (c_bg I n [51]) J ρ)) ∧ True) rfl (Nat.le_of_ble_eq_true rfl) rfl (Nat.le_of_ble_eq_true rfl) (Nat.le_of_ble_eq_true rfl) ((m_begin _ (n := n) hn (by omega)).imp (fun q h => ⟨I, h, True.intro⟩)) ?_
  rintro r ⟨Q247, rfl, -⟩
  have hn1 : (c_bg I n [51]) 99 0 = ((n + 1 : Nat) : Int) := rfl
  have g1 : (c_bg I n [51]) k 1 = i := (c_bg_ne (by omega)).trans hi
  show am_E _ _ _ 6 [(0, .inr (.inr (.inl (some k)))), (1, .inl x), (2, .inr (.inr (.inl (some 99))))] [] (am_mm D (c_bg I n [51]) J ρ) _
  refine am_e_ss 3 (q := (9, [(0, .inr (.inr (.inl (some k)))), (1, .inl x), (2, .inr (.inr (.inl (some 99))))], [.inr (.inr (.inl (some 99))), .inl x, .inr (.inr (.inl (some k)))], (am_mm D (c_bg I n [51]) J ρ))) rfl ?_
  refine am_e_special (Q := fun r => r = (some (.inl ((x + i))), (am_mm D (c_bg (c_bg I n [51]) (n + 1) [1]) J ρ))) rfl rfl (Nat.le_of_ble_eq_true rfl) (am_kd_of hsk (by decide)) rfl (by decide) (Nat.le_of_ble_eq_true rfl) (Nat.le_of_ble_eq_true rfl) (m_w4 _ (n := n + 1) (show 5 < 7 by omega) hsk hk124 g1 hn1 (by omega)) ?_
  rintro r rfl
  show am_E _ _ _ 12 [(0, .inr (.inr (.inl (some k)))), (1, .inl x), (2, .inr (.inr (.inl (some 99))))] [.inl ((x + i))] (am_mm D (c_bg (c_bg I n [51]) (n + 1) [1]) J ρ) _
  refine am_e_ss 1 (q := (13, [(0, .inr (.inr (.inl (some k)))), (1, .inl x), (2, .inr (.inr (.inl (some 99))))], [.inr (.inr (.inl (some k))), .inl ((x + i))], (am_mm D (c_bg (c_bg I n [51]) (n + 1) [1]) J ρ))) rfl ?_
  refine am_e_getfield (c := 9) (m := 3) (f := 1) rfl hsk rfl (by decide) (by decide) ?_
  show am_E _ _ _ 16 [(0, .inr (.inr (.inl (some k)))), (1, .inl x), (2, .inr (.inr (.inl (some 99))))] [.inl (((c_bg (c_bg I n [51]) (n + 1) [1]) k 1)), .inl ((x + i))] (am_mm D (c_bg (c_bg I n [51]) (n + 1) [1]) J ρ) _
  refine am_e_ss 1 (q := (17, [(0, .inr (.inr (.inl (some k)))), (1, .inl x), (2, .inr (.inr (.inl (some 99))))], [.inl ((Int32.ofInt (x + i) ^^^ Int32.ofInt ((c_bg (c_bg I n [51]) (n + 1) [1]) k 1)).toInt)], (am_mm D (c_bg (c_bg I n [51]) (n + 1) [1]) J ρ))) rfl ?_
  refine am_e_ireturn rfl rfl ?_
  rw [show (Int32.ofInt (x + i) ^^^ Int32.ofInt ((c_bg (c_bg I n [51]) (n + 1) [1]) k 1)).toInt = (Int32.ofInt (x + i) ^^^ Int32.ofInt i).toInt by rw [c_bg_ne (by omega), g1], c_bg_1]
theorem m_wish {X : Nat × (Nat → Int)} {D : List (Nat × Nat)} {I J : Nat → Nat → Int} {ρ : Nat → Nat → Option Nat} (d : Nat) {k K : Nat} (hK : K < 7) (hsk : (am_S ++ D)[k]? = some (am_kc K, 3)) (hk124 : 124 ≤ k) {i : Int} (hi : I k 1 = i) {n : Nat} (hn : I 99 0 = (n : Int)) (hn2 : n < 19) {x : Int} : am_E X (d + 2) (am_tg [38, 44, 38, 38, 44, 63, 38] K) 0 [(0, .inr (.inr (.inl (some k)))), (1, .inl x), (2, .inr (.inr (.inl (some 99))))] [] (am_mm D I J ρ) (fun r => r = (some (.inl (sp_wish (K : Int) i x).1), am_mm D (c_bg I n (sp_wish (K : Int) i x).2) J ρ)) := by
  rcases (show K = 0 ∨ K = 1 ∨ K = 2 ∨ K = 3 ∨ K = 4 ∨ K = 5 ∨ K = 6 by omega) with rfl | rfl | rfl | rfl | rfl | rfl | rfl
  · exact m_w4 (d + 1) hK hsk hk124 hi hn (by omega)
  · exact m_w5 d hK hsk hk124 hi hn hn2
  · exact m_w4 (d + 1) hK hsk hk124 hi hn (by omega)
  · exact m_w4 (d + 1) hK hsk hk124 hi hn (by omega)
  · exact m_w5 d hK hsk hk124 hi hn hn2
  · exact m_w9 d hsk hk124 hi hn hn2
  · exact m_w4 (d + 1) hK hsk hk124 hi hn (by omega)
theorem m_r4 {X : Nat × (Nat → Int)} {D : List (Nat × Nat)} {I J : Nat → Nat → Int} {ρ : Nat → Nat → Option Nat} (d : Nat) {k K : Nat} (hK : K < 7) (hsk : (am_S ++ D)[k]? = some (am_kc K, 3)) (hk124 : 124 ≤ k) {i : Int} (hi : I k 1 = i) {v : Int} (hv : I k 2 = v) {n : Nat} (hn : I 99 0 = (n : Int)) (hn2 : n < 18) {x : Int} : am_E X (d + 3) 39 0 [(0, .inr (.inr (.inl (some k)))), (1, .inl x), (2, .inr (.inr (.inl (some 99))))] [] (am_mm D I J ρ) (fun r => r = (some (.inl (sp_rd0 (K : Int) i v x).1), am_mm D (c_bg I n (sp_rd0 (K : Int) i v x).2) J ρ)) := by
  refine am_e_ss 2 (q := (2, [(0, .inr (.inr (.inl (some k)))), (1, .inl x), (2, .inr (.inr (.inl (some 99))))], [.inr (.inr (.inl (some 99))), .inl 2], (am_mm D I J ρ))) rfl ?_
  refine am_e_static (Q := fun r => ∃ Q248, r = (none, (am_mm D (c_bg I n [2]) J ρ)) ∧ True) rfl (Nat.le_of_ble_eq_true rfl) rfl (Nat.le_of_ble_eq_true rfl) (Nat.le_of_ble_eq_true rfl) ((m_begin _ (n := n) hn (by omega)).imp (fun q h => ⟨I, h, True.intro⟩)) ?_
  rintro r ⟨Q248, rfl, -⟩
  have hn1 : (c_bg I n [2]) 99 0 = ((n + 1 : Nat) : Int) := rfl
  have g1 : (c_bg I n [2]) k 1 = i := (c_bg_ne (by omega)).trans hi
  have g2 : (c_bg I n [2]) k 2 = v := (c_bg_ne (by omega)).trans hv
  show am_E _ _ _ 5 [(0, .inr (.inr (.inl (some k)))), (1, .inl x), (2, .inr (.inr (.inl (some 99))))] [] (am_mm D (c_bg I n [2]) J ρ) _
  refine am_e_ss 3 (q := (8, [(0, .inr (.inr (.inl (some k)))), (1, .inl x), (2, .inr (.inr (.inl (some 99))))], [.inr (.inr (.inl (some 99))), .inl x, .inr (.inr (.inl (some k)))], (am_mm D (c_bg I n [2]) J ρ))) rfl ?_
  refine am_e_vm (K := K) (tg := (am_tg [38, 44, 38, 38, 44, 63, 38])) (N := 3) (Q := fun r => ∃ Q249, r = (some (.inl ((sp_wish (K : Int) i x).1)), (am_mm D (c_bg (c_bg I n [2]) (n + 1) (sp_wish (K : Int) i x).2) J ρ)) ∧ True) rfl rfl (Nat.le_of_ble_eq_true rfl) hsk hK (by decide) (Nat.le_of_ble_eq_true rfl) (Nat.le_of_ble_eq_true rfl) (by decide) ((m_wish _ (n := n + 1) hK hsk hk124 g1 hn1 (by omega)).imp (fun q h => ⟨I, h, True.intro⟩)) ?_
  rintro r ⟨Q249, rfl, -⟩
  show am_E _ _ _ 11 [(0, .inr (.inr (.inl (some k)))), (1, .inl x), (2, .inr (.inr (.inl (some 99))))] [.inl ((sp_wish (K : Int) i x).1)] (am_mm D (c_bg (c_bg I n [2]) (n + 1) (sp_wish (K : Int) i x).2) J ρ) _
  refine am_e_ss 1 (q := (12, [(0, .inr (.inr (.inl (some k)))), (1, .inl x), (2, .inr (.inr (.inl (some 99))))], [.inr (.inr (.inl (some k))), .inl ((sp_wish (K : Int) i x).1)], (am_mm D (c_bg (c_bg I n [2]) (n + 1) (sp_wish (K : Int) i x).2) J ρ))) rfl ?_
  refine am_e_gm (K := K) (f := 2) rfl hsk hK (by decide) (by decide) (by decide) ?_
  show am_E _ _ _ 15 [(0, .inr (.inr (.inl (some k)))), (1, .inl x), (2, .inr (.inr (.inl (some 99))))] [.inl (((c_bg (c_bg I n [2]) (n + 1) (sp_wish (K : Int) i x).2) k 2)), .inl ((sp_wish (K : Int) i x).1)] (am_mm D (c_bg (c_bg I n [2]) (n + 1) (sp_wish (K : Int) i x).2) J ρ) _
  refine am_e_ss 1 (q := (16, [(0, .inr (.inr (.inl (some k)))), (1, .inl x), (2, .inr (.inr (.inl (some 99))))], [.inl ((sp_wish (K : Int) i x).1 - ((c_bg (c_bg I n [2]) (n + 1) (sp_wish (K : Int) i x).2) k 2))], (am_mm D (c_bg (c_bg I n [2]) (n + 1) (sp_wish (K : Int) i x).2) J ρ))) rfl ?_
  refine am_e_ireturn rfl rfl ?_
  rw [show ((sp_wish (K : Int) i x).1 - ((c_bg (c_bg I n [2]) (n + 1) (sp_wish (K : Int) i x).2) k 2)) = (sp_rd0 (K : Int) i v x).1 by rw [c_bg_ne (by omega), g2]; rfl, c_bg_1]
  rfl
theorem m_r6 {X : Nat × (Nat → Int)} {D : List (Nat × Nat)} {I J : Nat → Nat → Int} {ρ : Nat → Nat → Option Nat} (d : Nat) {k K : Nat} (hK : K < 7) (hsk : (am_S ++ D)[k]? = some (am_kc K, 3)) (hk124 : 124 ≤ k) {i : Int} (hi : I k 1 = i) {v : Int} (hv : I k 2 = v) {n : Nat} (hn : I 99 0 = (n : Int)) (hn2 : n < 17) {x : Int} : am_E X (d + 4) 47 0 [(0, .inr (.inr (.inl (some k)))), (1, .inl x), (2, .inr (.inr (.inl (some 99))))] [] (am_mm D I J ρ) (fun r => r = (some (.inl (-(sp_rd0 (K : Int) i v x).1)), am_mm D (c_bg I n (21 :: (sp_rd0 (K : Int) i v x).2)) J ρ)) := by
  refine am_e_ss 2 (q := (3, [(0, .inr (.inr (.inl (some k)))), (1, .inl x), (2, .inr (.inr (.inl (some 99))))], [.inr (.inr (.inl (some 99))), .inl 21], (am_mm D I J ρ))) rfl ?_
  refine am_e_static (Q := fun r => ∃ Q250, r = (none, (am_mm D (c_bg I n [21]) J ρ)) ∧ True) rfl (Nat.le_of_ble_eq_true rfl) rfl (Nat.le_of_ble_eq_true rfl) (Nat.le_of_ble_eq_true rfl) ((m_begin _ (n := n) hn (by omega)).imp (fun q h => ⟨I, h, True.intro⟩)) ?_
  rintro r ⟨Q250, rfl, -⟩
  have hn1 : (c_bg I n [21]) 99 0 = ((n + 1 : Nat) : Int) := rfl
  have g1 : (c_bg I n [21]) k 1 = i := (c_bg_ne (by omega)).trans hi
  have g2 : (c_bg I n [21]) k 2 = v := (c_bg_ne (by omega)).trans hv
  show am_E _ _ _ 6 [(0, .inr (.inr (.inl (some k)))), (1, .inl x), (2, .inr (.inr (.inl (some 99))))] [] (am_mm D (c_bg I n [21]) J ρ) _
  refine am_e_ss 3 (q := (9, [(0, .inr (.inr (.inl (some k)))), (1, .inl x), (2, .inr (.inr (.inl (some 99))))], [.inr (.inr (.inl (some 99))), .inl x, .inr (.inr (.inl (some k)))], (am_mm D (c_bg I n [21]) J ρ))) rfl ?_
  refine am_e_special (Q := fun r => r = (some (.inl ((sp_rd0 (K : Int) i v x).1)), (am_mm D (c_bg (c_bg I n [21]) (n + 1) (sp_rd0 (K : Int) i v x).2) J ρ))) rfl rfl (Nat.le_of_ble_eq_true rfl) (am_kd_of hsk (am_kc_lt _ hK)) rfl (by decide) (Nat.le_of_ble_eq_true rfl) (Nat.le_of_ble_eq_true rfl) (m_r4 _ (K := K) (n := n + 1) hK hsk hk124 g1 g2 hn1 (by omega)) ?_
  rintro r rfl
  show am_E _ _ _ 12 [(0, .inr (.inr (.inl (some k)))), (1, .inl x), (2, .inr (.inr (.inl (some 99))))] [.inl ((sp_rd0 (K : Int) i v x).1)] (am_mm D (c_bg (c_bg I n [21]) (n + 1) (sp_rd0 (K : Int) i v x).2) J ρ) _
  refine am_e_ss 1 (q := (13, [(0, .inr (.inr (.inl (some k)))), (1, .inl x), (2, .inr (.inr (.inl (some 99))))], [.inl ((-(sp_rd0 (K : Int) i v x).1))], (am_mm D (c_bg (c_bg I n [21]) (n + 1) (sp_rd0 (K : Int) i v x).2) J ρ))) rfl ?_
  refine am_e_ireturn rfl rfl ?_
  rw [c_bg_1]
theorem m_r0 {X : Nat × (Nat → Int)} {D : List (Nat × Nat)} {I J : Nat → Nat → Int} {ρ : Nat → Nat → Option Nat} (d : Nat) {k : Nat} (hsk : (am_S ++ D)[k]? = some (0, 3)) (hk124 : 124 ≤ k) {i : Int} (hi : I k 1 = i) {v : Int} (hv : I k 2 = v) {n : Nat} (hn : I 99 0 = (n : Int)) (hn2 : n < 17) {x : Int} : am_E X (d + 4) 4 0 [(0, .inr (.inr (.inl (some k)))), (1, .inl x), (2, .inr (.inr (.inl (some 99))))] [] (am_mm D I J ρ) (fun r => r = (some (.inl ((sp_rd0 ((6 : Nat) : Int) i v x).1 + v)), am_mm D (c_bg I n (61 :: (sp_rd0 ((6 : Nat) : Int) i v x).2)) J ρ)) := by
  refine am_e_ss 2 (q := (3, [(0, .inr (.inr (.inl (some k)))), (1, .inl x), (2, .inr (.inr (.inl (some 99))))], [.inr (.inr (.inl (some 99))), .inl 61], (am_mm D I J ρ))) rfl ?_
  refine am_e_static (Q := fun r => ∃ Q251, r = (none, (am_mm D (c_bg I n [61]) J ρ)) ∧ True) rfl (Nat.le_of_ble_eq_true rfl) rfl (Nat.le_of_ble_eq_true rfl) (Nat.le_of_ble_eq_true rfl) ((m_begin _ (n := n) hn (by omega)).imp (fun q h => ⟨I, h, True.intro⟩)) ?_
  rintro r ⟨Q251, rfl, -⟩
  have hn1 : (c_bg I n [61]) 99 0 = ((n + 1 : Nat) : Int) := rfl
  have g1 : (c_bg I n [61]) k 1 = i := (c_bg_ne (by omega)).trans hi
  have g2 : (c_bg I n [61]) k 2 = v := (c_bg_ne (by omega)).trans hv
  show am_E _ _ _ 6 [(0, .inr (.inr (.inl (some k)))), (1, .inl x), (2, .inr (.inr (.inl (some 99))))] [] (am_mm D (c_bg I n [61]) J ρ) _
  refine am_e_ss 3 (q := (9, [(0, .inr (.inr (.inl (some k)))), (1, .inl x), (2, .inr (.inr (.inl (some 99))))], [.inr (.inr (.inl (some 99))), .inl x, .inr (.inr (.inl (some k)))], (am_mm D (c_bg I n [61]) J ρ))) rfl ?_
  refine am_e_special (Q := fun r => r = (some (.inl ((sp_rd0 ((6 : Nat) : Int) i v x).1)), (am_mm D (c_bg (c_bg I n [61]) (n + 1) (sp_rd0 ((6 : Nat) : Int) i v x).2) J ρ))) rfl rfl (Nat.le_of_ble_eq_true rfl) (am_kd_of hsk (by decide)) rfl (by decide) (Nat.le_of_ble_eq_true rfl) (Nat.le_of_ble_eq_true rfl) (m_r4 _ (K := 6) (n := n + 1) (show 6 < 7 by omega) hsk hk124 g1 g2 hn1 (by omega)) ?_
  rintro r rfl
  show am_E _ _ _ 12 [(0, .inr (.inr (.inl (some k)))), (1, .inl x), (2, .inr (.inr (.inl (some 99))))] [.inl ((sp_rd0 ((6 : Nat) : Int) i v x).1)] (am_mm D (c_bg (c_bg I n [61]) (n + 1) (sp_rd0 ((6 : Nat) : Int) i v x).2) J ρ) _
  refine am_e_ss 1 (q := (13, [(0, .inr (.inr (.inl (some k)))), (1, .inl x), (2, .inr (.inr (.inl (some 99))))], [.inr (.inr (.inl (some k))), .inl ((sp_rd0 ((6 : Nat) : Int) i v x).1)], (am_mm D (c_bg (c_bg I n [61]) (n + 1) (sp_rd0 ((6 : Nat) : Int) i v x).2) J ρ))) rfl ?_
  refine am_e_getfield (c := 0) (m := 3) (f := 2) rfl hsk rfl (by decide) (by decide) ?_
  show am_E _ _ _ 16 [(0, .inr (.inr (.inl (some k)))), (1, .inl x), (2, .inr (.inr (.inl (some 99))))] [.inl (((c_bg (c_bg I n [61]) (n + 1) (sp_rd0 ((6 : Nat) : Int) i v x).2) k 2)), .inl ((sp_rd0 ((6 : Nat) : Int) i v x).1)] (am_mm D (c_bg (c_bg I n [61]) (n + 1) (sp_rd0 ((6 : Nat) : Int) i v x).2) J ρ) _
  refine am_e_ss 1 (q := (17, [(0, .inr (.inr (.inl (some k)))), (1, .inl x), (2, .inr (.inr (.inl (some 99))))], [.inl ((sp_rd0 ((6 : Nat) : Int) i v x).1 + ((c_bg (c_bg I n [61]) (n + 1) (sp_rd0 ((6 : Nat) : Int) i v x).2) k 2))], (am_mm D (c_bg (c_bg I n [61]) (n + 1) (sp_rd0 ((6 : Nat) : Int) i v x).2) J ρ))) rfl ?_
  refine am_e_ireturn rfl rfl ?_
  rw [show ((sp_rd0 ((6 : Nat) : Int) i v x).1 + ((c_bg (c_bg I n [61]) (n + 1) (sp_rd0 ((6 : Nat) : Int) i v x).2) k 2)) = (sp_rd0 ((6 : Nat) : Int) i v x).1 + v by rw [c_bg_ne (by omega), g2], c_bg_1]
theorem m_read {X : Nat × (Nat → Int)} {D : List (Nat × Nat)} {I J : Nat → Nat → Int} {ρ : Nat → Nat → Option Nat} (d : Nat) {k K : Nat} (hK : K < 7) (hsk : (am_S ++ D)[k]? = some (am_kc K, 3)) (hk124 : 124 ≤ k) {i : Int} (hi : I k 1 = i) {v : Int} (hv : I k 2 = v) {n : Nat} (hn : I 99 0 = (n : Int)) (hn2 : n < 17) {x : Int} : am_E X (d + 4) (am_tg [39, 39, 47, 39, 39, 47, 4] K) 0 [(0, .inr (.inr (.inl (some k)))), (1, .inl x), (2, .inr (.inr (.inl (some 99))))] [] (am_mm D I J ρ) (fun r => r = (some (.inl (sp_rd (K : Int) i v x).1), am_mm D (c_bg I n (sp_rd (K : Int) i v x).2) J ρ)) := by
  rcases (show K = 0 ∨ K = 1 ∨ K = 2 ∨ K = 3 ∨ K = 4 ∨ K = 5 ∨ K = 6 by omega) with rfl | rfl | rfl | rfl | rfl | rfl | rfl
  · exact m_r4 (d + 1) hK hsk hk124 hi hv hn (by omega)
  · exact m_r4 (d + 1) hK hsk hk124 hi hv hn (by omega)
  · exact m_r6 d hK hsk hk124 hi hv hn hn2
  · exact m_r4 (d + 1) hK hsk hk124 hi hv hn (by omega)
  · exact m_r4 (d + 1) hK hsk hk124 hi hv hn (by omega)
  · exact m_r6 d hK hsk hk124 hi hv hn hn2
  · exact m_r0 d hsk hk124 hi hv hn hn2
theorem m_t4 {X : Nat × (Nat → Int)} {D : List (Nat × Nat)} {I J : Nat → Nat → Int} {ρ : Nat → Nat → Option Nat} (d : Nat) {k K : Nat} (hK : K < 7) (hsk : (am_S ++ D)[k]? = some (am_kc K, 3)) (hk124 : 124 ≤ k) {i : Int} (hi : I k 1 = i) {v : Int} (hv : I k 2 = v) {n : Nat} (hn : I 99 0 = (n : Int)) (hn2 : n < 16) {x : Int} : am_E X (d + 5) 40 0 [(0, .inr (.inr (.inl (some k)))), (1, .inl x), (2, .inr (.inr (.inl (some 99))))] [] (am_mm D I J ρ) (fun r => r = (some (.inl (sp_tk0 (K : Int) i v x).1), am_mm D (c_bg I n (sp_tk0 (K : Int) i v x).2) J ρ)) := by
  refine am_e_ss 2 (q := (2, [(0, .inr (.inr (.inl (some k)))), (1, .inl x), (2, .inr (.inr (.inl (some 99))))], [.inr (.inr (.inl (some 99))), .inl 3], (am_mm D I J ρ))) rfl ?_
  refine am_e_static (Q := fun r => ∃ Q252, r = (none, (am_mm D (c_bg I n [3]) J ρ)) ∧ True) rfl (Nat.le_of_ble_eq_true rfl) rfl (Nat.le_of_ble_eq_true rfl) (Nat.le_of_ble_eq_true rfl) ((m_begin _ (n := n) hn (by omega)).imp (fun q h => ⟨I, h, True.intro⟩)) ?_
  rintro r ⟨Q252, rfl, -⟩
  have hn1 : (c_bg I n [3]) 99 0 = ((n + 1 : Nat) : Int) := rfl
  have g1 : (c_bg I n [3]) k 1 = i := (c_bg_ne (by omega)).trans hi
  have g2 : (c_bg I n [3]) k 2 = v := (c_bg_ne (by omega)).trans hv
  show am_E _ _ _ 5 [(0, .inr (.inr (.inl (some k)))), (1, .inl x), (2, .inr (.inr (.inl (some 99))))] [] (am_mm D (c_bg I n [3]) J ρ) _
  refine am_e_ss 3 (q := (8, [(0, .inr (.inr (.inl (some k)))), (1, .inl x), (2, .inr (.inr (.inl (some 99))))], [.inr (.inr (.inl (some 99))), .inl x, .inr (.inr (.inl (some k)))], (am_mm D (c_bg I n [3]) J ρ))) rfl ?_
  refine am_e_vm (K := K) (tg := (am_tg [39, 39, 47, 39, 39, 47, 4])) (N := 3) (Q := fun r => ∃ Q253, r = (some (.inl ((sp_rd (K : Int) i v x).1)), (am_mm D (c_bg (c_bg I n [3]) (n + 1) (sp_rd (K : Int) i v x).2) J ρ)) ∧ True) rfl rfl (Nat.le_of_ble_eq_true rfl) hsk hK (by decide) (Nat.le_of_ble_eq_true rfl) (Nat.le_of_ble_eq_true rfl) (by decide) ((m_read _ (n := n + 1) hK hsk hk124 g1 g2 hn1 (by omega)).imp (fun q h => ⟨I, h, True.intro⟩)) ?_
  rintro r ⟨Q253, rfl, -⟩
  show am_E _ _ _ 11 [(0, .inr (.inr (.inl (some k)))), (1, .inl x), (2, .inr (.inr (.inl (some 99))))] [.inl ((sp_rd (K : Int) i v x).1)] (am_mm D (c_bg (c_bg I n [3]) (n + 1) (sp_rd (K : Int) i v x).2) J ρ) _
  refine am_e_ss 2 (q := (13, [(0, .inr (.inr (.inl (some k)))), (1, .inl x), (2, .inr (.inr (.inl (some 99))))], [.inl ((sp_rd (K : Int) i v x).1 * 2)], (am_mm D (c_bg (c_bg I n [3]) (n + 1) (sp_rd (K : Int) i v x).2) J ρ))) rfl ?_
  refine am_e_ireturn rfl rfl ?_
  rw [c_bg_1]
  rfl
theorem m_t8 {X : Nat × (Nat → Int)} {D : List (Nat × Nat)} {I J : Nat → Nat → Int} {ρ : Nat → Nat → Option Nat} (d : Nat) {k K : Nat} (hK : K < 7) (hsk : (am_S ++ D)[k]? = some (am_kc K, 3)) (hk124 : 124 ≤ k) {i : Int} (hi : I k 1 = i) {v : Int} (hv : I k 2 = v) {n : Nat} (hn : I 99 0 = (n : Int)) (hn2 : n < 15) {x : Int} : am_E X (d + 6) 60 0 [(0, .inr (.inr (.inl (some k)))), (1, .inl x), (2, .inr (.inr (.inl (some 99))))] [] (am_mm D I J ρ) (fun r => r = (some (.inl (Int32.ofInt (sp_tk0 (K : Int) i v x).1 ^^^ Int32.ofInt 7).toInt), am_mm D (c_bg I n (31 :: (sp_tk0 (K : Int) i v x).2)) J ρ)) := by
  refine am_e_ss 2 (q := (3, [(0, .inr (.inr (.inl (some k)))), (1, .inl x), (2, .inr (.inr (.inl (some 99))))], [.inr (.inr (.inl (some 99))), .inl 31], (am_mm D I J ρ))) rfl ?_
  refine am_e_static (Q := fun r => ∃ Q254, r = (none, (am_mm D (c_bg I n [31]) J ρ)) ∧ True) rfl (Nat.le_of_ble_eq_true rfl) rfl (Nat.le_of_ble_eq_true rfl) (Nat.le_of_ble_eq_true rfl) ((m_begin _ (n := n) hn (by omega)).imp (fun q h => ⟨I, h, True.intro⟩)) ?_
  rintro r ⟨Q254, rfl, -⟩
  have hn1 : (c_bg I n [31]) 99 0 = ((n + 1 : Nat) : Int) := rfl
  have g1 : (c_bg I n [31]) k 1 = i := (c_bg_ne (by omega)).trans hi
  have g2 : (c_bg I n [31]) k 2 = v := (c_bg_ne (by omega)).trans hv
  show am_E _ _ _ 6 [(0, .inr (.inr (.inl (some k)))), (1, .inl x), (2, .inr (.inr (.inl (some 99))))] [] (am_mm D (c_bg I n [31]) J ρ) _
  refine am_e_ss 3 (q := (9, [(0, .inr (.inr (.inl (some k)))), (1, .inl x), (2, .inr (.inr (.inl (some 99))))], [.inr (.inr (.inl (some 99))), .inl x, .inr (.inr (.inl (some k)))], (am_mm D (c_bg I n [31]) J ρ))) rfl ?_
  refine am_e_special (Q := fun r => ∃ Q255, r = (some (.inl ((sp_tk0 (K : Int) i v x).1)), (am_mm D (c_bg (c_bg I n [31]) (n + 1) (sp_tk0 (K : Int) i v x).2) J ρ)) ∧ True) rfl rfl (Nat.le_of_ble_eq_true rfl) (am_kd_of hsk (am_kc_lt _ hK)) rfl (by decide) (Nat.le_of_ble_eq_true rfl) (Nat.le_of_ble_eq_true rfl) ((m_t4 _ (K := K) (n := n + 1) hK hsk hk124 g1 g2 hn1 (by omega)).imp (fun q h => ⟨I, h, True.intro⟩)) ?_
  rintro r ⟨Q255, rfl, -⟩
  show am_E _ _ _ 12 [(0, .inr (.inr (.inl (some k)))), (1, .inl x), (2, .inr (.inr (.inl (some 99))))] [.inl ((sp_tk0 (K : Int) i v x).1)] (am_mm D (c_bg (c_bg I n [31]) (n + 1) (sp_tk0 (K : Int) i v x).2) J ρ) _
  refine am_e_ss 2 (q := (15, [(0, .inr (.inr (.inl (some k)))), (1, .inl x), (2, .inr (.inr (.inl (some 99))))], [.inl ((Int32.ofInt (sp_tk0 (K : Int) i v x).1 ^^^ Int32.ofInt 7).toInt)], (am_mm D (c_bg (c_bg I n [31]) (n + 1) (sp_tk0 (K : Int) i v x).2) J ρ))) rfl ?_
  refine am_e_ireturn rfl rfl ?_
  rw [c_bg_1]
theorem m_t2 {X : Nat × (Nat → Int)} {D : List (Nat × Nat)} {I J : Nat → Nat → Int} {ρ : Nat → Nat → Option Nat} (d : Nat) {k : Nat} (hsk : (am_S ++ D)[k]? = some (2, 3)) (hk124 : 124 ≤ k) {i : Int} (hi : I k 1 = i) {v : Int} (hv : I k 2 = v) {n : Nat} (hn : I 99 0 = (n : Int)) (hn2 : n < 12) {x : Int} : am_E X (d + 6) 23 0 [(0, .inr (.inr (.inl (some k)))), (1, .inl x), (2, .inr (.inr (.inl (some 99))))] [] (am_mm D I J ρ) (fun r => r = (some (.inl ((sp_tk0 ((4 : Nat) : Int) i v (x - 1)).1 + (2 * 3 + i))), am_mm D (c_bg I n (41 :: ((sp_tk0 ((4 : Nat) : Int) i v (x - 1)).2 ++ [11, 1]))) J ρ)) := by
  refine am_e_ss 2 (q := (3, [(0, .inr (.inr (.inl (some k)))), (1, .inl x), (2, .inr (.inr (.inl (some 99))))], [.inr (.inr (.inl (some 99))), .inl 41], (am_mm D I J ρ))) rfl ?_
  refine am_e_static (Q := fun r => ∃ Q256, r = (none, (am_mm D (c_bg I n [41]) J ρ)) ∧ True) rfl (Nat.le_of_ble_eq_true rfl) rfl (Nat.le_of_ble_eq_true rfl) (Nat.le_of_ble_eq_true rfl) ((m_begin _ (n := n) hn (by omega)).imp (fun q h => ⟨I, h, True.intro⟩)) ?_
  rintro r ⟨Q256, rfl, -⟩
  have hn1 : (c_bg I n [41]) 99 0 = ((n + 1 : Nat) : Int) := rfl
  have g1 : (c_bg I n [41]) k 1 = i := (c_bg_ne (by omega)).trans hi
  have g2 : (c_bg I n [41]) k 2 = v := (c_bg_ne (by omega)).trans hv
  show am_E _ _ _ 6 [(0, .inr (.inr (.inl (some k)))), (1, .inl x), (2, .inr (.inr (.inl (some 99))))] [] (am_mm D (c_bg I n [41]) J ρ) _
  refine am_e_ss 5 (q := (11, [(0, .inr (.inr (.inl (some k)))), (1, .inl x), (2, .inr (.inr (.inl (some 99))))], [.inr (.inr (.inl (some 99))), .inl (x - 1), .inr (.inr (.inl (some k)))], (am_mm D (c_bg I n [41]) J ρ))) rfl ?_
  refine am_e_special (Q := fun r => ∃ Q257, r = (some (.inl ((sp_tk0 ((4 : Nat) : Int) i v (x - 1)).1)), (am_mm D (c_bg (c_bg I n [41]) (n + 1) (sp_tk0 ((4 : Nat) : Int) i v (x - 1)).2) J ρ)) ∧ True) rfl rfl (Nat.le_of_ble_eq_true rfl) (am_kd_of hsk (by decide)) rfl (by decide) (Nat.le_of_ble_eq_true rfl) (Nat.le_of_ble_eq_true rfl) ((m_t4 _ (K := 4) (n := n + 1) (show 4 < 7 by omega) hsk hk124 g1 g2 hn1 (by omega)).imp (fun q h => ⟨I, h, True.intro⟩)) ?_
  rintro r ⟨Q257, rfl, -⟩
  have hl := sp_rd_len ((4 : Nat) : Int) i v (x - 1)
  have hl2 : (sp_tk0 ((4 : Nat) : Int) i v (x - 1)).2.length ≤ 5 := by show (_ :: _ : List Int).length ≤ 5; rw [List.length_cons]; omega
  have hn3 : (c_bg (c_bg I n [41]) (n + 1) (sp_tk0 ((4 : Nat) : Int) i v (x - 1)).2) 99 0 = ((n + 1 + (sp_tk0 ((4 : Nat) : Int) i v (x - 1)).2.length : Nat) : Int) := rfl
  have g3 : (c_bg (c_bg I n [41]) (n + 1) (sp_tk0 ((4 : Nat) : Int) i v (x - 1)).2) k 1 = i := (c_bg_ne (by omega)).trans g1
  show am_E _ _ _ 14 [(0, .inr (.inr (.inl (some k)))), (1, .inl x), (2, .inr (.inr (.inl (some 99))))] [.inl ((sp_tk0 ((4 : Nat) : Int) i v (x - 1)).1)] (am_mm D (c_bg (c_bg I n [41]) (n + 1) (sp_tk0 ((4 : Nat) : Int) i v (x - 1)).2) J ρ) _
  refine am_e_ss 3 (q := (17, [(0, .inr (.inr (.inl (some k)))), (1, .inl x), (2, .inr (.inr (.inl (some 99))))], [.inr (.inr (.inl (some 99))), .inl 2, .inr (.inr (.inl (some k))), .inl ((sp_tk0 ((4 : Nat) : Int) i v (x - 1)).1)], (am_mm D (c_bg (c_bg I n [41]) (n + 1) (sp_tk0 ((4 : Nat) : Int) i v (x - 1)).2) J ρ))) rfl ?_
  refine am_e_virtual (Q := fun r => r = (some (.inl ((2 * 3 + i))), (am_mm D (c_bg (c_bg (c_bg I n [41]) (n + 1) (sp_tk0 ((4 : Nat) : Int) i v (x - 1)).2) (n + 1 + (sp_tk0 ((4 : Nat) : Int) i v (x - 1)).2.length) [11, 1]) J ρ))) rfl rfl (Nat.le_of_ble_eq_true rfl) (am_kd_of hsk (by decide)) rfl (Nat.le_of_ble_eq_true rfl) (Nat.le_of_ble_eq_true rfl) (m_w5 _ (K := 4) (n := n + 1 + (sp_tk0 ((4 : Nat) : Int) i v (x - 1)).2.length) (show 4 < 7 by omega) hsk hk124 g3 hn3 (by omega)) ?_
  rintro r rfl
  show am_E _ _ _ 20 [(0, .inr (.inr (.inl (some k)))), (1, .inl x), (2, .inr (.inr (.inl (some 99))))] [.inl ((2 * 3 + i)), .inl ((sp_tk0 ((4 : Nat) : Int) i v (x - 1)).1)] (am_mm D (c_bg (c_bg (c_bg I n [41]) (n + 1) (sp_tk0 ((4 : Nat) : Int) i v (x - 1)).2) (n + 1 + (sp_tk0 ((4 : Nat) : Int) i v (x - 1)).2.length) [11, 1]) J ρ) _
  refine am_e_ss 1 (q := (21, [(0, .inr (.inr (.inl (some k)))), (1, .inl x), (2, .inr (.inr (.inl (some 99))))], [.inl ((sp_tk0 ((4 : Nat) : Int) i v (x - 1)).1 + (2 * 3 + i))], (am_mm D (c_bg (c_bg (c_bg I n [41]) (n + 1) (sp_tk0 ((4 : Nat) : Int) i v (x - 1)).2) (n + 1 + (sp_tk0 ((4 : Nat) : Int) i v (x - 1)).2.length) [11, 1]) J ρ))) rfl ?_
  refine am_e_ireturn rfl rfl ?_
  rw [c_bg_2]
theorem m_talk {X : Nat × (Nat → Int)} {D : List (Nat × Nat)} {I J : Nat → Nat → Int} {ρ : Nat → Nat → Option Nat} (d : Nat) {k K : Nat} (hK : K < 7) (hsk : (am_S ++ D)[k]? = some (am_kc K, 3)) (hk124 : 124 ≤ k) {i : Int} (hi : I k 1 = i) {v : Int} (hv : I k 2 = v) {n : Nat} (hn : I 99 0 = (n : Int)) (hn2 : n < 12) {x : Int} : am_E X (d + 6) (am_tg [40, 40, 40, 60, 23, 40, 60] K) 0 [(0, .inr (.inr (.inl (some k)))), (1, .inl x), (2, .inr (.inr (.inl (some 99))))] [] (am_mm D I J ρ) (fun r => r = (some (.inl (sp_tk (K : Int) i v x).1), am_mm D (c_bg I n (sp_tk (K : Int) i v x).2) J ρ)) := by
  rcases (show K = 0 ∨ K = 1 ∨ K = 2 ∨ K = 3 ∨ K = 4 ∨ K = 5 ∨ K = 6 by omega) with rfl | rfl | rfl | rfl | rfl | rfl | rfl
  · exact m_t4 (d + 1) hK hsk hk124 hi hv hn (by omega)
  · exact m_t4 (d + 1) hK hsk hk124 hi hv hn (by omega)
  · exact m_t4 (d + 1) hK hsk hk124 hi hv hn (by omega)
  · exact m_t8 d hK hsk hk124 hi hv hn (by omega)
  · exact m_t2 d hsk hk124 hi hv hn hn2
  · exact m_t4 (d + 1) hK hsk hk124 hi hv hn (by omega)
  · exact m_t8 d hK hsk hk124 hi hv hn (by omega)
theorem m_kind0 {X : Nat × (Nat → Int)} {D : List (Nat × Nat)} {I J : Nat → Nat → Int} {ρ : Nat → Nat → Option Nat} (d : Nat) {k : Nat} (hsk : (am_S ++ D)[k]? = some (4, 3)) (hk124 : 124 ≤ k) {q : Int} (hq : 0 ≤ q ∧ q ≤ 6) (hk0 : I k 0 = 0) : am_E X d 33 0 [(0, .inr (.inr (.inl (some k)))), (1, .inl q)] [] (am_mm D I J ρ) (fun r => r = (some (.inl ((am_bi (q = 0 ∨ q = 0 ∨ (0 < q ∧ q < 4 ∧ (0 : Int) = q + 3))))), (am_mm D I J ρ))) := by
  refine am_e_ss 1 (q := (1, [(0, .inr (.inr (.inl (some k)))), (1, .inl q)], [.inl q], (am_mm D I J ρ))) rfl ?_
  rcases (show q < 0 ∨ q = 0 ∨ q = 1 ∨ q = 2 ∨ q = 3 ∨ 3 < q by omega) with hw1 | hw1 | hw1 | hw1 | hw1 | hw1
  · refine am_e_tabOut (t := 49) rfl ⟨by omega, by omega⟩ (by omega) rfl ?_
    refine am_e_ss 1 (q := (50, [(0, .inr (.inr (.inl (some k)))), (1, .inl q)], [.inr (.inr (.inl (some k)))], (am_mm D I J ρ))) rfl ?_
    refine am_e_getfield (c := 4) (m := 3) (f := 0) rfl hsk rfl (by decide) (by decide) ?_
    show am_E _ _ _ 53 [(0, .inr (.inr (.inl (some k)))), (1, .inl q)] [.inl ((I k 0))] (am_mm D I J ρ) _
    refine am_e_ss 1 (q := (54, [(0, .inr (.inr (.inl (some k)))), (1, .inl q)], [.inl q, .inl ((I k 0))], (am_mm D I J ρ))) rfl ?_
    refine am_e_icmp2 rfl ⟨by omega, by omega⟩ ⟨by omega, by omega⟩ (fun (hw2 : ¬ (I k 0) = q) => ?_) (fun (hw2 : ¬ (¬ (I k 0) = q)) => ?_)
    · show am_E _ _ _ 61 [(0, .inr (.inr (.inl (some k)))), (1, .inl q)] [] (am_mm D I J ρ) _
      refine am_e_ss 1 (q := (62, [(0, .inr (.inr (.inl (some k)))), (1, .inl q)], [.inl 0], (am_mm D I J ρ))) rfl ?_
      refine am_e_ireturn rfl rfl ?_
      rw [am_bi_f (by omega)]
    · show am_E _ _ _ 57 [(0, .inr (.inr (.inl (some k)))), (1, .inl q)] [] (am_mm D I J ρ) _
      refine am_e_ss 2 (q := (62, [(0, .inr (.inr (.inl (some k)))), (1, .inl q)], [.inl 1], (am_mm D I J ρ))) rfl ?_
      refine am_e_ireturn rfl rfl ?_
      rw [am_bi_t (by omega)]
  · refine am_e_tabIn (t := 32) (off := 31) rfl ⟨by omega, by omega⟩ (by omega) (by rw [hw1]; rfl) rfl ?_
    refine am_e_ss 1 (q := (33, [(0, .inr (.inr (.inl (some k)))), (1, .inl q)], [.inl 1], (am_mm D I J ρ))) rfl ?_
    refine am_e_ireturn rfl rfl ?_
    rw [am_bi_t (by omega)]
  · refine am_e_tabIn (t := 34) (off := 33) rfl ⟨by omega, by omega⟩ (by omega) (by rw [hw1]; rfl) rfl ?_
    refine am_e_ss 1 (q := (35, [(0, .inr (.inr (.inl (some k)))), (1, .inl q)], [.inr (.inr (.inl (some k)))], (am_mm D I J ρ))) rfl ?_
    refine am_e_instanceof (b := false) rfl hsk rfl rfl ?_
    show am_E _ _ _ 38 [(0, .inr (.inr (.inl (some k)))), (1, .inl q)] [.inl 0] (am_mm D I J ρ) _
    refine am_e_ireturn rfl rfl ?_
    rw [am_bi_f (by omega)]
  · refine am_e_tabIn (t := 39) (off := 38) rfl ⟨by omega, by omega⟩ (by omega) (by rw [hw1]; rfl) rfl ?_
    refine am_e_ss 1 (q := (40, [(0, .inr (.inr (.inl (some k)))), (1, .inl q)], [.inr (.inr (.inl (some k)))], (am_mm D I J ρ))) rfl ?_
    refine am_e_instanceof (b := false) rfl hsk rfl rfl ?_
    show am_E _ _ _ 43 [(0, .inr (.inr (.inl (some k)))), (1, .inl q)] [.inl 0] (am_mm D I J ρ) _
    refine am_e_ireturn rfl rfl ?_
    rw [am_bi_f (by omega)]
  · refine am_e_tabIn (t := 44) (off := 43) rfl ⟨by omega, by omega⟩ (by omega) (by rw [hw1]; rfl) rfl ?_
    refine am_e_ss 1 (q := (45, [(0, .inr (.inr (.inl (some k)))), (1, .inl q)], [.inr (.inr (.inl (some k)))], (am_mm D I J ρ))) rfl ?_
    refine am_e_instanceof (b := false) rfl hsk rfl rfl ?_
    show am_E _ _ _ 48 [(0, .inr (.inr (.inl (some k)))), (1, .inl q)] [.inl 0] (am_mm D I J ρ) _
    refine am_e_ireturn rfl rfl ?_
    rw [am_bi_f (by omega)]
  · refine am_e_tabOut (t := 49) rfl ⟨by omega, by omega⟩ (by omega) rfl ?_
    refine am_e_ss 1 (q := (50, [(0, .inr (.inr (.inl (some k)))), (1, .inl q)], [.inr (.inr (.inl (some k)))], (am_mm D I J ρ))) rfl ?_
    refine am_e_getfield (c := 4) (m := 3) (f := 0) rfl hsk rfl (by decide) (by decide) ?_
    show am_E _ _ _ 53 [(0, .inr (.inr (.inl (some k)))), (1, .inl q)] [.inl ((I k 0))] (am_mm D I J ρ) _
    refine am_e_ss 1 (q := (54, [(0, .inr (.inr (.inl (some k)))), (1, .inl q)], [.inl q, .inl ((I k 0))], (am_mm D I J ρ))) rfl ?_
    refine am_e_icmp2 rfl ⟨by omega, by omega⟩ ⟨by omega, by omega⟩ (fun (hw3 : ¬ (I k 0) = q) => ?_) (fun (hw3 : ¬ (¬ (I k 0) = q)) => ?_)
    · show am_E _ _ _ 61 [(0, .inr (.inr (.inl (some k)))), (1, .inl q)] [] (am_mm D I J ρ) _
      refine am_e_ss 1 (q := (62, [(0, .inr (.inr (.inl (some k)))), (1, .inl q)], [.inl 0], (am_mm D I J ρ))) rfl ?_
      refine am_e_ireturn rfl rfl ?_
      rw [am_bi_f (by omega)]
    · show am_E _ _ _ 57 [(0, .inr (.inr (.inl (some k)))), (1, .inl q)] [] (am_mm D I J ρ) _
      refine am_e_ss 2 (q := (62, [(0, .inr (.inr (.inl (some k)))), (1, .inl q)], [.inl 1], (am_mm D I J ρ))) rfl ?_
      refine am_e_ireturn rfl rfl ?_
      rw [am_bi_t (by omega)]
theorem m_kind1 {X : Nat × (Nat → Int)} {D : List (Nat × Nat)} {I J : Nat → Nat → Int} {ρ : Nat → Nat → Option Nat} (d : Nat) {k : Nat} (hsk : (am_S ++ D)[k]? = some (5, 3)) (hk124 : 124 ≤ k) {q : Int} (hq : 0 ≤ q ∧ q ≤ 6) (hk0 : I k 0 = 1) : am_E X d 33 0 [(0, .inr (.inr (.inl (some k)))), (1, .inl q)] [] (am_mm D I J ρ) (fun r => r = (some (.inl ((am_bi (q = 0 ∨ q = 1 ∨ (0 < q ∧ q < 4 ∧ (1 : Int) = q + 3))))), (am_mm D I J ρ))) := by
  refine am_e_ss 1 (q := (1, [(0, .inr (.inr (.inl (some k)))), (1, .inl q)], [.inl q], (am_mm D I J ρ))) rfl ?_
  rcases (show q < 0 ∨ q = 0 ∨ q = 1 ∨ q = 2 ∨ q = 3 ∨ 3 < q by omega) with hw1 | hw1 | hw1 | hw1 | hw1 | hw1
  · refine am_e_tabOut (t := 49) rfl ⟨by omega, by omega⟩ (by omega) rfl ?_
    refine am_e_ss 1 (q := (50, [(0, .inr (.inr (.inl (some k)))), (1, .inl q)], [.inr (.inr (.inl (some k)))], (am_mm D I J ρ))) rfl ?_
    refine am_e_getfield (c := 5) (m := 3) (f := 0) rfl hsk rfl (by decide) (by decide) ?_
    show am_E _ _ _ 53 [(0, .inr (.inr (.inl (some k)))), (1, .inl q)] [.inl ((I k 0))] (am_mm D I J ρ) _
    refine am_e_ss 1 (q := (54, [(0, .inr (.inr (.inl (some k)))), (1, .inl q)], [.inl q, .inl ((I k 0))], (am_mm D I J ρ))) rfl ?_
    refine am_e_icmp2 rfl ⟨by omega, by omega⟩ ⟨by omega, by omega⟩ (fun (hw2 : ¬ (I k 0) = q) => ?_) (fun (hw2 : ¬ (¬ (I k 0) = q)) => ?_)
    · show am_E _ _ _ 61 [(0, .inr (.inr (.inl (some k)))), (1, .inl q)] [] (am_mm D I J ρ) _
      refine am_e_ss 1 (q := (62, [(0, .inr (.inr (.inl (some k)))), (1, .inl q)], [.inl 0], (am_mm D I J ρ))) rfl ?_
      refine am_e_ireturn rfl rfl ?_
      rw [am_bi_f (by omega)]
    · show am_E _ _ _ 57 [(0, .inr (.inr (.inl (some k)))), (1, .inl q)] [] (am_mm D I J ρ) _
      refine am_e_ss 2 (q := (62, [(0, .inr (.inr (.inl (some k)))), (1, .inl q)], [.inl 1], (am_mm D I J ρ))) rfl ?_
      refine am_e_ireturn rfl rfl ?_
      rw [am_bi_t (by omega)]
  · refine am_e_tabIn (t := 32) (off := 31) rfl ⟨by omega, by omega⟩ (by omega) (by rw [hw1]; rfl) rfl ?_
    refine am_e_ss 1 (q := (33, [(0, .inr (.inr (.inl (some k)))), (1, .inl q)], [.inl 1], (am_mm D I J ρ))) rfl ?_
    refine am_e_ireturn rfl rfl ?_
    rw [am_bi_t (by omega)]
  · refine am_e_tabIn (t := 34) (off := 33) rfl ⟨by omega, by omega⟩ (by omega) (by rw [hw1]; rfl) rfl ?_
    refine am_e_ss 1 (q := (35, [(0, .inr (.inr (.inl (some k)))), (1, .inl q)], [.inr (.inr (.inl (some k)))], (am_mm D I J ρ))) rfl ?_
    refine am_e_instanceof (b := true) rfl hsk rfl rfl ?_
    show am_E _ _ _ 38 [(0, .inr (.inr (.inl (some k)))), (1, .inl q)] [.inl 1] (am_mm D I J ρ) _
    refine am_e_ireturn rfl rfl ?_
    rw [am_bi_t (by omega)]
  · refine am_e_tabIn (t := 39) (off := 38) rfl ⟨by omega, by omega⟩ (by omega) (by rw [hw1]; rfl) rfl ?_
    refine am_e_ss 1 (q := (40, [(0, .inr (.inr (.inl (some k)))), (1, .inl q)], [.inr (.inr (.inl (some k)))], (am_mm D I J ρ))) rfl ?_
    refine am_e_instanceof (b := false) rfl hsk rfl rfl ?_
    show am_E _ _ _ 43 [(0, .inr (.inr (.inl (some k)))), (1, .inl q)] [.inl 0] (am_mm D I J ρ) _
    refine am_e_ireturn rfl rfl ?_
    rw [am_bi_f (by omega)]
  · refine am_e_tabIn (t := 44) (off := 43) rfl ⟨by omega, by omega⟩ (by omega) (by rw [hw1]; rfl) rfl ?_
    refine am_e_ss 1 (q := (45, [(0, .inr (.inr (.inl (some k)))), (1, .inl q)], [.inr (.inr (.inl (some k)))], (am_mm D I J ρ))) rfl ?_
    refine am_e_instanceof (b := false) rfl hsk rfl rfl ?_
    show am_E _ _ _ 48 [(0, .inr (.inr (.inl (some k)))), (1, .inl q)] [.inl 0] (am_mm D I J ρ) _
    refine am_e_ireturn rfl rfl ?_
    rw [am_bi_f (by omega)]
  · refine am_e_tabOut (t := 49) rfl ⟨by omega, by omega⟩ (by omega) rfl ?_
    refine am_e_ss 1 (q := (50, [(0, .inr (.inr (.inl (some k)))), (1, .inl q)], [.inr (.inr (.inl (some k)))], (am_mm D I J ρ))) rfl ?_
    refine am_e_getfield (c := 5) (m := 3) (f := 0) rfl hsk rfl (by decide) (by decide) ?_
    show am_E _ _ _ 53 [(0, .inr (.inr (.inl (some k)))), (1, .inl q)] [.inl ((I k 0))] (am_mm D I J ρ) _
    refine am_e_ss 1 (q := (54, [(0, .inr (.inr (.inl (some k)))), (1, .inl q)], [.inl q, .inl ((I k 0))], (am_mm D I J ρ))) rfl ?_
    refine am_e_icmp2 rfl ⟨by omega, by omega⟩ ⟨by omega, by omega⟩ (fun (hw3 : ¬ (I k 0) = q) => ?_) (fun (hw3 : ¬ (¬ (I k 0) = q)) => ?_)
    · show am_E _ _ _ 61 [(0, .inr (.inr (.inl (some k)))), (1, .inl q)] [] (am_mm D I J ρ) _
      refine am_e_ss 1 (q := (62, [(0, .inr (.inr (.inl (some k)))), (1, .inl q)], [.inl 0], (am_mm D I J ρ))) rfl ?_
      refine am_e_ireturn rfl rfl ?_
      rw [am_bi_f (by omega)]
    · show am_E _ _ _ 57 [(0, .inr (.inr (.inl (some k)))), (1, .inl q)] [] (am_mm D I J ρ) _
      refine am_e_ss 2 (q := (62, [(0, .inr (.inr (.inl (some k)))), (1, .inl q)], [.inl 1], (am_mm D I J ρ))) rfl ?_
      refine am_e_ireturn rfl rfl ?_
      rw [am_bi_t (by omega)]
theorem m_kind2 {X : Nat × (Nat → Int)} {D : List (Nat × Nat)} {I J : Nat → Nat → Int} {ρ : Nat → Nat → Option Nat} (d : Nat) {k : Nat} (hsk : (am_S ++ D)[k]? = some (6, 3)) (hk124 : 124 ≤ k) {q : Int} (hq : 0 ≤ q ∧ q ≤ 6) (hk0 : I k 0 = 2) : am_E X d 33 0 [(0, .inr (.inr (.inl (some k)))), (1, .inl q)] [] (am_mm D I J ρ) (fun r => r = (some (.inl ((am_bi (q = 0 ∨ q = 2 ∨ (0 < q ∧ q < 4 ∧ (2 : Int) = q + 3))))), (am_mm D I J ρ))) := by
  refine am_e_ss 1 (q := (1, [(0, .inr (.inr (.inl (some k)))), (1, .inl q)], [.inl q], (am_mm D I J ρ))) rfl ?_
  rcases (show q < 0 ∨ q = 0 ∨ q = 1 ∨ q = 2 ∨ q = 3 ∨ 3 < q by omega) with hw1 | hw1 | hw1 | hw1 | hw1 | hw1
  · refine am_e_tabOut (t := 49) rfl ⟨by omega, by omega⟩ (by omega) rfl ?_
    refine am_e_ss 1 (q := (50, [(0, .inr (.inr (.inl (some k)))), (1, .inl q)], [.inr (.inr (.inl (some k)))], (am_mm D I J ρ))) rfl ?_
    refine am_e_getfield (c := 6) (m := 3) (f := 0) rfl hsk rfl (by decide) (by decide) ?_
    show am_E _ _ _ 53 [(0, .inr (.inr (.inl (some k)))), (1, .inl q)] [.inl ((I k 0))] (am_mm D I J ρ) _
    refine am_e_ss 1 (q := (54, [(0, .inr (.inr (.inl (some k)))), (1, .inl q)], [.inl q, .inl ((I k 0))], (am_mm D I J ρ))) rfl ?_
    refine am_e_icmp2 rfl ⟨by omega, by omega⟩ ⟨by omega, by omega⟩ (fun (hw2 : ¬ (I k 0) = q) => ?_) (fun (hw2 : ¬ (¬ (I k 0) = q)) => ?_)
    · show am_E _ _ _ 61 [(0, .inr (.inr (.inl (some k)))), (1, .inl q)] [] (am_mm D I J ρ) _
      refine am_e_ss 1 (q := (62, [(0, .inr (.inr (.inl (some k)))), (1, .inl q)], [.inl 0], (am_mm D I J ρ))) rfl ?_
      refine am_e_ireturn rfl rfl ?_
      rw [am_bi_f (by omega)]
    · show am_E _ _ _ 57 [(0, .inr (.inr (.inl (some k)))), (1, .inl q)] [] (am_mm D I J ρ) _
      refine am_e_ss 2 (q := (62, [(0, .inr (.inr (.inl (some k)))), (1, .inl q)], [.inl 1], (am_mm D I J ρ))) rfl ?_
      refine am_e_ireturn rfl rfl ?_
      rw [am_bi_t (by omega)]
  · refine am_e_tabIn (t := 32) (off := 31) rfl ⟨by omega, by omega⟩ (by omega) (by rw [hw1]; rfl) rfl ?_
    refine am_e_ss 1 (q := (33, [(0, .inr (.inr (.inl (some k)))), (1, .inl q)], [.inl 1], (am_mm D I J ρ))) rfl ?_
    refine am_e_ireturn rfl rfl ?_
    rw [am_bi_t (by omega)]
  · refine am_e_tabIn (t := 34) (off := 33) rfl ⟨by omega, by omega⟩ (by omega) (by rw [hw1]; rfl) rfl ?_
    refine am_e_ss 1 (q := (35, [(0, .inr (.inr (.inl (some k)))), (1, .inl q)], [.inr (.inr (.inl (some k)))], (am_mm D I J ρ))) rfl ?_
    refine am_e_instanceof (b := false) rfl hsk rfl rfl ?_
    show am_E _ _ _ 38 [(0, .inr (.inr (.inl (some k)))), (1, .inl q)] [.inl 0] (am_mm D I J ρ) _
    refine am_e_ireturn rfl rfl ?_
    rw [am_bi_f (by omega)]
  · refine am_e_tabIn (t := 39) (off := 38) rfl ⟨by omega, by omega⟩ (by omega) (by rw [hw1]; rfl) rfl ?_
    refine am_e_ss 1 (q := (40, [(0, .inr (.inr (.inl (some k)))), (1, .inl q)], [.inr (.inr (.inl (some k)))], (am_mm D I J ρ))) rfl ?_
    refine am_e_instanceof (b := true) rfl hsk rfl rfl ?_
    show am_E _ _ _ 43 [(0, .inr (.inr (.inl (some k)))), (1, .inl q)] [.inl 1] (am_mm D I J ρ) _
    refine am_e_ireturn rfl rfl ?_
    rw [am_bi_t (by omega)]
  · refine am_e_tabIn (t := 44) (off := 43) rfl ⟨by omega, by omega⟩ (by omega) (by rw [hw1]; rfl) rfl ?_
    refine am_e_ss 1 (q := (45, [(0, .inr (.inr (.inl (some k)))), (1, .inl q)], [.inr (.inr (.inl (some k)))], (am_mm D I J ρ))) rfl ?_
    refine am_e_instanceof (b := false) rfl hsk rfl rfl ?_
    show am_E _ _ _ 48 [(0, .inr (.inr (.inl (some k)))), (1, .inl q)] [.inl 0] (am_mm D I J ρ) _
    refine am_e_ireturn rfl rfl ?_
    rw [am_bi_f (by omega)]
  · refine am_e_tabOut (t := 49) rfl ⟨by omega, by omega⟩ (by omega) rfl ?_
    refine am_e_ss 1 (q := (50, [(0, .inr (.inr (.inl (some k)))), (1, .inl q)], [.inr (.inr (.inl (some k)))], (am_mm D I J ρ))) rfl ?_
    refine am_e_getfield (c := 6) (m := 3) (f := 0) rfl hsk rfl (by decide) (by decide) ?_
    show am_E _ _ _ 53 [(0, .inr (.inr (.inl (some k)))), (1, .inl q)] [.inl ((I k 0))] (am_mm D I J ρ) _
    refine am_e_ss 1 (q := (54, [(0, .inr (.inr (.inl (some k)))), (1, .inl q)], [.inl q, .inl ((I k 0))], (am_mm D I J ρ))) rfl ?_
    refine am_e_icmp2 rfl ⟨by omega, by omega⟩ ⟨by omega, by omega⟩ (fun (hw3 : ¬ (I k 0) = q) => ?_) (fun (hw3 : ¬ (¬ (I k 0) = q)) => ?_)
    · show am_E _ _ _ 61 [(0, .inr (.inr (.inl (some k)))), (1, .inl q)] [] (am_mm D I J ρ) _
      refine am_e_ss 1 (q := (62, [(0, .inr (.inr (.inl (some k)))), (1, .inl q)], [.inl 0], (am_mm D I J ρ))) rfl ?_
      refine am_e_ireturn rfl rfl ?_
      rw [am_bi_f (by omega)]
    · show am_E _ _ _ 57 [(0, .inr (.inr (.inl (some k)))), (1, .inl q)] [] (am_mm D I J ρ) _
      refine am_e_ss 2 (q := (62, [(0, .inr (.inr (.inl (some k)))), (1, .inl q)], [.inl 1], (am_mm D I J ρ))) rfl ?_
      refine am_e_ireturn rfl rfl ?_
      rw [am_bi_t (by omega)]
theorem m_kind3 {X : Nat × (Nat → Int)} {D : List (Nat × Nat)} {I J : Nat → Nat → Int} {ρ : Nat → Nat → Option Nat} (d : Nat) {k : Nat} (hsk : (am_S ++ D)[k]? = some (8, 3)) (hk124 : 124 ≤ k) {q : Int} (hq : 0 ≤ q ∧ q ≤ 6) (hk0 : I k 0 = 3) : am_E X d 33 0 [(0, .inr (.inr (.inl (some k)))), (1, .inl q)] [] (am_mm D I J ρ) (fun r => r = (some (.inl ((am_bi (q = 0 ∨ q = 3 ∨ (0 < q ∧ q < 4 ∧ (3 : Int) = q + 3))))), (am_mm D I J ρ))) := by
  refine am_e_ss 1 (q := (1, [(0, .inr (.inr (.inl (some k)))), (1, .inl q)], [.inl q], (am_mm D I J ρ))) rfl ?_
  rcases (show q < 0 ∨ q = 0 ∨ q = 1 ∨ q = 2 ∨ q = 3 ∨ 3 < q by omega) with hw1 | hw1 | hw1 | hw1 | hw1 | hw1
  · refine am_e_tabOut (t := 49) rfl ⟨by omega, by omega⟩ (by omega) rfl ?_
    refine am_e_ss 1 (q := (50, [(0, .inr (.inr (.inl (some k)))), (1, .inl q)], [.inr (.inr (.inl (some k)))], (am_mm D I J ρ))) rfl ?_
    refine am_e_getfield (c := 8) (m := 3) (f := 0) rfl hsk rfl (by decide) (by decide) ?_
    show am_E _ _ _ 53 [(0, .inr (.inr (.inl (some k)))), (1, .inl q)] [.inl ((I k 0))] (am_mm D I J ρ) _
    refine am_e_ss 1 (q := (54, [(0, .inr (.inr (.inl (some k)))), (1, .inl q)], [.inl q, .inl ((I k 0))], (am_mm D I J ρ))) rfl ?_
    refine am_e_icmp2 rfl ⟨by omega, by omega⟩ ⟨by omega, by omega⟩ (fun (hw2 : ¬ (I k 0) = q) => ?_) (fun (hw2 : ¬ (¬ (I k 0) = q)) => ?_)
    · show am_E _ _ _ 61 [(0, .inr (.inr (.inl (some k)))), (1, .inl q)] [] (am_mm D I J ρ) _
      refine am_e_ss 1 (q := (62, [(0, .inr (.inr (.inl (some k)))), (1, .inl q)], [.inl 0], (am_mm D I J ρ))) rfl ?_
      refine am_e_ireturn rfl rfl ?_
      rw [am_bi_f (by omega)]
    · show am_E _ _ _ 57 [(0, .inr (.inr (.inl (some k)))), (1, .inl q)] [] (am_mm D I J ρ) _
      refine am_e_ss 2 (q := (62, [(0, .inr (.inr (.inl (some k)))), (1, .inl q)], [.inl 1], (am_mm D I J ρ))) rfl ?_
      refine am_e_ireturn rfl rfl ?_
      rw [am_bi_t (by omega)]
  · refine am_e_tabIn (t := 32) (off := 31) rfl ⟨by omega, by omega⟩ (by omega) (by rw [hw1]; rfl) rfl ?_
    refine am_e_ss 1 (q := (33, [(0, .inr (.inr (.inl (some k)))), (1, .inl q)], [.inl 1], (am_mm D I J ρ))) rfl ?_
    refine am_e_ireturn rfl rfl ?_
    rw [am_bi_t (by omega)]
  · refine am_e_tabIn (t := 34) (off := 33) rfl ⟨by omega, by omega⟩ (by omega) (by rw [hw1]; rfl) rfl ?_
    refine am_e_ss 1 (q := (35, [(0, .inr (.inr (.inl (some k)))), (1, .inl q)], [.inr (.inr (.inl (some k)))], (am_mm D I J ρ))) rfl ?_
    refine am_e_instanceof (b := false) rfl hsk rfl rfl ?_
    show am_E _ _ _ 38 [(0, .inr (.inr (.inl (some k)))), (1, .inl q)] [.inl 0] (am_mm D I J ρ) _
    refine am_e_ireturn rfl rfl ?_
    rw [am_bi_f (by omega)]
  · refine am_e_tabIn (t := 39) (off := 38) rfl ⟨by omega, by omega⟩ (by omega) (by rw [hw1]; rfl) rfl ?_
    refine am_e_ss 1 (q := (40, [(0, .inr (.inr (.inl (some k)))), (1, .inl q)], [.inr (.inr (.inl (some k)))], (am_mm D I J ρ))) rfl ?_
    refine am_e_instanceof (b := false) rfl hsk rfl rfl ?_
    show am_E _ _ _ 43 [(0, .inr (.inr (.inl (some k)))), (1, .inl q)] [.inl 0] (am_mm D I J ρ) _
    refine am_e_ireturn rfl rfl ?_
    rw [am_bi_f (by omega)]
  · refine am_e_tabIn (t := 44) (off := 43) rfl ⟨by omega, by omega⟩ (by omega) (by rw [hw1]; rfl) rfl ?_
    refine am_e_ss 1 (q := (45, [(0, .inr (.inr (.inl (some k)))), (1, .inl q)], [.inr (.inr (.inl (some k)))], (am_mm D I J ρ))) rfl ?_
    refine am_e_instanceof (b := true) rfl hsk rfl rfl ?_
    show am_E _ _ _ 48 [(0, .inr (.inr (.inl (some k)))), (1, .inl q)] [.inl 1] (am_mm D I J ρ) _
    refine am_e_ireturn rfl rfl ?_
    rw [am_bi_t (by omega)]
  · refine am_e_tabOut (t := 49) rfl ⟨by omega, by omega⟩ (by omega) rfl ?_
    refine am_e_ss 1 (q := (50, [(0, .inr (.inr (.inl (some k)))), (1, .inl q)], [.inr (.inr (.inl (some k)))], (am_mm D I J ρ))) rfl ?_
    refine am_e_getfield (c := 8) (m := 3) (f := 0) rfl hsk rfl (by decide) (by decide) ?_
    show am_E _ _ _ 53 [(0, .inr (.inr (.inl (some k)))), (1, .inl q)] [.inl ((I k 0))] (am_mm D I J ρ) _
    refine am_e_ss 1 (q := (54, [(0, .inr (.inr (.inl (some k)))), (1, .inl q)], [.inl q, .inl ((I k 0))], (am_mm D I J ρ))) rfl ?_
    refine am_e_icmp2 rfl ⟨by omega, by omega⟩ ⟨by omega, by omega⟩ (fun (hw3 : ¬ (I k 0) = q) => ?_) (fun (hw3 : ¬ (¬ (I k 0) = q)) => ?_)
    · show am_E _ _ _ 61 [(0, .inr (.inr (.inl (some k)))), (1, .inl q)] [] (am_mm D I J ρ) _
      refine am_e_ss 1 (q := (62, [(0, .inr (.inr (.inl (some k)))), (1, .inl q)], [.inl 0], (am_mm D I J ρ))) rfl ?_
      refine am_e_ireturn rfl rfl ?_
      rw [am_bi_f (by omega)]
    · show am_E _ _ _ 57 [(0, .inr (.inr (.inl (some k)))), (1, .inl q)] [] (am_mm D I J ρ) _
      refine am_e_ss 2 (q := (62, [(0, .inr (.inr (.inl (some k)))), (1, .inl q)], [.inl 1], (am_mm D I J ρ))) rfl ?_
      refine am_e_ireturn rfl rfl ?_
      rw [am_bi_t (by omega)]
theorem m_kind4 {X : Nat × (Nat → Int)} {D : List (Nat × Nat)} {I J : Nat → Nat → Int} {ρ : Nat → Nat → Option Nat} (d : Nat) {k : Nat} (hsk : (am_S ++ D)[k]? = some (2, 3)) (hk124 : 124 ≤ k) {q : Int} (hq : 0 ≤ q ∧ q ≤ 6) (hk0 : I k 0 = 4) : am_E X d 33 0 [(0, .inr (.inr (.inl (some k)))), (1, .inl q)] [] (am_mm D I J ρ) (fun r => r = (some (.inl ((am_bi (q = 0 ∨ q = 4 ∨ (0 < q ∧ q < 4 ∧ (4 : Int) = q + 3))))), (am_mm D I J ρ))) := by
  refine am_e_ss 1 (q := (1, [(0, .inr (.inr (.inl (some k)))), (1, .inl q)], [.inl q], (am_mm D I J ρ))) rfl ?_
  rcases (show q < 0 ∨ q = 0 ∨ q = 1 ∨ q = 2 ∨ q = 3 ∨ 3 < q by omega) with hw1 | hw1 | hw1 | hw1 | hw1 | hw1
  · refine am_e_tabOut (t := 49) rfl ⟨by omega, by omega⟩ (by omega) rfl ?_
    refine am_e_ss 1 (q := (50, [(0, .inr (.inr (.inl (some k)))), (1, .inl q)], [.inr (.inr (.inl (some k)))], (am_mm D I J ρ))) rfl ?_
    refine am_e_getfield (c := 2) (m := 3) (f := 0) rfl hsk rfl (by decide) (by decide) ?_
    show am_E _ _ _ 53 [(0, .inr (.inr (.inl (some k)))), (1, .inl q)] [.inl ((I k 0))] (am_mm D I J ρ) _
    refine am_e_ss 1 (q := (54, [(0, .inr (.inr (.inl (some k)))), (1, .inl q)], [.inl q, .inl ((I k 0))], (am_mm D I J ρ))) rfl ?_
    refine am_e_icmp2 rfl ⟨by omega, by omega⟩ ⟨by omega, by omega⟩ (fun (hw2 : ¬ (I k 0) = q) => ?_) (fun (hw2 : ¬ (¬ (I k 0) = q)) => ?_)
    · show am_E _ _ _ 61 [(0, .inr (.inr (.inl (some k)))), (1, .inl q)] [] (am_mm D I J ρ) _
      refine am_e_ss 1 (q := (62, [(0, .inr (.inr (.inl (some k)))), (1, .inl q)], [.inl 0], (am_mm D I J ρ))) rfl ?_
      refine am_e_ireturn rfl rfl ?_
      rw [am_bi_f (by omega)]
    · show am_E _ _ _ 57 [(0, .inr (.inr (.inl (some k)))), (1, .inl q)] [] (am_mm D I J ρ) _
      refine am_e_ss 2 (q := (62, [(0, .inr (.inr (.inl (some k)))), (1, .inl q)], [.inl 1], (am_mm D I J ρ))) rfl ?_
      refine am_e_ireturn rfl rfl ?_
      rw [am_bi_t (by omega)]
  · refine am_e_tabIn (t := 32) (off := 31) rfl ⟨by omega, by omega⟩ (by omega) (by rw [hw1]; rfl) rfl ?_
    refine am_e_ss 1 (q := (33, [(0, .inr (.inr (.inl (some k)))), (1, .inl q)], [.inl 1], (am_mm D I J ρ))) rfl ?_
    refine am_e_ireturn rfl rfl ?_
    rw [am_bi_t (by omega)]
  · refine am_e_tabIn (t := 34) (off := 33) rfl ⟨by omega, by omega⟩ (by omega) (by rw [hw1]; rfl) rfl ?_
    refine am_e_ss 1 (q := (35, [(0, .inr (.inr (.inl (some k)))), (1, .inl q)], [.inr (.inr (.inl (some k)))], (am_mm D I J ρ))) rfl ?_
    refine am_e_instanceof (b := true) rfl hsk rfl rfl ?_
    show am_E _ _ _ 38 [(0, .inr (.inr (.inl (some k)))), (1, .inl q)] [.inl 1] (am_mm D I J ρ) _
    refine am_e_ireturn rfl rfl ?_
    rw [am_bi_t (by omega)]
  · refine am_e_tabIn (t := 39) (off := 38) rfl ⟨by omega, by omega⟩ (by omega) (by rw [hw1]; rfl) rfl ?_
    refine am_e_ss 1 (q := (40, [(0, .inr (.inr (.inl (some k)))), (1, .inl q)], [.inr (.inr (.inl (some k)))], (am_mm D I J ρ))) rfl ?_
    refine am_e_instanceof (b := false) rfl hsk rfl rfl ?_
    show am_E _ _ _ 43 [(0, .inr (.inr (.inl (some k)))), (1, .inl q)] [.inl 0] (am_mm D I J ρ) _
    refine am_e_ireturn rfl rfl ?_
    rw [am_bi_f (by omega)]
  · refine am_e_tabIn (t := 44) (off := 43) rfl ⟨by omega, by omega⟩ (by omega) (by rw [hw1]; rfl) rfl ?_
    refine am_e_ss 1 (q := (45, [(0, .inr (.inr (.inl (some k)))), (1, .inl q)], [.inr (.inr (.inl (some k)))], (am_mm D I J ρ))) rfl ?_
    refine am_e_instanceof (b := false) rfl hsk rfl rfl ?_
    show am_E _ _ _ 48 [(0, .inr (.inr (.inl (some k)))), (1, .inl q)] [.inl 0] (am_mm D I J ρ) _
    refine am_e_ireturn rfl rfl ?_
    rw [am_bi_f (by omega)]
  · refine am_e_tabOut (t := 49) rfl ⟨by omega, by omega⟩ (by omega) rfl ?_
    refine am_e_ss 1 (q := (50, [(0, .inr (.inr (.inl (some k)))), (1, .inl q)], [.inr (.inr (.inl (some k)))], (am_mm D I J ρ))) rfl ?_
    refine am_e_getfield (c := 2) (m := 3) (f := 0) rfl hsk rfl (by decide) (by decide) ?_
    show am_E _ _ _ 53 [(0, .inr (.inr (.inl (some k)))), (1, .inl q)] [.inl ((I k 0))] (am_mm D I J ρ) _
    refine am_e_ss 1 (q := (54, [(0, .inr (.inr (.inl (some k)))), (1, .inl q)], [.inl q, .inl ((I k 0))], (am_mm D I J ρ))) rfl ?_
    refine am_e_icmp2 rfl ⟨by omega, by omega⟩ ⟨by omega, by omega⟩ (fun (hw3 : ¬ (I k 0) = q) => ?_) (fun (hw3 : ¬ (¬ (I k 0) = q)) => ?_)
    · show am_E _ _ _ 61 [(0, .inr (.inr (.inl (some k)))), (1, .inl q)] [] (am_mm D I J ρ) _
      refine am_e_ss 1 (q := (62, [(0, .inr (.inr (.inl (some k)))), (1, .inl q)], [.inl 0], (am_mm D I J ρ))) rfl ?_
      refine am_e_ireturn rfl rfl ?_
      rw [am_bi_f (by omega)]
    · show am_E _ _ _ 57 [(0, .inr (.inr (.inl (some k)))), (1, .inl q)] [] (am_mm D I J ρ) _
      refine am_e_ss 2 (q := (62, [(0, .inr (.inr (.inl (some k)))), (1, .inl q)], [.inl 1], (am_mm D I J ρ))) rfl ?_
      refine am_e_ireturn rfl rfl ?_
      rw [am_bi_t (by omega)]
theorem m_kind5 {X : Nat × (Nat → Int)} {D : List (Nat × Nat)} {I J : Nat → Nat → Int} {ρ : Nat → Nat → Option Nat} (d : Nat) {k : Nat} (hsk : (am_S ++ D)[k]? = some (9, 3)) (hk124 : 124 ≤ k) {q : Int} (hq : 0 ≤ q ∧ q ≤ 6) (hk0 : I k 0 = 5) : am_E X d 33 0 [(0, .inr (.inr (.inl (some k)))), (1, .inl q)] [] (am_mm D I J ρ) (fun r => r = (some (.inl ((am_bi (q = 0 ∨ q = 5 ∨ (0 < q ∧ q < 4 ∧ (5 : Int) = q + 3))))), (am_mm D I J ρ))) := by
  refine am_e_ss 1 (q := (1, [(0, .inr (.inr (.inl (some k)))), (1, .inl q)], [.inl q], (am_mm D I J ρ))) rfl ?_
  rcases (show q < 0 ∨ q = 0 ∨ q = 1 ∨ q = 2 ∨ q = 3 ∨ 3 < q by omega) with hw1 | hw1 | hw1 | hw1 | hw1 | hw1
  · refine am_e_tabOut (t := 49) rfl ⟨by omega, by omega⟩ (by omega) rfl ?_
    refine am_e_ss 1 (q := (50, [(0, .inr (.inr (.inl (some k)))), (1, .inl q)], [.inr (.inr (.inl (some k)))], (am_mm D I J ρ))) rfl ?_
    refine am_e_getfield (c := 9) (m := 3) (f := 0) rfl hsk rfl (by decide) (by decide) ?_
    show am_E _ _ _ 53 [(0, .inr (.inr (.inl (some k)))), (1, .inl q)] [.inl ((I k 0))] (am_mm D I J ρ) _
    refine am_e_ss 1 (q := (54, [(0, .inr (.inr (.inl (some k)))), (1, .inl q)], [.inl q, .inl ((I k 0))], (am_mm D I J ρ))) rfl ?_
    refine am_e_icmp2 rfl ⟨by omega, by omega⟩ ⟨by omega, by omega⟩ (fun (hw2 : ¬ (I k 0) = q) => ?_) (fun (hw2 : ¬ (¬ (I k 0) = q)) => ?_)
    · show am_E _ _ _ 61 [(0, .inr (.inr (.inl (some k)))), (1, .inl q)] [] (am_mm D I J ρ) _
      refine am_e_ss 1 (q := (62, [(0, .inr (.inr (.inl (some k)))), (1, .inl q)], [.inl 0], (am_mm D I J ρ))) rfl ?_
      refine am_e_ireturn rfl rfl ?_
      rw [am_bi_f (by omega)]
    · show am_E _ _ _ 57 [(0, .inr (.inr (.inl (some k)))), (1, .inl q)] [] (am_mm D I J ρ) _
      refine am_e_ss 2 (q := (62, [(0, .inr (.inr (.inl (some k)))), (1, .inl q)], [.inl 1], (am_mm D I J ρ))) rfl ?_
      refine am_e_ireturn rfl rfl ?_
      rw [am_bi_t (by omega)]
  · refine am_e_tabIn (t := 32) (off := 31) rfl ⟨by omega, by omega⟩ (by omega) (by rw [hw1]; rfl) rfl ?_
    refine am_e_ss 1 (q := (33, [(0, .inr (.inr (.inl (some k)))), (1, .inl q)], [.inl 1], (am_mm D I J ρ))) rfl ?_
    refine am_e_ireturn rfl rfl ?_
    rw [am_bi_t (by omega)]
  · refine am_e_tabIn (t := 34) (off := 33) rfl ⟨by omega, by omega⟩ (by omega) (by rw [hw1]; rfl) rfl ?_
    refine am_e_ss 1 (q := (35, [(0, .inr (.inr (.inl (some k)))), (1, .inl q)], [.inr (.inr (.inl (some k)))], (am_mm D I J ρ))) rfl ?_
    refine am_e_instanceof (b := false) rfl hsk rfl rfl ?_
    show am_E _ _ _ 38 [(0, .inr (.inr (.inl (some k)))), (1, .inl q)] [.inl 0] (am_mm D I J ρ) _
    refine am_e_ireturn rfl rfl ?_
    rw [am_bi_f (by omega)]
  · refine am_e_tabIn (t := 39) (off := 38) rfl ⟨by omega, by omega⟩ (by omega) (by rw [hw1]; rfl) rfl ?_
    refine am_e_ss 1 (q := (40, [(0, .inr (.inr (.inl (some k)))), (1, .inl q)], [.inr (.inr (.inl (some k)))], (am_mm D I J ρ))) rfl ?_
    refine am_e_instanceof (b := true) rfl hsk rfl rfl ?_
    show am_E _ _ _ 43 [(0, .inr (.inr (.inl (some k)))), (1, .inl q)] [.inl 1] (am_mm D I J ρ) _
    refine am_e_ireturn rfl rfl ?_
    rw [am_bi_t (by omega)]
  · refine am_e_tabIn (t := 44) (off := 43) rfl ⟨by omega, by omega⟩ (by omega) (by rw [hw1]; rfl) rfl ?_
    refine am_e_ss 1 (q := (45, [(0, .inr (.inr (.inl (some k)))), (1, .inl q)], [.inr (.inr (.inl (some k)))], (am_mm D I J ρ))) rfl ?_
    refine am_e_instanceof (b := false) rfl hsk rfl rfl ?_
    show am_E _ _ _ 48 [(0, .inr (.inr (.inl (some k)))), (1, .inl q)] [.inl 0] (am_mm D I J ρ) _
    refine am_e_ireturn rfl rfl ?_
    rw [am_bi_f (by omega)]
  · refine am_e_tabOut (t := 49) rfl ⟨by omega, by omega⟩ (by omega) rfl ?_
    refine am_e_ss 1 (q := (50, [(0, .inr (.inr (.inl (some k)))), (1, .inl q)], [.inr (.inr (.inl (some k)))], (am_mm D I J ρ))) rfl ?_
    refine am_e_getfield (c := 9) (m := 3) (f := 0) rfl hsk rfl (by decide) (by decide) ?_
    show am_E _ _ _ 53 [(0, .inr (.inr (.inl (some k)))), (1, .inl q)] [.inl ((I k 0))] (am_mm D I J ρ) _
    refine am_e_ss 1 (q := (54, [(0, .inr (.inr (.inl (some k)))), (1, .inl q)], [.inl q, .inl ((I k 0))], (am_mm D I J ρ))) rfl ?_
    refine am_e_icmp2 rfl ⟨by omega, by omega⟩ ⟨by omega, by omega⟩ (fun (hw3 : ¬ (I k 0) = q) => ?_) (fun (hw3 : ¬ (¬ (I k 0) = q)) => ?_)
    · show am_E _ _ _ 61 [(0, .inr (.inr (.inl (some k)))), (1, .inl q)] [] (am_mm D I J ρ) _
      refine am_e_ss 1 (q := (62, [(0, .inr (.inr (.inl (some k)))), (1, .inl q)], [.inl 0], (am_mm D I J ρ))) rfl ?_
      refine am_e_ireturn rfl rfl ?_
      rw [am_bi_f (by omega)]
    · show am_E _ _ _ 57 [(0, .inr (.inr (.inl (some k)))), (1, .inl q)] [] (am_mm D I J ρ) _
      refine am_e_ss 2 (q := (62, [(0, .inr (.inr (.inl (some k)))), (1, .inl q)], [.inl 1], (am_mm D I J ρ))) rfl ?_
      refine am_e_ireturn rfl rfl ?_
      rw [am_bi_t (by omega)]
theorem m_kind6 {X : Nat × (Nat → Int)} {D : List (Nat × Nat)} {I J : Nat → Nat → Int} {ρ : Nat → Nat → Option Nat} (d : Nat) {k : Nat} (hsk : (am_S ++ D)[k]? = some (0, 3)) (hk124 : 124 ≤ k) {q : Int} (hq : 0 ≤ q ∧ q ≤ 6) (hk0 : I k 0 = 6) : am_E X d 33 0 [(0, .inr (.inr (.inl (some k)))), (1, .inl q)] [] (am_mm D I J ρ) (fun r => r = (some (.inl ((am_bi (q = 0 ∨ q = 6 ∨ (0 < q ∧ q < 4 ∧ (6 : Int) = q + 3))))), (am_mm D I J ρ))) := by
  refine am_e_ss 1 (q := (1, [(0, .inr (.inr (.inl (some k)))), (1, .inl q)], [.inl q], (am_mm D I J ρ))) rfl ?_
  rcases (show q < 0 ∨ q = 0 ∨ q = 1 ∨ q = 2 ∨ q = 3 ∨ 3 < q by omega) with hw1 | hw1 | hw1 | hw1 | hw1 | hw1
  · refine am_e_tabOut (t := 49) rfl ⟨by omega, by omega⟩ (by omega) rfl ?_
    refine am_e_ss 1 (q := (50, [(0, .inr (.inr (.inl (some k)))), (1, .inl q)], [.inr (.inr (.inl (some k)))], (am_mm D I J ρ))) rfl ?_
    refine am_e_getfield (c := 0) (m := 3) (f := 0) rfl hsk rfl (by decide) (by decide) ?_
    show am_E _ _ _ 53 [(0, .inr (.inr (.inl (some k)))), (1, .inl q)] [.inl ((I k 0))] (am_mm D I J ρ) _
    refine am_e_ss 1 (q := (54, [(0, .inr (.inr (.inl (some k)))), (1, .inl q)], [.inl q, .inl ((I k 0))], (am_mm D I J ρ))) rfl ?_
    refine am_e_icmp2 rfl ⟨by omega, by omega⟩ ⟨by omega, by omega⟩ (fun (hw2 : ¬ (I k 0) = q) => ?_) (fun (hw2 : ¬ (¬ (I k 0) = q)) => ?_)
    · show am_E _ _ _ 61 [(0, .inr (.inr (.inl (some k)))), (1, .inl q)] [] (am_mm D I J ρ) _
      refine am_e_ss 1 (q := (62, [(0, .inr (.inr (.inl (some k)))), (1, .inl q)], [.inl 0], (am_mm D I J ρ))) rfl ?_
      refine am_e_ireturn rfl rfl ?_
      rw [am_bi_f (by omega)]
    · show am_E _ _ _ 57 [(0, .inr (.inr (.inl (some k)))), (1, .inl q)] [] (am_mm D I J ρ) _
      refine am_e_ss 2 (q := (62, [(0, .inr (.inr (.inl (some k)))), (1, .inl q)], [.inl 1], (am_mm D I J ρ))) rfl ?_
      refine am_e_ireturn rfl rfl ?_
      rw [am_bi_t (by omega)]
  · refine am_e_tabIn (t := 32) (off := 31) rfl ⟨by omega, by omega⟩ (by omega) (by rw [hw1]; rfl) rfl ?_
    refine am_e_ss 1 (q := (33, [(0, .inr (.inr (.inl (some k)))), (1, .inl q)], [.inl 1], (am_mm D I J ρ))) rfl ?_
    refine am_e_ireturn rfl rfl ?_
    rw [am_bi_t (by omega)]
  · refine am_e_tabIn (t := 34) (off := 33) rfl ⟨by omega, by omega⟩ (by omega) (by rw [hw1]; rfl) rfl ?_
    refine am_e_ss 1 (q := (35, [(0, .inr (.inr (.inl (some k)))), (1, .inl q)], [.inr (.inr (.inl (some k)))], (am_mm D I J ρ))) rfl ?_
    refine am_e_instanceof (b := false) rfl hsk rfl rfl ?_
    show am_E _ _ _ 38 [(0, .inr (.inr (.inl (some k)))), (1, .inl q)] [.inl 0] (am_mm D I J ρ) _
    refine am_e_ireturn rfl rfl ?_
    rw [am_bi_f (by omega)]
  · refine am_e_tabIn (t := 39) (off := 38) rfl ⟨by omega, by omega⟩ (by omega) (by rw [hw1]; rfl) rfl ?_
    refine am_e_ss 1 (q := (40, [(0, .inr (.inr (.inl (some k)))), (1, .inl q)], [.inr (.inr (.inl (some k)))], (am_mm D I J ρ))) rfl ?_
    refine am_e_instanceof (b := false) rfl hsk rfl rfl ?_
    show am_E _ _ _ 43 [(0, .inr (.inr (.inl (some k)))), (1, .inl q)] [.inl 0] (am_mm D I J ρ) _
    refine am_e_ireturn rfl rfl ?_
    rw [am_bi_f (by omega)]
  · refine am_e_tabIn (t := 44) (off := 43) rfl ⟨by omega, by omega⟩ (by omega) (by rw [hw1]; rfl) rfl ?_
    refine am_e_ss 1 (q := (45, [(0, .inr (.inr (.inl (some k)))), (1, .inl q)], [.inr (.inr (.inl (some k)))], (am_mm D I J ρ))) rfl ?_
    refine am_e_instanceof (b := true) rfl hsk rfl rfl ?_
    show am_E _ _ _ 48 [(0, .inr (.inr (.inl (some k)))), (1, .inl q)] [.inl 1] (am_mm D I J ρ) _
    refine am_e_ireturn rfl rfl ?_
    rw [am_bi_t (by omega)]
  · refine am_e_tabOut (t := 49) rfl ⟨by omega, by omega⟩ (by omega) rfl ?_
    refine am_e_ss 1 (q := (50, [(0, .inr (.inr (.inl (some k)))), (1, .inl q)], [.inr (.inr (.inl (some k)))], (am_mm D I J ρ))) rfl ?_
    refine am_e_getfield (c := 0) (m := 3) (f := 0) rfl hsk rfl (by decide) (by decide) ?_
    show am_E _ _ _ 53 [(0, .inr (.inr (.inl (some k)))), (1, .inl q)] [.inl ((I k 0))] (am_mm D I J ρ) _
    refine am_e_ss 1 (q := (54, [(0, .inr (.inr (.inl (some k)))), (1, .inl q)], [.inl q, .inl ((I k 0))], (am_mm D I J ρ))) rfl ?_
    refine am_e_icmp2 rfl ⟨by omega, by omega⟩ ⟨by omega, by omega⟩ (fun (hw3 : ¬ (I k 0) = q) => ?_) (fun (hw3 : ¬ (¬ (I k 0) = q)) => ?_)
    · show am_E _ _ _ 61 [(0, .inr (.inr (.inl (some k)))), (1, .inl q)] [] (am_mm D I J ρ) _
      refine am_e_ss 1 (q := (62, [(0, .inr (.inr (.inl (some k)))), (1, .inl q)], [.inl 0], (am_mm D I J ρ))) rfl ?_
      refine am_e_ireturn rfl rfl ?_
      rw [am_bi_f (by omega)]
    · show am_E _ _ _ 57 [(0, .inr (.inr (.inl (some k)))), (1, .inl q)] [] (am_mm D I J ρ) _
      refine am_e_ss 2 (q := (62, [(0, .inr (.inr (.inl (some k)))), (1, .inl q)], [.inl 1], (am_mm D I J ρ))) rfl ?_
      refine am_e_ireturn rfl rfl ?_
      rw [am_bi_t (by omega)]
theorem m_kind {X : Nat × (Nat → Int)} {D : List (Nat × Nat)} {I J : Nat → Nat → Int} {ρ : Nat → Nat → Option Nat} (d : Nat) {k K : Nat} (hK : K < 7) (hsk : (am_S ++ D)[k]? = some (am_kc K, 3)) (hk124 : 124 ≤ k) {q : Int} (hq : 0 ≤ q ∧ q ≤ 6) (hk0 : I k 0 = (K : Int)) : am_E X d (am_tg [33, 33, 33, 33, 33, 33, 33] K) 0 [(0, .inr (.inr (.inl (some k)))), (1, .inl q)] [] (am_mm D I J ρ) (fun r => r = (some (.inl (am_bi (q = 0 ∨ q = (K : Int) ∨ (0 < q ∧ q < 4 ∧ (K : Int) = q + 3)))), am_mm D I J ρ)) := by
  rcases (show K = 0 ∨ K = 1 ∨ K = 2 ∨ K = 3 ∨ K = 4 ∨ K = 5 ∨ K = 6 by omega) with rfl | rfl | rfl | rfl | rfl | rfl | rfl
  · exact m_kind0 d hsk hk124 hq hk0
  · exact m_kind1 d hsk hk124 hq hk0
  · exact m_kind2 d hsk hk124 hq hk0
  · exact m_kind3 d hsk hk124 hq hk0
  · exact m_kind4 d hsk hk124 hq hk0
  · exact m_kind5 d hsk hk124 hq hk0
  · exact m_kind6 d hsk hk124 hq hk0
