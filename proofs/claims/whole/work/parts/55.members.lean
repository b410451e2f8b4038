/-! THE CLASS: members -/
def am_kc (K : Nat) : Nat := [4, 5, 6, 8, 2, 9, 0].getD K 4
def am_tg (l : List Nat) (K : Nat) : Nat := l.getD K 0
theorem am_kd_of {M : am_M} {k c m : Nat} (h : M.1[k]? = some (c, m)) (hc : c < 13) : am_kd M (.inr (.inr (.inl (some k)))) = some c := by
  unfold am_kd
  dsimp only
  rw [h]
  exact if_pos hc
theorem am_kc_lt : ∀ K, K < 7 → am_kc K < 13 := by decide
section
variable {X : Nat × (Nat → Int)} {d mid pc n x : Nat} {lv : List (Nat × am_V)} {st : List am_V} {M : am_M} {P : am_R → Prop}
theorem am_e_vm {v k K N : Nat} {rest : List am_V} {Q : am_R → Prop} {tg : Nat → Nat} (hi : am_ins mid pc = some (.invokevirtual v, n, x)) (hd : st.drop (am_N x) = .inr (.inr (.inl (some k))) :: rest) (hl : am_N x ≤ st.length) (hs : M.1[k]? = some (am_kc K, 3)) (hK : K < 7) (hT : ∀ K, K < 7 → am_T x (am_kc K) = some (tg K)) (hr : am_cats rest ≤ 8) (hn : am_cats (.inr (.inr (.inl (some k))) :: (st.take (am_N x)).reverse) ≤ N) (ha : ∀ K, K < 7 → N ≤ am_l (tg K))
    (h1 : am_E X d (tg K) 0 (am_args 0 (.inr (.inr (.inl (some k))) :: (st.take (am_N x)).reverse)) [] M Q) (h2 : ∀ r, Q r → am_E X (d + 1) mid (pc + n) lv (r.1.toList ++ rest) r.2 P) : am_E X (d + 1) mid pc lv st M P :=
  am_e_virtual hi hd hl (am_kd_of hs (am_kc_lt K hK)) (hT K hK) hr (Nat.le_trans hn (ha K hK)) h1 h2
end
theorem am_rowl_cpg {I : Nat → Nat → Int} {dst src n : Nat} {L : List Nat} (h : am_rowl (I src) 0 L) (hl : L.length ≤ n) : am_rowl (am_cpg I dst 0 src 0 n dst) 0 L := by
  intro k b hk
  have hk2 := am_get_lt hk
  have := h k b hk
  rw [← this]
  unfold am_cpg
  rw [if_pos ⟨rfl, by omega, by omega⟩]
  congr 1
  omega
/-- the members as cells -/
def c_mems (D : List (Nat × Nat)) (I : Nat → Nat → Int) (ρ : Nat → Nat → Option Nat) (a : Nat) (S : Nat → Int) : Prop := ∀ m, m < (S 19).toNat → ∃ k, ρ a m = some k ∧ 124 ≤ k ∧ (am_S ++ D)[k]? = some (am_kc (S (26 + m)).toNat, 3) ∧ I k 0 = S (26 + m) ∧ I k 1 = (m : Int) ∧ I k 2 = S (32 + m)
def tlo : Nat → Nat → Bool := fun c _ => Nat.ble c 123
theorem tlo_hi {c i : Nat} (h : 124 ≤ c) : tlo c i = false := by
  unfold tlo
  cases e : Nat.ble c 123 with
  | false => rfl
  | true => exact absurd (Nat.le_of_ble_eq_true e) (by omega)
theorem c_mems_cg {D : List (Nat × Nat)} {I K : Nat → Nat → Int} {ρ : Nat → Nat → Option Nat} {a : Nat} {S : Nat → Int} (h : c_mems D I ρ a S) (hk : ∀ c i, tlo c i = false → K c i = I c i) : c_mems D K ρ a S := by
  intro m hm
  obtain ⟨k, h1, h2, h3, h4, h5, h6⟩ := h m hm
  exact ⟨k, h1, h2, h3, (hk k 0 (tlo_hi h2)).trans h4, (hk k 1 (tlo_hi h2)).trans h5, (hk k 2 (tlo_hi h2)).trans h6⟩
theorem c_mems_al {D : List (Nat × Nat)} {I : Nat → Nat → Int} {ρ : Nat → Nat → Option Nat} {a : Nat} {S S' : Nat → Int} (h : c_mems D I ρ a S) (hal : sp_al S S') : c_mems D I ρ a S' := by
  intro m hm
  obtain ⟨k, h1, h2, h3, h4, h5, h6⟩ := h m (by rw [hal 19 (by omega)]; exact hm)
  exact ⟨k, h1, h2, by rw [← hal (26 + m) (by omega)]; exact h3, by rw [← hal (26 + m) (by omega)]; exact h4, h5, by rw [← hal (32 + m) (by omega)]; exact h6⟩
theorem m_away6 {X : Nat × (Nat → Int)} {D : List (Nat × Nat)} {I J : Nat → Nat → Int} {ρ : Nat → Nat → Option Nat} (d : Nat) {k : Nat} (hsk : (am_S ++ D)[k]? = some (0, 3)) {mo v : Int} (hv : I k 2 = v) (hv9 : 0 ≤ v ∧ v ≤ 9) (hmo : 0 ≤ mo ∧ mo ≤ 200) : am_E X d 3 0 [(0, .inr (.inr (.inl (some k)))), (1, .inl mo)] [] (am_mm D I J ρ) (fun r => r = (some (.inl ((am_bi (mo % (v + 2) = 0)))), (am_mm D I J ρ))) := by
  have em : 0 ≤ mo % (I k 2 + 2) ∧ mo % (I k 2 + 2) < 12 := ⟨Int.emod_nonneg _ (by omega), by have := Int.emod_lt_of_pos mo (show 0 < I k 2 + 2 by omega); omega⟩
  refine am_e_ss 1 (q := (1, [(0, .inr (.inr (.inl (some k)))), (1, .inl mo)], [.inr (.inr (.inl (some k)))], (am_mm D I J ρ))) rfl ?_
  refine am_e_getfield (c := 0) (m := 3) (f := 2) rfl hsk rfl (by decide) (by decide) ?_
  show am_E _ _ _ 4 [(0, .inr (.inr (.inl (some k)))), (1, .inl mo)] [.inl ((I k 2))] (am_mm D I J ρ) _
  refine am_e_ss 4 (q := (8, [(2, .inl ((I k 2) + 2)), (0, .inr (.inr (.inl (some k)))), (1, .inl mo)], [.inl ((I k 2) + 2)], (am_mm D I J ρ))) rfl ?_
  refine am_e_if2 rfl ⟨by omega, by omega⟩ (fun (hw1 : ((I k 2) + 2) ≤ 0) => ?_) (fun (hw1 : ¬ (((I k 2) + 2) ≤ 0)) => ?_)
  · show am_E _ _ _ 21 [(2, .inl ((I k 2) + 2)), (0, .inr (.inr (.inl (some k)))), (1, .inl mo)] [] (am_mm D I J ρ) _
    refine am_e_ss 1 (q := (22, [(2, .inl ((I k 2) + 2)), (0, .inr (.inr (.inl (some k)))), (1, .inl mo)], [.inl 0], (am_mm D I J ρ))) rfl ?_
    refine am_e_ireturn rfl rfl ?_
    rw [← hv]
    rw [am_bi_f (by omega)]
  · show am_E _ _ _ 11 [(2, .inl ((I k 2) + 2)), (0, .inr (.inr (.inl (some k)))), (1, .inl mo)] [] (am_mm D I J ρ) _
    refine am_e_ss 2 (q := (13, [(2, .inl ((I k 2) + 2)), (0, .inr (.inr (.inl (some k)))), (1, .inl mo)], [.inl ((I k 2) + 2), .inl mo], (am_mm D I J ρ))) rfl ?_
    refine am_e_iremp rfl ⟨by omega, by omega⟩ ⟨by omega, by omega⟩ ?_
    show am_E _ _ _ 14 [(2, .inl ((I k 2) + 2)), (0, .inr (.inr (.inl (some k)))), (1, .inl mo)] [.inl ((mo % ((I k 2) + 2)))] (am_mm D I J ρ) _
    refine am_e_if2 rfl ⟨by omega, by omega⟩ (fun (hw2 : ¬ (mo % ((I k 2) + 2)) = 0) => ?_) (fun (hw2 : ¬ (¬ (mo % ((I k 2) + 2)) = 0)) => ?_)
    · show am_E _ _ _ 21 [(2, .inl ((I k 2) + 2)), (0, .inr (.inr (.inl (some k)))), (1, .inl mo)] [] (am_mm D I J ρ) _
      refine am_e_ss 1 (q := (22, [(2, .inl ((I k 2) + 2)), (0, .inr (.inr (.inl (some k)))), (1, .inl mo)], [.inl 0], (am_mm D I J ρ))) rfl ?_
      refine am_e_ireturn rfl rfl ?_
      rw [← hv]
      rw [am_bi_f (by omega)]
    · show am_E _ _ _ 17 [(2, .inl ((I k 2) + 2)), (0, .inr (.inr (.inl (some k)))), (1, .inl mo)] [] (am_mm D I J ρ) _
      refine am_e_ss 2 (q := (22, [(2, .inl ((I k 2) + 2)), (0, .inr (.inr (.inl (some k)))), (1, .inl mo)], [.inl 1], (am_mm D I J ρ))) rfl ?_
      refine am_e_ireturn rfl rfl ?_
      rw [← hv]
      rw [am_bi_t (by omega)]
theorem m_away {X : Nat × (Nat → Int)} {D : List (Nat × Nat)} {I J : Nat → Nat → Int} {ρ : Nat → Nat → Option Nat} (d : Nat) {k K : Nat} {mo v : Int} (hK : K < 7) (hs : (am_S ++ D)[k]? = some (am_kc K, 3)) (hv : I k 2 = v) (hv9 : 0 ≤ v ∧ v ≤ 9) (hmo : 0 ≤ mo ∧ mo ≤ 200) : am_E X d (am_tg [36, 36, 36, 36, 36, 36, 3] K) 0 [(0, .inr (.inr (.inl (some k)))), (1, .inl mo)] [] (am_mm D I J ρ) (fun q => q = (some (.inl (am_bi (K = 6 ∧ mo % (v + 2) = 0))), am_mm D I J ρ)) := by
  have h : K = 0 ∨ K = 1 ∨ K = 2 ∨ K = 3 ∨ K = 4 ∨ K = 5 ∨ K = 6 := by omega
  have no : ∀ K, K < 6 → am_E X d 36 0 [(0, .inr (.inr (.inl (some k)))), (1, .inl mo)] [] (am_mm D I J ρ) (fun q => q = (some (.inl (am_bi (K = 6 ∧ mo % (v + 2) = 0))), am_mm D I J ρ)) := by
    intro K hK
    refine am_e_ss 1 (q := (1, [(0, .inr (.inr (.inl (some k)))), (1, .inl mo)], [.inl 0], am_mm D I J ρ)) rfl ?_
    refine am_e_ireturn rfl rfl ?_
    rw [am_bi_f (by omega)]
  rcases h with rfl | rfl | rfl | rfl | rfl | rfl | rfl
  · exact no 0 (by omega)
  · exact no 1 (by omega)
  · exact no 2 (by omega)
  · exact no 3 (by omega)
  · exact no 4 (by omega)
  · exact no 5 (by omega)
  · refine (m_away6 d hs hv hv9 hmo).imp ?_
    intro q h
    rw [h]
    congr 3
    by_cases e : mo % (v + 2) = 0
    · rw [am_bi_t e, am_bi_t ⟨rfl, e⟩]
    · rw [am_bi_f e, am_bi_f (fun h => e h.2)]
theorem c_putOrderI {X : Nat × (Nat → Int)} {D : List (Nat × Nat)} {I J : Nat → Nat → Int} {ρ : Nat → Nat → Option Nat} (d : Nat) {a b : Nat} {z : Int} (hz : z = (a : Int)) (ha : a < 6) (hb : b < 6) : am_E X (d + 1) 72 0 [(0, .inr (.inr (.inl (some 71)))), (1, .inl z), (2, .inr (.inr (.inl (some (81 + b)))))] [] (am_mm D I J ρ) (fun r => r = (none, am_mm D (am_cpg I (81 + b) 0 (74 + a) 0 6) J ρ)) := by
  subst hz
  exact c_putOrder d ha hb
theorem c_vIsHereI_2 {X : Nat × (Nat → Int)} {D : List (Nat × Nat)} {I J : Nat → Nat → Int} {ρ : Nat → Nat → Option Nat} (d : Nat) {S : Nat → Int} {B z : Int} {v : Nat} (hz : z = (v : Int)) (hok : r_ok S B) (h71 : ρ 71 1 = some 2) (h12 : I 1 2 = S 19) (hhr : I 2 1 = am_bits (sp_hp S) 6) (hv : v < 10) : am_E X (d + 1) 71 0 [(0, .inr (.inr (.inl (some 71)))), (1, .inl z)] [] (am_mm D I J ρ) (fun r => r = (some (.inl (am_bi (v < (S 19).toNat ∧ S (7 + v) = 0))), am_mm D I J ρ)) := by
  subst hz
  exact c_vIsHere_2 d hok h71 h12 hhr hv
theorem c_vIsHereI_69 {X : Nat × (Nat → Int)} {D : List (Nat × Nat)} {I J : Nat → Nat → Int} {ρ : Nat → Nat → Option Nat} (d : Nat) {S : Nat → Int} {B z : Int} {v : Nat} (hz : z = (v : Int)) (hok : r_ok S B) (h71 : ρ 71 1 = some 69) (h12 : I 1 2 = S 19) (hhr : I 69 1 = am_bits (sp_hp S) 6) (hv : v < 10) : am_E X (d + 1) 71 0 [(0, .inr (.inr (.inl (some 71)))), (1, .inl z)] [] (am_mm D I J ρ) (fun r => r = (some (.inl (am_bi (v < (S 19).toNat ∧ S (7 + v) = 0))), am_mm D I J ρ)) := by
  subst hz
  exact c_vIsHere_69 d hok h71 h12 hhr hv
