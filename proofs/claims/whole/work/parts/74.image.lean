/-! THE CLASS: the image -/
theorem am_e_aastR {X : Nat × (Nat → Int)} {d mid pc n x : Nat} {lv : List (Nat × am_V)} {st : List am_V} {P : am_R → Prop} {D : List (Nat × Nat)} {I J : Nat → Nat → Int} {ρ : Nat → Nat → Option Nat} {j : Int} {k m v c : Nat} (hi : am_ins mid pc = some (.aastore, n, x)) (hs : (am_S ++ D)[k]? = some (24, m)) (hv : (am_S ++ D)[v]? = some (c, 3)) (hm : am_mem c = true) (h0 : 0 ≤ j) (h1 : j < m) (h2 : j < 10000) (hmu : am_mut k j.toNat = true) (h : am_E X d mid (pc + n) lv st (am_mm D I J (am_up ρ k j.toNat (some v))) P) : am_E X d mid pc lv (.inr (.inr (.inl (some v))) :: .inl j :: .inr (.inr (.inl (some k))) :: st) (am_mm D I J ρ) P := by
  refine am_e_aastore hi hs hv hm h0 h1 h2 ?_
  show am_E _ _ _ _ _ _ (am_S ++ D, I, J, am_up (am_Rf ρ) k j.toNat (some v)) _
  rw [am_Rf_up hmu]
  exact h
theorem am_cpg_at {I : Nat → Nat → Int} {dst src n i : Nat} (h : i < n) : am_cpg I dst 0 src 0 n dst i = I src i := by
  unfold am_cpg
  rw [if_pos ⟨rfl, by omega, by omega⟩]
  congr 1
  omega
theorem am_cpg_ne {I : Nat → Nat → Int} {dst od src os n c i : Nat} (h : c ≠ dst) : am_cpg I dst od src os n c i = I c i := if_neg (fun e => h e.1)
def c_cpd (I : Nat → Nat → Int) (ρ : Nat → Nat → Option Nat) (o p n : Nat) : Prop := ∀ m, m < n → (∀ j, j < 4 → I (6 + o + m) j = I (6 + p + m) j) ∧ (∀ j, j < 6 → I (20 + o + m) j = I (20 + p + m) j ∧ I (27 + o + m) j = I (27 + p + m) j) ∧ ρ (4 + o) m = ρ (4 + p) m
theorem c_cpd_s {I : Nat → Nat → Int} {ρ : Nat → Nat → Option Nat} {o p i k : Nat} (ho : (o = 0 ∧ p = 34) ∨ (o = 34 ∧ p = 0)) (hi : i < 6) (h : c_cpd I ρ o p i) (hk : ρ (4 + p) i = some k) : c_cpd (am_cpg (am_cpg (am_cpg I (6 + o + i) 0 (6 + p + i) 0 4) (20 + o + i) 0 (20 + p + i) 0 6) (27 + o + i) 0 (27 + p + i) 0 6) (am_up ρ (4 + o) i (some k)) o p (i + 1) := by
  intro m hm
  have hp : am_up ρ (4 + o) i (some k) (4 + p) m = ρ (4 + p) m := if_neg (by omega)
  by_cases e : m = i
  · subst e
    refine ⟨fun j hj => ?_, fun j hj => ⟨?_, ?_⟩, ?_⟩
    · exact ((am_cpg_ne (by omega)).trans ((am_cpg_ne (by omega)).trans (am_cpg_at hj))).trans ((am_cpg_ne (by omega)).trans ((am_cpg_ne (by omega)).trans (am_cpg_ne (by omega)))).symm
    · exact ((am_cpg_ne (by omega)).trans ((am_cpg_at hj).trans (am_cpg_ne (by omega)))).trans ((am_cpg_ne (by omega)).trans ((am_cpg_ne (by omega)).trans (am_cpg_ne (by omega)))).symm
    · exact ((am_cpg_at hj).trans ((am_cpg_ne (by omega)).trans (am_cpg_ne (by omega)))).trans ((am_cpg_ne (by omega)).trans ((am_cpg_ne (by omega)).trans (am_cpg_ne (by omega)))).symm
    · rw [hp, hk]; exact if_pos ⟨rfl, rfl⟩
  · obtain ⟨h1, h2, h3⟩ := h m (by omega)
    refine ⟨fun j hj => ?_, fun j hj => ⟨?_, ?_⟩, ?_⟩
    · exact ((am_cpg_ne (by omega)).trans ((am_cpg_ne (by omega)).trans (am_cpg_ne (by omega)))).trans ((h1 j hj).trans ((am_cpg_ne (by omega)).trans ((am_cpg_ne (by omega)).trans (am_cpg_ne (by omega)))).symm)
    · exact ((am_cpg_ne (by omega)).trans ((am_cpg_ne (by omega)).trans (am_cpg_ne (by omega)))).trans ((h2 j hj).1.trans ((am_cpg_ne (by omega)).trans ((am_cpg_ne (by omega)).trans (am_cpg_ne (by omega)))).symm)
    · exact ((am_cpg_ne (by omega)).trans ((am_cpg_ne (by omega)).trans (am_cpg_ne (by omega)))).trans ((h2 j hj).2.trans ((am_cpg_ne (by omega)).trans ((am_cpg_ne (by omega)).trans (am_cpg_ne (by omega)))).symm)
    · rw [hp, ← h3]; exact if_neg (by omega)
/-- a hall, o cells behind the first, is now what the one p cells behind was -/
def c_cpy (I K : Nat → Nat → Int) (ρ ρ' : Nat → Nat → Option Nat) (o p : Nat) : Prop :=
  c_cpd K ρ' o p 6 ∧ (K (1 + o) 2 = I (1 + p) 2 ∧ K (1 + o) 4 = I (1 + p) 4 ∧ K (1 + o) 6 = I (1 + p) 6 ∧ K (1 + o) 8 = I (1 + p) 8 ∧ K (1 + o) 10 = I (1 + p) 10) ∧ (K (2 + o) 0 = I (2 + p) 0 ∧ K (2 + o) 1 = I (2 + p) 1 ∧ K (2 + o) 2 = I (2 + p) 2 ∧ ∀ i, i < 6 → K (3 + o) i = I (3 + p) i) ∧ ((∀ i, i < 100 → K (17 + o) i = I (17 + p) i) ∧ (∀ i, i < 6 → K (18 + o) i = I (18 + p) i)) ∧ ρ' (1 + o) 5 = ρ (1 + p) 5 ∧ ∀ k j, k ≠ 4 + o → ¬ (k = 1 + o ∧ j = 5) → ρ' k j = ρ k j
theorem am_r39 {ρ : Nat → Nat → Option Nat} {m : Nat} (h : m < 6) : am_Rf ρ 39 m = some (40 + m) := by
  have h : m = 0 ∨ m = 1 ∨ m = 2 ∨ m = 3 ∨ m = 4 ∨ m = 5 := by omega
  rcases h with rfl | rfl | rfl | rfl | rfl | rfl <;> rfl
theorem am_k40 {D : List (Nat × Nat)} {m : Nat} (h : m < 6) : (am_S ++ D)[40 + m]? = some (20, 4) := by
  have h : m = 0 ∨ m = 1 ∨ m = 2 ∨ m = 3 ∨ m = 4 ∨ m = 5 := by omega
  rcases h with rfl | rfl | rfl | rfl | rfl | rfl <;> rfl
theorem am_r53 {ρ : Nat → Nat → Option Nat} {m : Nat} (h : m < 6) : am_Rf ρ 53 m = some (54 + m) := by
  have h : m = 0 ∨ m = 1 ∨ m = 2 ∨ m = 3 ∨ m = 4 ∨ m = 5 := by omega
  rcases h with rfl | rfl | rfl | rfl | rfl | rfl <;> rfl
theorem am_k54 {D : List (Nat × Nat)} {m : Nat} (h : m < 6) : (am_S ++ D)[54 + m]? = some (20, 6) := by
  have h : m = 0 ∨ m = 1 ∨ m = 2 ∨ m = 3 ∨ m = 4 ∨ m = 5 := by omega
  rcases h with rfl | rfl | rfl | rfl | rfl | rfl <;> rfl
theorem am_r60 {ρ : Nat → Nat → Option Nat} {m : Nat} (h : m < 6) : am_Rf ρ 60 m = some (61 + m) := by
  have h : m = 0 ∨ m = 1 ∨ m = 2 ∨ m = 3 ∨ m = 4 ∨ m = 5 := by omega
  rcases h with rfl | rfl | rfl | rfl | rfl | rfl <;> rfl
theorem am_k61 {D : List (Nat × Nat)} {m : Nat} (h : m < 6) : (am_S ++ D)[61 + m]? = some (20, 6) := by
  have h : m = 0 ∨ m = 1 ∨ m = 2 ∨ m = 3 ∨ m = 4 ∨ m = 5 := by omega
  rcases h with rfl | rfl | rfl | rfl | rfl | rfl <;> rfl
def uF34 : Nat → Nat → Bool := fun c i => Nat.beq c 37 || Nat.beq c 51 || Nat.beq c 52 || Nat.beq c 40 || Nat.beq c 41 || Nat.beq c 42 || Nat.beq c 43 || Nat.beq c 44 || Nat.beq c 45 || Nat.beq c 54 || Nat.beq c 55 || Nat.beq c 56 || Nat.beq c 57 || Nat.beq c 58 || Nat.beq c 59 || Nat.beq c 61 || Nat.beq c 62 || Nat.beq c 63 || Nat.beq c 64 || Nat.beq c 65 || Nat.beq c 66 || (Nat.beq c 35 && (Nat.beq i 2 || Nat.beq i 4 || Nat.beq i 6 || Nat.beq i 8 || Nat.beq i 10)) || (Nat.beq c 36 && (Nat.beq i 0 || Nat.beq i 1 || Nat.beq i 2))
theorem uK36_uF34 : ∀ c i, uK36 c i = true → uF34 c i = true := by
  intro c i
  unfold uK36 uF34
  simp
  omega
def uL34 : Nat → Nat → Bool := fun c i => Nat.beq c 40 || Nat.beq c 41 || Nat.beq c 42 || Nat.beq c 43 || Nat.beq c 44 || Nat.beq c 45 || Nat.beq c 54 || Nat.beq c 55 || Nat.beq c 56 || Nat.beq c 57 || Nat.beq c 58 || Nat.beq c 59 || Nat.beq c 61 || Nat.beq c 62 || Nat.beq c 63 || Nat.beq c 64 || Nat.beq c 65 || Nat.beq c 66
theorem uL34_uF34 : ∀ c i, uL34 c i = true → uF34 c i = true := by
  intro c i
  unfold uL34 uF34
  simp
  omega
theorem uL34_r : ∀ m, m < 6 → ∀ j, (uL34 (40 + m) j = true ∧ uL34 (54 + m) j = true ∧ uL34 (61 + m) j = true) := by
  intro m h j
  have h : m = 0 ∨ m = 1 ∨ m = 2 ∨ m = 3 ∨ m = 4 ∨ m = 5 := by omega
  rcases h with rfl | rfl | rfl | rfl | rfl | rfl <;> exact ⟨rfl, rfl, rfl⟩
theorem c_ch34_l {X : Nat × (Nat → Int)} {D : List (Nat × Nat)} {I J : Nat → Nat → Int} {ρ : Nat → Nat → Option Nat} (d : Nat) {P : am_R → Prop} {i : Nat} (hi : i ≤ 6) (hs : ∀ m, m < 6 → ∃ k c, ρ 4 m = some k ∧ (am_S ++ D)[k]? = some (c, 3) ∧ am_mem c = true) (hcd : c_cpd I ρ 34 0 i) (hc : ∀ K ρ2, (∀ c j, uL34 c j = false → K c j = I c j) → (∀ k j, k ≠ 38 → ρ2 k j = ρ k j) → c_cpd K ρ2 34 0 6 → am_E X (d + 1) 25 93 [(1, .inr (.inr (.inl (some 1)))), (0, .inr (.inr (.inl (some 35))))] [] (am_mm D K J ρ2) P) : am_E X (d + 1) 25 13 [(2, .inl (i : Int)), (1, .inr (.inr (.inl (some 1)))), (0, .inr (.inr (.inl (some 35))))] [] (am_mm D I J ρ) (P) := by
  refine am_e_ss 2 (q := (16, [(2, .inl (i : Int)), (1, .inr (.inr (.inl (some 1)))), (0, .inr (.inr (.inl (some 35))))], [.inl 6, .inl (i : Int)], (am_mm D I J ρ))) rfl ?_
  refine am_e_icmp2 rfl ⟨by omega, by omega⟩ ⟨by omega, by omega⟩ (fun (hw1 : 6 ≤ (i : Int)) => ?_) (fun (hw1 : ¬ (6 ≤ (i : Int))) => ?_)
  · show am_E _ _ _ 93 [(2, .inl (i : Int)), (1, .inr (.inr (.inl (some 1)))), (0, .inr (.inr (.inl (some 35))))] [] (am_mm D I J ρ) _
    exact am_less (lv := [(1, .inr (.inr (.inl (some 1)))), (0, .inr (.inr (.inl (some 35))))]) rfl (List.forall_mem_cons.mpr ⟨rfl, List.forall_mem_cons.mpr ⟨rfl, List.forall_mem_nil _⟩⟩) (hc I ρ (fun _ _ _ => rfl) (fun _ _ _ => rfl) (by rw [show (6 : Nat) = i by omega]; exact hcd))
  · show am_E _ _ _ 19 [(2, .inl (i : Int)), (1, .inr (.inr (.inl (some 1)))), (0, .inr (.inr (.inl (some 35))))] [] (am_mm D I J ρ) _
    obtain ⟨k, c, hρk, hsk, hcm⟩ := hs i (by omega)
    refine am_e_ss 6 (q := (29, [(2, .inl (i : Int)), (1, .inr (.inr (.inl (some 1)))), (0, .inr (.inr (.inl (some 35))))], [.inl (i : Int), .inr (.inr (.inl (some 4))), .inl (i : Int), .inr (.inr (.inl (some 38)))], (am_mm D I J ρ))) rfl ?_
    refine am_e_aaload (m := 6) (c := 24) rfl rfl (by decide) (by omega) (by omega) (by omega) ?_
    rw [show ((am_mm D I J ρ)).2.2.2 4 ((i : Int)).toNat = some k from (show am_Rf ρ 4 i = some k from hρk)]
    show am_E _ _ _ 30 [(2, .inl (i : Int)), (1, .inr (.inr (.inl (some 1)))), (0, .inr (.inr (.inl (some 35))))] [.inr (.inr (.inl (some k))), .inl (i : Int), .inr (.inr (.inl (some 38)))] (am_mm D I J ρ) _
    refine am_e_aastR (m := 6) rfl rfl hsk hcm (by omega) (by omega) (by omega) rfl ?_
    show am_E _ _ _ 31 [(2, .inl (i : Int)), (1, .inr (.inr (.inl (some 1)))), (0, .inr (.inr (.inl (some 35))))] [] (am_mm D I J (am_up ρ 38 i (some k))) _
    refine am_e_ss 3 (q := (36, [(2, .inl (i : Int)), (1, .inr (.inr (.inl (some 1)))), (0, .inr (.inr (.inl (some 35))))], [.inl (i : Int), .inr (.inr (.inl (some 5)))], (am_mm D I J (am_up ρ 38 i (some k))))) rfl ?_
    refine am_e_aaload (m := 6) (c := 23) rfl rfl (by decide) (by omega) (by omega) (by omega) ?_
    rw [show ((am_mm D I J (am_up ρ 38 i (some k)))).2.2.2 5 ((i : Int)).toNat = some (6 + i) from (am_r5 (ρ := am_up ρ 38 i (some k)) (by omega))]
    show am_E _ _ _ 37 [(2, .inl (i : Int)), (1, .inr (.inr (.inl (some 1)))), (0, .inr (.inr (.inl (some 35))))] [.inr (.inr (.inl (some (6 + i))))] (am_mm D I J (am_up ρ 38 i (some k))) _
    refine am_e_ss 4 (q := (43, [(2, .inl (i : Int)), (1, .inr (.inr (.inl (some 1)))), (0, .inr (.inr (.inl (some 35))))], [.inl (i : Int), .inr (.inr (.inl (some 39))), .inl 0, .inr (.inr (.inl (some (6 + i))))], (am_mm D I J (am_up ρ 38 i (some k))))) rfl ?_
    refine am_e_aaload (m := 6) (c := 23) rfl rfl (by decide) (by omega) (by omega) (by omega) ?_
    rw [show ((am_mm D I J (am_up ρ 38 i (some k)))).2.2.2 39 ((i : Int)).toNat = some (40 + i) from (am_r39 (ρ := am_up ρ 38 i (some k)) (by omega))]
    show am_E _ _ _ 44 [(2, .inl (i : Int)), (1, .inr (.inr (.inl (some 1)))), (0, .inr (.inr (.inl (some 35))))] [.inr (.inr (.inl (some (40 + i)))), .inl 0, .inr (.inr (.inl (some (6 + i))))] (am_mm D I J (am_up ρ 38 i (some k))) _
    refine am_e_ss 2 (q := (46, [(2, .inl (i : Int)), (1, .inr (.inr (.inl (some 1)))), (0, .inr (.inr (.inl (some 35))))], [.inl 4, .inl 0, .inr (.inr (.inl (some (40 + i)))), .inl 0, .inr (.inr (.inl (some (6 + i))))], (am_mm D I J (am_up ρ 38 i (some k))))) rfl ?_
    refine am_e_cp (k := (40 + i)) (q := (6 + i)) (a := 4) (b := 4) (dp := 0) (sp := 0) (n' := 4) rfl rfl rfl (am_k40 (by omega)) (am_k6 (by omega)) (by decide) (by decide) (by decide) (Nat.le_of_ble_eq_true rfl) ?_
    show am_E _ _ _ 49 [(2, .inl (i : Int)), (1, .inr (.inr (.inl (some 1)))), (0, .inr (.inr (.inl (some 35))))] [] (am_mm D (am_cpg I (40 + i) 0 (6 + i) 0 4) J (am_up ρ 38 i (some k))) _
    refine am_e_ss 3 (q := (54, [(2, .inl (i : Int)), (1, .inr (.inr (.inl (some 1)))), (0, .inr (.inr (.inl (some 35))))], [.inl (i : Int), .inr (.inr (.inl (some 19)))], (am_mm D (am_cpg I (40 + i) 0 (6 + i) 0 4) J (am_up ρ 38 i (some k))))) rfl ?_
    refine am_e_aaload (m := 6) (c := 23) rfl rfl (by decide) (by omega) (by omega) (by omega) ?_
    rw [show ((am_mm D (am_cpg I (40 + i) 0 (6 + i) 0 4) J (am_up ρ 38 i (some k)))).2.2.2 19 ((i : Int)).toNat = some (20 + i) from (am_r19 (ρ := am_up ρ 38 i (some k)) (by omega))]
    show am_E _ _ _ 55 [(2, .inl (i : Int)), (1, .inr (.inr (.inl (some 1)))), (0, .inr (.inr (.inl (some 35))))] [.inr (.inr (.inl (some (20 + i))))] (am_mm D (am_cpg I (40 + i) 0 (6 + i) 0 4) J (am_up ρ 38 i (some k))) _
    refine am_e_ss 4 (q := (61, [(2, .inl (i : Int)), (1, .inr (.inr (.inl (some 1)))), (0, .inr (.inr (.inl (some 35))))], [.inl (i : Int), .inr (.inr (.inl (some 53))), .inl 0, .inr (.inr (.inl (some (20 + i))))], (am_mm D (am_cpg I (40 + i) 0 (6 + i) 0 4) J (am_up ρ 38 i (some k))))) rfl ?_
    refine am_e_aaload (m := 6) (c := 23) rfl rfl (by decide) (by omega) (by omega) (by omega) ?_
    rw [show ((am_mm D (am_cpg I (40 + i) 0 (6 + i) 0 4) J (am_up ρ 38 i (some k)))).2.2.2 53 ((i : Int)).toNat = some (54 + i) from (am_r53 (ρ := am_up ρ 38 i (some k)) (by omega))]
    show am_E _ _ _ 62 [(2, .inl (i : Int)), (1, .inr (.inr (.inl (some 1)))), (0, .inr (.inr (.inl (some 35))))] [.inr (.inr (.inl (some (54 + i)))), .inl 0, .inr (.inr (.inl (some (20 + i))))] (am_mm D (am_cpg I (40 + i) 0 (6 + i) 0 4) J (am_up ρ 38 i (some k))) _
    refine am_e_ss 2 (q := (65, [(2, .inl (i : Int)), (1, .inr (.inr (.inl (some 1)))), (0, .inr (.inr (.inl (some 35))))], [.inl 6, .inl 0, .inr (.inr (.inl (some (54 + i)))), .inl 0, .inr (.inr (.inl (some (20 + i))))], (am_mm D (am_cpg I (40 + i) 0 (6 + i) 0 4) J (am_up ρ 38 i (some k))))) rfl ?_
    refine am_e_cp (k := (54 + i)) (q := (20 + i)) (a := 6) (b := 6) (dp := 0) (sp := 0) (n' := 6) rfl rfl rfl (am_k54 (by omega)) (am_k20 (by omega)) (by decide) (by decide) (by decide) (Nat.le_of_ble_eq_true rfl) ?_
    show am_E _ _ _ 68 [(2, .inl (i : Int)), (1, .inr (.inr (.inl (some 1)))), (0, .inr (.inr (.inl (some 35))))] [] (am_mm D (am_cpg (am_cpg I (40 + i) 0 (6 + i) 0 4) (54 + i) 0 (20 + i) 0 6) J (am_up ρ 38 i (some k))) _
    refine am_e_ss 3 (q := (73, [(2, .inl (i : Int)), (1, .inr (.inr (.inl (some 1)))), (0, .inr (.inr (.inl (some 35))))], [.inl (i : Int), .inr (.inr (.inl (some 26)))], (am_mm D (am_cpg (am_cpg I (40 + i) 0 (6 + i) 0 4) (54 + i) 0 (20 + i) 0 6) J (am_up ρ 38 i (some k))))) rfl ?_
    refine am_e_aaload (m := 6) (c := 23) rfl rfl (by decide) (by omega) (by omega) (by omega) ?_
    rw [show ((am_mm D (am_cpg (am_cpg I (40 + i) 0 (6 + i) 0 4) (54 + i) 0 (20 + i) 0 6) J (am_up ρ 38 i (some k)))).2.2.2 26 ((i : Int)).toNat = some (27 + i) from (am_r26 (ρ := am_up ρ 38 i (some k)) (by omega))]
    show am_E _ _ _ 74 [(2, .inl (i : Int)), (1, .inr (.inr (.inl (some 1)))), (0, .inr (.inr (.inl (some 35))))] [.inr (.inr (.inl (some (27 + i))))] (am_mm D (am_cpg (am_cpg I (40 + i) 0 (6 + i) 0 4) (54 + i) 0 (20 + i) 0 6) J (am_up ρ 38 i (some k))) _
    refine am_e_ss 4 (q := (80, [(2, .inl (i : Int)), (1, .inr (.inr (.inl (some 1)))), (0, .inr (.inr (.inl (some 35))))], [.inl (i : Int), .inr (.inr (.inl (some 60))), .inl 0, .inr (.inr (.inl (some (27 + i))))], (am_mm D (am_cpg (am_cpg I (40 + i) 0 (6 + i) 0 4) (54 + i) 0 (20 + i) 0 6) J (am_up ρ 38 i (some k))))) rfl ?_
    refine am_e_aaload (m := 6) (c := 23) rfl rfl (by decide) (by omega) (by omega) (by omega) ?_
    rw [show ((am_mm D (am_cpg (am_cpg I (40 + i) 0 (6 + i) 0 4) (54 + i) 0 (20 + i) 0 6) J (am_up ρ 38 i (some k)))).2.2.2 60 ((i : Int)).toNat = some (61 + i) from (am_r60 (ρ := am_up ρ 38 i (some k)) (by omega))]
    show am_E _ _ _ 81 [(2, .inl (i : Int)), (1, .inr (.inr (.inl (some 1)))), (0, .inr (.inr (.inl (some 35))))] [.inr (.inr (.inl (some (61 + i)))), .inl 0, .inr (.inr (.inl (some (27 + i))))] (am_mm D (am_cpg (am_cpg I (40 + i) 0 (6 + i) 0 4) (54 + i) 0 (20 + i) 0 6) J (am_up ρ 38 i (some k))) _
    refine am_e_ss 2 (q := (84, [(2, .inl (i : Int)), (1, .inr (.inr (.inl (some 1)))), (0, .inr (.inr (.inl (some 35))))], [.inl 6, .inl 0, .inr (.inr (.inl (some (61 + i)))), .inl 0, .inr (.inr (.inl (some (27 + i))))], (am_mm D (am_cpg (am_cpg I (40 + i) 0 (6 + i) 0 4) (54 + i) 0 (20 + i) 0 6) J (am_up ρ 38 i (some k))))) rfl ?_
    refine am_e_cp (k := (61 + i)) (q := (27 + i)) (a := 6) (b := 6) (dp := 0) (sp := 0) (n' := 6) rfl rfl rfl (am_k61 (by omega)) (am_k27 (by omega)) (by decide) (by decide) (by decide) (Nat.le_of_ble_eq_true rfl) ?_
    show am_E _ _ _ 87 [(2, .inl (i : Int)), (1, .inr (.inr (.inl (some 1)))), (0, .inr (.inr (.inl (some 35))))] [] (am_mm D (am_cpg (am_cpg (am_cpg I (40 + i) 0 (6 + i) 0 4) (54 + i) 0 (20 + i) 0 6) (61 + i) 0 (27 + i) 0 6) J (am_up ρ 38 i (some k))) _
    refine am_e_ss 2 (q := (13, [(2, .inl ((i : Int) + 1)), (1, .inr (.inr (.inl (some 1)))), (0, .inr (.inr (.inl (some 35))))], [], (am_mm D (am_cpg (am_cpg (am_cpg I (40 + i) 0 (6 + i) 0 4) (54 + i) 0 (20 + i) 0 6) (61 + i) 0 (27 + i) 0 6) J (am_up ρ 38 i (some k))))) rfl ?_
    have hu := uL34_r i (by omega)
    have hoff : ∀ c j, uL34 c j = false → (am_cpg (am_cpg (am_cpg I (40 + i) 0 (6 + i) 0 4) (54 + i) 0 (20 + i) 0 6) (61 + i) 0 (27 + i) 0 6) c j = I c j := am_k_cpg (fun j => (hu j).2.2) (am_k_cpg (fun j => (hu j).2.1) (am_k_cpg (fun j => (hu j).1) am_k_id))
    have hcs : c_cpd (am_cpg (am_cpg (am_cpg I (40 + i) 0 (6 + i) 0 4) (54 + i) 0 (20 + i) 0 6) (61 + i) 0 (27 + i) 0 6) (am_up ρ 38 i (some k)) 34 0 (i + 1) := c_cpd_s (by omega) (by omega) hcd hρk
    have hse : ∀ m, m < 6 → ∃ k c, (am_up ρ 38 i (some k)) 4 m = some k ∧ (am_S ++ D)[k]? = some (c, 3) ∧ am_mem c = true := fun m hm => by
      obtain ⟨k, c, g1, g2⟩ := hs m hm
      exact ⟨k, c, (if_neg (by omega)).trans g1, g2⟩
    exact am_less (lv := [(2, .inl ((i + 1) : Int)), (1, .inr (.inr (.inl (some 1)))), (0, .inr (.inr (.inl (some 35))))]) rfl (List.forall_mem_cons.mpr ⟨rfl, List.forall_mem_cons.mpr ⟨rfl, List.forall_mem_cons.mpr ⟨rfl, List.forall_mem_nil _⟩⟩⟩) (c_ch34_l (I := am_cpg (am_cpg (am_cpg I (40 + i) 0 (6 + i) 0 4) (54 + i) 0 (20 + i) 0 6) (61 + i) 0 (27 + i) 0 6) (ρ := am_up ρ 38 i (some k)) d (i := i + 1) (by omega) hse hcs (fun K ρ2 h1 h2 h3 => hc K ρ2 (fun c j h => (h1 c j h).trans (hoff c j h)) (fun k j h => (h2 k j h).trans (if_neg (by omega))) h3))
termination_by 6 - i
decreasing_by all_goals omega
theorem c_ch34 {X : Nat × (Nat → Int)} {D : List (Nat × Nat)} {I J : Nat → Nat → Int} {ρ : Nat → Nat → Option Nat} (d : Nat) {c : Nat} (hs : ∀ m, m < 6 → ∃ k c, ρ 4 m = some k ∧ (am_S ++ D)[k]? = some (c, 3) ∧ am_mem c = true) (hρc : ρ 1 5 = some c) : am_E X (d + 2) 25 0 [(0, .inr (.inr (.inl (some 35)))), (1, .inr (.inr (.inl (some 1))))] [] (am_mm D I J ρ) (fun z => ∃ K ρ2, z = (none, am_mm D K J ρ2) ∧ (∀ c j, uF34 c j = false → K c j = I c j) ∧ c_cpy I K ρ ρ2 34 0) := by
  refine am_e_ss 4 (q := (8, [(0, .inr (.inr (.inl (some 35)))), (1, .inr (.inr (.inl (some 1))))], [.inr (.inr (.inl (some 2))), .inr (.inr (.inl (some 36)))], (am_mm D I J ρ))) rfl ?_
  refine am_e_virtual (Q := fun r => ∃ Q262, r = (none, (am_mm D (am_wp uK36 I Q262) J ρ)) ∧ Q262 36 0 = I 2 0 ∧ Q262 36 1 = I 2 1 ∧ Q262 36 2 = I 2 2 ∧ ∀ i, i < 6 → Q262 37 i = I 3 i) rfl rfl (Nat.le_of_ble_eq_true rfl) rfl rfl (Nat.le_of_ble_eq_true rfl) (Nat.le_of_ble_eq_true rfl) (c_copyRoll_36 _) ?_
  rintro r ⟨Q262, rfl, ⟨k1, k2, k3, k4⟩⟩
  show am_E _ _ _ 11 [(0, .inr (.inr (.inl (some 35)))), (1, .inr (.inr (.inl (some 1))))] [] (am_mm D (am_wp uK36 I Q262) J ρ) _
  refine am_e_ss 2 (q := (13, [(2, .inl 0), (0, .inr (.inr (.inl (some 35)))), (1, .inr (.inr (.inl (some 1))))], [], (am_mm D (am_wp uK36 I Q262) J ρ))) rfl ?_
  have hoff : ∀ c j, uF34 c j = false → (am_wp uK36 I Q262) c j = I c j := (am_k_wp (uK36_uF34) (am_k_id))
  refine am_less (lv := [(2, .inl (0 : Int)), (1, .inr (.inr (.inl (some 1)))), (0, .inr (.inr (.inl (some 35))))]) rfl (List.forall_mem_cons.mpr ⟨rfl, List.forall_mem_cons.mpr ⟨rfl, List.forall_mem_cons.mpr ⟨rfl, List.forall_mem_nil _⟩⟩⟩) (c_ch34_l (I := am_wp uK36 I Q262) (d + 1) (i := 0) (by omega) hs (fun m hm => by omega) ?_)
  intro K ρ2 hk hr hcd
  have hρ2 : ρ2 1 5 = some c := (hr 1 5 (by omega)).trans hρc
  refine am_e_ss 10 (q := (111, [(1, .inr (.inr (.inl (some 1)))), (0, .inr (.inr (.inl (some 35))))], [.inr (.inr (.inl (some 1))), .inr (.inr (.inl (some 35)))], (am_mm D (am_up (am_up K 35 2 (K 1 2)) 35 4 (K 1 4)) J ρ2))) rfl ?_
  refine am_e_getR (c := 3) (m := 14) (f := 5) (w := c) rfl rfl rfl (by decide) (by decide) rfl rfl hρ2 ?_
  show am_E _ _ _ 114 [(1, .inr (.inr (.inl (some 1)))), (0, .inr (.inr (.inl (some 35))))] [.inr (.inr (.inl (some c))), .inr (.inr (.inl (some 35)))] (am_mm D (am_up (am_up K 35 2 (K 1 2)) 35 4 (K 1 4)) J ρ2) _
  refine am_e_putR (c := 3) (m := 14) (f := 5) rfl rfl rfl (by decide) (by decide) rfl rfl ?_
  show am_E _ _ _ 117 [(1, .inr (.inr (.inl (some 1)))), (0, .inr (.inr (.inl (some 35))))] [] (am_mm D (am_up (am_up K 35 2 (K 1 2)) 35 4 (K 1 4)) J (am_up ρ2 35 5 (some c))) _
  refine am_e_ss 11 (q := (137, [(1, .inr (.inr (.inl (some 1)))), (0, .inr (.inr (.inl (some 35))))], [.inl 100, .inl 0, .inr (.inr (.inl (some 51))), .inl 0, .inr (.inr (.inl (some 17)))], (am_mm D (am_up (am_up (am_up K 35 2 (K 1 2)) 35 4 (K 1 4)) 35 6 (K 1 6)) J (am_up ρ2 35 5 (some c))))) rfl ?_
  refine am_e_cp (k := 51) (q := 17) (a := 100) (b := 100) (dp := 0) (sp := 0) (n' := 100) rfl rfl rfl rfl rfl (by decide) (by decide) (by decide) (Nat.le_of_ble_eq_true rfl) ?_
  show am_E _ _ _ 140 [(1, .inr (.inr (.inl (some 1)))), (0, .inr (.inr (.inl (some 35))))] [] (am_mm D (am_cpg (am_up (am_up (am_up K 35 2 (K 1 2)) 35 4 (K 1 4)) 35 6 (K 1 6)) 51 0 17 0 100) J (am_up ρ2 35 5 (some c))) _
  refine am_e_ss 11 (q := (160, [(1, .inr (.inr (.inl (some 1)))), (0, .inr (.inr (.inl (some 35))))], [.inl 6, .inl 0, .inr (.inr (.inl (some 52))), .inl 0, .inr (.inr (.inl (some 18)))], (am_mm D (am_up (am_cpg (am_up (am_up (am_up K 35 2 (K 1 2)) 35 4 (K 1 4)) 35 6 (K 1 6)) 51 0 17 0 100) 35 8 (K 1 8)) J (am_up ρ2 35 5 (some c))))) rfl ?_
  refine am_e_cp (k := 52) (q := 18) (a := 6) (b := 6) (dp := 0) (sp := 0) (n' := 6) rfl rfl rfl rfl rfl (by decide) (by decide) (by decide) (Nat.le_of_ble_eq_true rfl) ?_
  show am_E _ _ _ 163 [(1, .inr (.inr (.inl (some 1)))), (0, .inr (.inr (.inl (some 35))))] [] (am_mm D (am_cpg (am_up (am_cpg (am_up (am_up (am_up K 35 2 (K 1 2)) 35 4 (K 1 4)) 35 6 (K 1 6)) 51 0 17 0 100) 35 8 (K 1 8)) 52 0 18 0 6) J (am_up ρ2 35 5 (some c))) _
  refine am_e_ss 4 (q := (171, [(1, .inr (.inr (.inl (some 1)))), (0, .inr (.inr (.inl (some 35))))], [], (am_mm D (am_up (am_cpg (am_up (am_cpg (am_up (am_up (am_up K 35 2 (K 1 2)) 35 4 (K 1 4)) 35 6 (K 1 6)) 51 0 17 0 100) 35 8 (K 1 8)) 52 0 18 0 6) 35 10 (K 1 10)) J (am_up ρ2 35 5 (some c))))) rfl ?_
  refine am_e_return rfl rfl ?_
  refine ⟨am_up (am_cpg (am_up (am_cpg (am_up (am_up (am_up K 35 2 (K 1 2)) 35 4 (K 1 4)) 35 6 (K 1 6)) 51 0 17 0 100) 35 8 (K 1 8)) 52 0 18 0 6) 35 10 (K 1 10), am_up ρ2 35 5 (some c), rfl, (show ∀ c j, uF34 c j = false → _ from fun c j h => ((show ∀ c j, uF34 c j = false → (am_up (am_cpg (am_up (am_cpg (am_up (am_up (am_up K 35 2 (K 1 2)) 35 4 (K 1 4)) 35 6 (K 1 6)) 51 0 17 0 100) 35 8 (K 1 8)) 52 0 18 0 6) 35 10 (K 1 10)) c j = K c j from (am_k_up rfl (am_k_cpg (fun _ => rfl) (am_k_up rfl (am_k_cpg (fun _ => rfl) (am_k_up rfl (am_k_up rfl (am_k_up rfl (am_k_id))))))))) c j h).trans ((hk c j (by cases e : uL34 c j with | false => rfl | true => exact absurd (uL34_uF34 c j e) (by rw [h]; decide))).trans (hoff c j h))), ?_⟩
  refine ⟨?_, ⟨show K 1 2 = I 1 2 from ((hk 1 2 rfl).trans (hoff 1 2 rfl)), show K 1 4 = I 1 4 from ((hk 1 4 rfl).trans (hoff 1 4 rfl)), show K 1 6 = I 1 6 from ((hk 1 6 rfl).trans (hoff 1 6 rfl)), show K 1 8 = I 1 8 from ((hk 1 8 rfl).trans (hoff 1 8 rfl)), show K 1 10 = I 1 10 from ((hk 1 10 rfl).trans (hoff 1 10 rfl))⟩, ⟨?_, ?_, ?_, ?_⟩, ⟨?_, ?_⟩, ?_, ?_⟩
  · intro m hm
    obtain ⟨g1, g2, g3⟩ := hcd m hm
    have h6m : m = 0 ∨ m = 1 ∨ m = 2 ∨ m = 3 ∨ m = 4 ∨ m = 5 := by omega
    rcases h6m with rfl | rfl | rfl | rfl | rfl | rfl <;> exact ⟨g1, g2, g3⟩
  · exact (hk 36 0 rfl).trans k1
  · exact (hk 36 1 rfl).trans k2
  · exact (hk 36 2 rfl).trans k3
  · intro i hi; exact (hk 37 i rfl).trans (k4 i hi)
  · intro i hi; refine Eq.trans ?_ (show K 17 i = I 17 i from ((hk 17 i rfl).trans (hoff 17 i rfl))); exact am_cpg_at (I := am_up (am_up (am_up K 35 2 (K 1 2)) 35 4 (K 1 4)) 35 6 (K 1 6)) (dst := 51) (src := 17) hi
  · intro i hi; refine Eq.trans ?_ (show K 18 i = I 18 i from ((hk 18 i rfl).trans (hoff 18 i rfl))); exact am_cpg_at hi
  · exact (if_pos ⟨rfl, rfl⟩).trans hρc.symm
  · intro k j h1 h2; exact (if_neg h2).trans (hr k j h1)
def uF0 : Nat → Nat → Bool := fun c i => Nat.beq c 3 || Nat.beq c 17 || Nat.beq c 18 || Nat.beq c 6 || Nat.beq c 7 || Nat.beq c 8 || Nat.beq c 9 || Nat.beq c 10 || Nat.beq c 11 || Nat.beq c 20 || Nat.beq c 21 || Nat.beq c 22 || Nat.beq c 23 || Nat.beq c 24 || Nat.beq c 25 || Nat.beq c 27 || Nat.beq c 28 || Nat.beq c 29 || Nat.beq c 30 || Nat.beq c 31 || Nat.beq c 32 || (Nat.beq c 1 && (Nat.beq i 2 || Nat.beq i 4 || Nat.beq i 6 || Nat.beq i 8 || Nat.beq i 10)) || (Nat.beq c 2 && (Nat.beq i 0 || Nat.beq i 1 || Nat.beq i 2))
theorem uK2_uF0 : ∀ c i, uK2 c i = true → uF0 c i = true := by
  intro c i
  unfold uK2 uF0
  simp
  omega
def uL0 : Nat → Nat → Bool := fun c i => Nat.beq c 6 || Nat.beq c 7 || Nat.beq c 8 || Nat.beq c 9 || Nat.beq c 10 || Nat.beq c 11 || Nat.beq c 20 || Nat.beq c 21 || Nat.beq c 22 || Nat.beq c 23 || Nat.beq c 24 || Nat.beq c 25 || Nat.beq c 27 || Nat.beq c 28 || Nat.beq c 29 || Nat.beq c 30 || Nat.beq c 31 || Nat.beq c 32
theorem uL0_uF0 : ∀ c i, uL0 c i = true → uF0 c i = true := by
  intro c i
  unfold uL0 uF0
  simp
  omega
theorem uL0_r : ∀ m, m < 6 → ∀ j, (uL0 (6 + m) j = true ∧ uL0 (20 + m) j = true ∧ uL0 (27 + m) j = true) := by
  intro m h j
  have h : m = 0 ∨ m = 1 ∨ m = 2 ∨ m = 3 ∨ m = 4 ∨ m = 5 := by omega
  rcases h with rfl | rfl | rfl | rfl | rfl | rfl <;> exact ⟨rfl, rfl, rfl⟩
theorem c_ch0_l {X : Nat × (Nat → Int)} {D : List (Nat × Nat)} {I J : Nat → Nat → Int} {ρ : Nat → Nat → Option Nat} (d : Nat) {P : am_R → Prop} {i : Nat} (hi : i ≤ 6) (hs : ∀ m, m < 6 → ∃ k c, ρ 38 m = some k ∧ (am_S ++ D)[k]? = some (c, 3) ∧ am_mem c = true) (hcd : c_cpd I ρ 0 34 i) (hc : ∀ K ρ2, (∀ c j, uL0 c j = false → K c j = I c j) → (∀ k j, k ≠ 4 → ρ2 k j = ρ k j) → c_cpd K ρ2 0 34 6 → am_E X (d + 1) 25 93 [(1, .inr (.inr (.inl (some 35)))), (0, .inr (.inr (.inl (some 1))))] [] (am_mm D K J ρ2) P) : am_E X (d + 1) 25 13 [(2, .inl (i : Int)), (1, .inr (.inr (.inl (some 35)))), (0, .inr (.inr (.inl (some 1))))] [] (am_mm D I J ρ) (P) := by
  refine am_e_ss 2 (q := (16, [(2, .inl (i : Int)), (1, .inr (.inr (.inl (some 35)))), (0, .inr (.inr (.inl (some 1))))], [.inl 6, .inl (i : Int)], (am_mm D I J ρ))) rfl ?_
  refine am_e_icmp2 rfl ⟨by omega, by omega⟩ ⟨by omega, by omega⟩ (fun (hw1 : 6 ≤ (i : Int)) => ?_) (fun (hw1 : ¬ (6 ≤ (i : Int))) => ?_)
  · show am_E _ _ _ 93 [(2, .inl (i : Int)), (1, .inr (.inr (.inl (some 35)))), (0, .inr (.inr (.inl (some 1))))] [] (am_mm D I J ρ) _
    exact am_less (lv := [(1, .inr (.inr (.inl (some 35)))), (0, .inr (.inr (.inl (some 1))))]) rfl (List.forall_mem_cons.mpr ⟨rfl, List.forall_mem_cons.mpr ⟨rfl, List.forall_mem_nil _⟩⟩) (hc I ρ (fun _ _ _ => rfl) (fun _ _ _ => rfl) (by rw [show (6 : Nat) = i by omega]; exact hcd))
  · show am_E _ _ _ 19 [(2, .inl (i : Int)), (1, .inr (.inr (.inl (some 35)))), (0, .inr (.inr (.inl (some 1))))] [] (am_mm D I J ρ) _
    obtain ⟨k, c, hρk, hsk, hcm⟩ := hs i (by omega)
    refine am_e_ss 6 (q := (29, [(2, .inl (i : Int)), (1, .inr (.inr (.inl (some 35)))), (0, .inr (.inr (.inl (some 1))))], [.inl (i : Int), .inr (.inr (.inl (some 38))), .inl (i : Int), .inr (.inr (.inl (some 4)))], (am_mm D I J ρ))) rfl ?_
    refine am_e_aaload (m := 6) (c := 24) rfl rfl (by decide) (by omega) (by omega) (by omega) ?_
    rw [show ((am_mm D I J ρ)).2.2.2 38 ((i : Int)).toNat = some k from (show am_Rf ρ 38 i = some k from hρk)]
    show am_E _ _ _ 30 [(2, .inl (i : Int)), (1, .inr (.inr (.inl (some 35)))), (0, .inr (.inr (.inl (some 1))))] [.inr (.inr (.inl (some k))), .inl (i : Int), .inr (.inr (.inl (some 4)))] (am_mm D I J ρ) _
    refine am_e_aastR (m := 6) rfl rfl hsk hcm (by omega) (by omega) (by omega) rfl ?_
    show am_E _ _ _ 31 [(2, .inl (i : Int)), (1, .inr (.inr (.inl (some 35)))), (0, .inr (.inr (.inl (some 1))))] [] (am_mm D I J (am_up ρ 4 i (some k))) _
    refine am_e_ss 3 (q := (36, [(2, .inl (i : Int)), (1, .inr (.inr (.inl (some 35)))), (0, .inr (.inr (.inl (some 1))))], [.inl (i : Int), .inr (.inr (.inl (some 39)))], (am_mm D I J (am_up ρ 4 i (some k))))) rfl ?_
    refine am_e_aaload (m := 6) (c := 23) rfl rfl (by decide) (by omega) (by omega) (by omega) ?_
    rw [show ((am_mm D I J (am_up ρ 4 i (some k)))).2.2.2 39 ((i : Int)).toNat = some (40 + i) from (am_r39 (ρ := am_up ρ 4 i (some k)) (by omega))]
    show am_E _ _ _ 37 [(2, .inl (i : Int)), (1, .inr (.inr (.inl (some 35)))), (0, .inr (.inr (.inl (some 1))))] [.inr (.inr (.inl (some (40 + i))))] (am_mm D I J (am_up ρ 4 i (some k))) _
    refine am_e_ss 4 (q := (43, [(2, .inl (i : Int)), (1, .inr (.inr (.inl (some 35)))), (0, .inr (.inr (.inl (some 1))))], [.inl (i : Int), .inr (.inr (.inl (some 5))), .inl 0, .inr (.inr (.inl (some (40 + i))))], (am_mm D I J (am_up ρ 4 i (some k))))) rfl ?_
    refine am_e_aaload (m := 6) (c := 23) rfl rfl (by decide) (by omega) (by omega) (by omega) ?_
    rw [show ((am_mm D I J (am_up ρ 4 i (some k)))).2.2.2 5 ((i : Int)).toNat = some (6 + i) from (am_r5 (ρ := am_up ρ 4 i (some k)) (by omega))]
    show am_E _ _ _ 44 [(2, .inl (i : Int)), (1, .inr (.inr (.inl (some 35)))), (0, .inr (.inr (.inl (some 1))))] [.inr (.inr (.inl (some (6 + i)))), .inl 0, .inr (.inr (.inl (some (40 + i))))] (am_mm D I J (am_up ρ 4 i (some k))) _
    refine am_e_ss 2 (q := (46, [(2, .inl (i : Int)), (1, .inr (.inr (.inl (some 35)))), (0, .inr (.inr (.inl (some 1))))], [.inl 4, .inl 0, .inr (.inr (.inl (some (6 + i)))), .inl 0, .inr (.inr (.inl (some (40 + i))))], (am_mm D I J (am_up ρ 4 i (some k))))) rfl ?_
    refine am_e_cp (k := (6 + i)) (q := (40 + i)) (a := 4) (b := 4) (dp := 0) (sp := 0) (n' := 4) rfl rfl rfl (am_k6 (by omega)) (am_k40 (by omega)) (by decide) (by decide) (by decide) (Nat.le_of_ble_eq_true rfl) ?_
    show am_E _ _ _ 49 [(2, .inl (i : Int)), (1, .inr (.inr (.inl (some 35)))), (0, .inr (.inr (.inl (some 1))))] [] (am_mm D (am_cpg I (6 + i) 0 (40 + i) 0 4) J (am_up ρ 4 i (some k))) _
    refine am_e_ss 3 (q := (54, [(2, .inl (i : Int)), (1, .inr (.inr (.inl (some 35)))), (0, .inr (.inr (.inl (some 1))))], [.inl (i : Int), .inr (.inr (.inl (some 53)))], (am_mm D (am_cpg I (6 + i) 0 (40 + i) 0 4) J (am_up ρ 4 i (some k))))) rfl ?_
    refine am_e_aaload (m := 6) (c := 23) rfl rfl (by decide) (by omega) (by omega) (by omega) ?_
    rw [show ((am_mm D (am_cpg I (6 + i) 0 (40 + i) 0 4) J (am_up ρ 4 i (some k)))).2.2.2 53 ((i : Int)).toNat = some (54 + i) from (am_r53 (ρ := am_up ρ 4 i (some k)) (by omega))]
    show am_E _ _ _ 55 [(2, .inl (i : Int)), (1, .inr (.inr (.inl (some 35)))), (0, .inr (.inr (.inl (some 1))))] [.inr (.inr (.inl (some (54 + i))))] (am_mm D (am_cpg I (6 + i) 0 (40 + i) 0 4) J (am_up ρ 4 i (some k))) _
    refine am_e_ss 4 (q := (61, [(2, .inl (i : Int)), (1, .inr (.inr (.inl (some 35)))), (0, .inr (.inr (.inl (some 1))))], [.inl (i : Int), .inr (.inr (.inl (some 19))), .inl 0, .inr (.inr (.inl (some (54 + i))))], (am_mm D (am_cpg I (6 + i) 0 (40 + i) 0 4) J (am_up ρ 4 i (some k))))) rfl ?_
    refine am_e_aaload (m := 6) (c := 23) rfl rfl (by decide) (by omega) (by omega) (by omega) ?_
    rw [show ((am_mm D (am_cpg I (6 + i) 0 (40 + i) 0 4) J (am_up ρ 4 i (some k)))).2.2.2 19 ((i : Int)).toNat = some (20 + i) from (am_r19 (ρ := am_up ρ 4 i (some k)) (by omega))]
    show am_E _ _ _ 62 [(2, .inl (i : Int)), (1, .inr (.inr (.inl (some 35)))), (0, .inr (.inr (.inl (some 1))))] [.inr (.inr (.inl (some (20 + i)))), .inl 0, .inr (.inr (.inl (some (54 + i))))] (am_mm D (am_cpg I (6 + i) 0 (40 + i) 0 4) J (am_up ρ 4 i (some k))) _
    refine am_e_ss 2 (q := (65, [(2, .inl (i : Int)), (1, .inr (.inr (.inl (some 35)))), (0, .inr (.inr (.inl (some 1))))], [.inl 6, .inl 0, .inr (.inr (.inl (some (20 + i)))), .inl 0, .inr (.inr (.inl (some (54 + i))))], (am_mm D (am_cpg I (6 + i) 0 (40 + i) 0 4) J (am_up ρ 4 i (some k))))) rfl ?_
    refine am_e_cp (k := (20 + i)) (q := (54 + i)) (a := 6) (b := 6) (dp := 0) (sp := 0) (n' := 6) rfl rfl rfl (am_k20 (by omega)) (am_k54 (by omega)) (by decide) (by decide) (by decide) (Nat.le_of_ble_eq_true rfl) ?_
    show am_E _ _ _ 68 [(2, .inl (i : Int)), (1, .inr (.inr (.inl (some 35)))), (0, .inr (.inr (.inl (some 1))))] [] (am_mm D (am_cpg (am_cpg I (6 + i) 0 (40 + i) 0 4) (20 + i) 0 (54 + i) 0 6) J (am_up ρ 4 i (some k))) _
    refine am_e_ss 3 (q := (73, [(2, .inl (i : Int)), (1, .inr (.inr (.inl (some 35)))), (0, .inr (.inr (.inl (some 1))))], [.inl (i : Int), .inr (.inr (.inl (some 60)))], (am_mm D (am_cpg (am_cpg I (6 + i) 0 (40 + i) 0 4) (20 + i) 0 (54 + i) 0 6) J (am_up ρ 4 i (some k))))) rfl ?_
    refine am_e_aaload (m := 6) (c := 23) rfl rfl (by decide) (by omega) (by omega) (by omega) ?_
    rw [show ((am_mm D (am_cpg (am_cpg I (6 + i) 0 (40 + i) 0 4) (20 + i) 0 (54 + i) 0 6) J (am_up ρ 4 i (some k)))).2.2.2 60 ((i : Int)).toNat = some (61 + i) from (am_r60 (ρ := am_up ρ 4 i (some k)) (by omega))]
    show am_E _ _ _ 74 [(2, .inl (i : Int)), (1, .inr (.inr (.inl (some 35)))), (0, .inr (.inr (.inl (some 1))))] [.inr (.inr (.inl (some (61 + i))))] (am_mm D (am_cpg (am_cpg I (6 + i) 0 (40 + i) 0 4) (20 + i) 0 (54 + i) 0 6) J (am_up ρ 4 i (some k))) _
    refine am_e_ss 4 (q := (80, [(2, .inl (i : Int)), (1, .inr (.inr (.inl (some 35)))), (0, .inr (.inr (.inl (some 1))))], [.inl (i : Int), .inr (.inr (.inl (some 26))), .inl 0, .inr (.inr (.inl (some (61 + i))))], (am_mm D (am_cpg (am_cpg I (6 + i) 0 (40 + i) 0 4) (20 + i) 0 (54 + i) 0 6) J (am_up ρ 4 i (some k))))) rfl ?_
    refine am_e_aaload (m := 6) (c := 23) rfl rfl (by decide) (by omega) (by omega) (by omega) ?_
    rw [show ((am_mm D (am_cpg (am_cpg I (6 + i) 0 (40 + i) 0 4) (20 + i) 0 (54 + i) 0 6) J (am_up ρ 4 i (some k)))).2.2.2 26 ((i : Int)).toNat = some (27 + i) from (am_r26 (ρ := am_up ρ 4 i (some k)) (by omega))]
    show am_E _ _ _ 81 [(2, .inl (i : Int)), (1, .inr (.inr (.inl (some 35)))), (0, .inr (.inr (.inl (some 1))))] [.inr (.inr (.inl (some (27 + i)))), .inl 0, .inr (.inr (.inl (some (61 + i))))] (am_mm D (am_cpg (am_cpg I (6 + i) 0 (40 + i) 0 4) (20 + i) 0 (54 + i) 0 6) J (am_up ρ 4 i (some k))) _
    refine am_e_ss 2 (q := (84, [(2, .inl (i : Int)), (1, .inr (.inr (.inl (some 35)))), (0, .inr (.inr (.inl (some 1))))], [.inl 6, .inl 0, .inr (.inr (.inl (some (27 + i)))), .inl 0, .inr (.inr (.inl (some (61 + i))))], (am_mm D (am_cpg (am_cpg I (6 + i) 0 (40 + i) 0 4) (20 + i) 0 (54 + i) 0 6) J (am_up ρ 4 i (some k))))) rfl ?_
    refine am_e_cp (k := (27 + i)) (q := (61 + i)) (a := 6) (b := 6) (dp := 0) (sp := 0) (n' := 6) rfl rfl rfl (am_k27 (by omega)) (am_k61 (by omega)) (by decide) (by decide) (by decide) (Nat.le_of_ble_eq_true rfl) ?_
    show am_E _ _ _ 87 [(2, .inl (i : Int)), (1, .inr (.inr (.inl (some 35)))), (0, .inr (.inr (.inl (some 1))))] [] (am_mm D (am_cpg (am_cpg (am_cpg I (6 + i) 0 (40 + i) 0 4) (20 + i) 0 (54 + i) 0 6) (27 + i) 0 (61 + i) 0 6) J (am_up ρ 4 i (some k))) _
    refine am_e_ss 2 (q := (13, [(2, .inl ((i : Int) + 1)), (1, .inr (.inr (.inl (some 35)))), (0, .inr (.inr (.inl (some 1))))], [], (am_mm D (am_cpg (am_cpg (am_cpg I (6 + i) 0 (40 + i) 0 4) (20 + i) 0 (54 + i) 0 6) (27 + i) 0 (61 + i) 0 6) J (am_up ρ 4 i (some k))))) rfl ?_
    have hu := uL0_r i (by omega)
    have hoff : ∀ c j, uL0 c j = false → (am_cpg (am_cpg (am_cpg I (6 + i) 0 (40 + i) 0 4) (20 + i) 0 (54 + i) 0 6) (27 + i) 0 (61 + i) 0 6) c j = I c j := am_k_cpg (fun j => (hu j).2.2) (am_k_cpg (fun j => (hu j).2.1) (am_k_cpg (fun j => (hu j).1) am_k_id))
    have hcs : c_cpd (am_cpg (am_cpg (am_cpg I (6 + i) 0 (40 + i) 0 4) (20 + i) 0 (54 + i) 0 6) (27 + i) 0 (61 + i) 0 6) (am_up ρ 4 i (some k)) 0 34 (i + 1) := c_cpd_s (by omega) (by omega) hcd hρk
    have hse : ∀ m, m < 6 → ∃ k c, (am_up ρ 4 i (some k)) 38 m = some k ∧ (am_S ++ D)[k]? = some (c, 3) ∧ am_mem c = true := fun m hm => by
      obtain ⟨k, c, g1, g2⟩ := hs m hm
      exact ⟨k, c, (if_neg (by omega)).trans g1, g2⟩
    exact am_less (lv := [(2, .inl ((i + 1) : Int)), (1, .inr (.inr (.inl (some 35)))), (0, .inr (.inr (.inl (some 1))))]) rfl (List.forall_mem_cons.mpr ⟨rfl, List.forall_mem_cons.mpr ⟨rfl, List.forall_mem_cons.mpr ⟨rfl, List.forall_mem_nil _⟩⟩⟩) (c_ch0_l (I := am_cpg (am_cpg (am_cpg I (6 + i) 0 (40 + i) 0 4) (20 + i) 0 (54 + i) 0 6) (27 + i) 0 (61 + i) 0 6) (ρ := am_up ρ 4 i (some k)) d (i := i + 1) (by omega) hse hcs (fun K ρ2 h1 h2 h3 => hc K ρ2 (fun c j h => (h1 c j h).trans (hoff c j h)) (fun k j h => (h2 k j h).trans (if_neg (by omega))) h3))
termination_by 6 - i
decreasing_by all_goals omega
theorem c_ch0 {X : Nat × (Nat → Int)} {D : List (Nat × Nat)} {I J : Nat → Nat → Int} {ρ : Nat → Nat → Option Nat} (d : Nat) {c : Nat} (hs : ∀ m, m < 6 → ∃ k c, ρ 38 m = some k ∧ (am_S ++ D)[k]? = some (c, 3) ∧ am_mem c = true) (hρc : ρ 35 5 = some c) : am_E X (d + 2) 25 0 [(0, .inr (.inr (.inl (some 1)))), (1, .inr (.inr (.inl (some 35))))] [] (am_mm D I J ρ) (fun z => ∃ K ρ2, z = (none, am_mm D K J ρ2) ∧ (∀ c j, uF0 c j = false → K c j = I c j) ∧ c_cpy I K ρ ρ2 0 34) := by
  refine am_e_ss 4 (q := (8, [(0, .inr (.inr (.inl (some 1)))), (1, .inr (.inr (.inl (some 35))))], [.inr (.inr (.inl (some 36))), .inr (.inr (.inl (some 2)))], (am_mm D I J ρ))) rfl ?_
  refine am_e_virtual (Q := fun r => ∃ Q263, r = (none, (am_mm D (am_wp uK2 I Q263) J ρ)) ∧ Q263 2 0 = I 36 0 ∧ Q263 2 1 = I 36 1 ∧ Q263 2 2 = I 36 2 ∧ ∀ i, i < 6 → Q263 3 i = I 37 i) rfl rfl (Nat.le_of_ble_eq_true rfl) rfl rfl (Nat.le_of_ble_eq_true rfl) (Nat.le_of_ble_eq_true rfl) (c_copyRoll_2 _) ?_
  rintro r ⟨Q263, rfl, ⟨k1, k2, k3, k4⟩⟩
  show am_E _ _ _ 11 [(0, .inr (.inr (.inl (some 1)))), (1, .inr (.inr (.inl (some 35))))] [] (am_mm D (am_wp uK2 I Q263) J ρ) _
  refine am_e_ss 2 (q := (13, [(2, .inl 0), (0, .inr (.inr (.inl (some 1)))), (1, .inr (.inr (.inl (some 35))))], [], (am_mm D (am_wp uK2 I Q263) J ρ))) rfl ?_
  have hoff : ∀ c j, uF0 c j = false → (am_wp uK2 I Q263) c j = I c j := (am_k_wp (uK2_uF0) (am_k_id))
  refine am_less (lv := [(2, .inl (0 : Int)), (1, .inr (.inr (.inl (some 35)))), (0, .inr (.inr (.inl (some 1))))]) rfl (List.forall_mem_cons.mpr ⟨rfl, List.forall_mem_cons.mpr ⟨rfl, List.forall_mem_cons.mpr ⟨rfl, List.forall_mem_nil _⟩⟩⟩) (c_ch0_l (I := am_wp uK2 I Q263) (d + 1) (i := 0) (by omega) hs (fun m hm => by omega) ?_)
  intro K ρ2 hk hr hcd
  have hρ2 : ρ2 35 5 = some c := (hr 35 5 (by omega)).trans hρc
  refine am_e_ss 10 (q := (111, [(1, .inr (.inr (.inl (some 35)))), (0, .inr (.inr (.inl (some 1))))], [.inr (.inr (.inl (some 35))), .inr (.inr (.inl (some 1)))], (am_mm D (am_up (am_up K 1 2 (K 35 2)) 1 4 (K 35 4)) J ρ2))) rfl ?_
  refine am_e_getR (c := 3) (m := 14) (f := 5) (w := c) rfl rfl rfl (by decide) (by decide) rfl rfl hρ2 ?_
  show am_E _ _ _ 114 [(1, .inr (.inr (.inl (some 35)))), (0, .inr (.inr (.inl (some 1))))] [.inr (.inr (.inl (some c))), .inr (.inr (.inl (some 1)))] (am_mm D (am_up (am_up K 1 2 (K 35 2)) 1 4 (K 35 4)) J ρ2) _
  refine am_e_putR (c := 3) (m := 14) (f := 5) rfl rfl rfl (by decide) (by decide) rfl rfl ?_
  show am_E _ _ _ 117 [(1, .inr (.inr (.inl (some 35)))), (0, .inr (.inr (.inl (some 1))))] [] (am_mm D (am_up (am_up K 1 2 (K 35 2)) 1 4 (K 35 4)) J (am_up ρ2 1 5 (some c))) _
  refine am_e_ss 11 (q := (137, [(1, .inr (.inr (.inl (some 35)))), (0, .inr (.inr (.inl (some 1))))], [.inl 100, .inl 0, .inr (.inr (.inl (some 17))), .inl 0, .inr (.inr (.inl (some 51)))], (am_mm D (am_up (am_up (am_up K 1 2 (K 35 2)) 1 4 (K 35 4)) 1 6 (K 35 6)) J (am_up ρ2 1 5 (some c))))) rfl ?_
  refine am_e_cp (k := 17) (q := 51) (a := 100) (b := 100) (dp := 0) (sp := 0) (n' := 100) rfl rfl rfl rfl rfl (by decide) (by decide) (by decide) (Nat.le_of_ble_eq_true rfl) ?_
  show am_E _ _ _ 140 [(1, .inr (.inr (.inl (some 35)))), (0, .inr (.inr (.inl (some 1))))] [] (am_mm D (am_cpg (am_up (am_up (am_up K 1 2 (K 35 2)) 1 4 (K 35 4)) 1 6 (K 35 6)) 17 0 51 0 100) J (am_up ρ2 1 5 (some c))) _
  refine am_e_ss 11 (q := (160, [(1, .inr (.inr (.inl (some 35)))), (0, .inr (.inr (.inl (some 1))))], [.inl 6, .inl 0, .inr (.inr (.inl (some 18))), .inl 0, .inr (.inr (.inl (some 52)))], (am_mm D (am_up (am_cpg (am_up (am_up (am_up K 1 2 (K 35 2)) 1 4 (K 35 4)) 1 6 (K 35 6)) 17 0 51 0 100) 1 8 (K 35 8)) J (am_up ρ2 1 5 (some c))))) rfl ?_
  refine am_e_cp (k := 18) (q := 52) (a := 6) (b := 6) (dp := 0) (sp := 0) (n' := 6) rfl rfl rfl rfl rfl (by decide) (by decide) (by decide) (Nat.le_of_ble_eq_true rfl) ?_
  show am_E _ _ _ 163 [(1, .inr (.inr (.inl (some 35)))), (0, .inr (.inr (.inl (some 1))))] [] (am_mm D (am_cpg (am_up (am_cpg (am_up (am_up (am_up K 1 2 (K 35 2)) 1 4 (K 35 4)) 1 6 (K 35 6)) 17 0 51 0 100) 1 8 (K 35 8)) 18 0 52 0 6) J (am_up ρ2 1 5 (some c))) _
  refine am_e_ss 4 (q := (171, [(1, .inr (.inr (.inl (some 35)))), (0, .inr (.inr (.inl (some 1))))], [], (am_mm D (am_up (am_cpg (am_up (am_cpg (am_up (am_up (am_up K 1 2 (K 35 2)) 1 4 (K 35 4)) 1 6 (K 35 6)) 17 0 51 0 100) 1 8 (K 35 8)) 18 0 52 0 6) 1 10 (K 35 10)) J (am_up ρ2 1 5 (some c))))) rfl ?_
  refine am_e_return rfl rfl ?_
  refine ⟨am_up (am_cpg (am_up (am_cpg (am_up (am_up (am_up K 1 2 (K 35 2)) 1 4 (K 35 4)) 1 6 (K 35 6)) 17 0 51 0 100) 1 8 (K 35 8)) 18 0 52 0 6) 1 10 (K 35 10), am_up ρ2 1 5 (some c), rfl, (show ∀ c j, uF0 c j = false → _ from fun c j h => ((show ∀ c j, uF0 c j = false → (am_up (am_cpg (am_up (am_cpg (am_up (am_up (am_up K 1 2 (K 35 2)) 1 4 (K 35 4)) 1 6 (K 35 6)) 17 0 51 0 100) 1 8 (K 35 8)) 18 0 52 0 6) 1 10 (K 35 10)) c j = K c j from (am_k_up rfl (am_k_cpg (fun _ => rfl) (am_k_up rfl (am_k_cpg (fun _ => rfl) (am_k_up rfl (am_k_up rfl (am_k_up rfl (am_k_id))))))))) c j h).trans ((hk c j (by cases e : uL0 c j with | false => rfl | true => exact absurd (uL0_uF0 c j e) (by rw [h]; decide))).trans (hoff c j h))), ?_⟩
  refine ⟨?_, ⟨show K 35 2 = I 35 2 from ((hk 35 2 rfl).trans (hoff 35 2 rfl)), show K 35 4 = I 35 4 from ((hk 35 4 rfl).trans (hoff 35 4 rfl)), show K 35 6 = I 35 6 from ((hk 35 6 rfl).trans (hoff 35 6 rfl)), show K 35 8 = I 35 8 from ((hk 35 8 rfl).trans (hoff 35 8 rfl)), show K 35 10 = I 35 10 from ((hk 35 10 rfl).trans (hoff 35 10 rfl))⟩, ⟨?_, ?_, ?_, ?_⟩, ⟨?_, ?_⟩, ?_, ?_⟩
  · intro m hm
    obtain ⟨g1, g2, g3⟩ := hcd m hm
    have h6m : m = 0 ∨ m = 1 ∨ m = 2 ∨ m = 3 ∨ m = 4 ∨ m = 5 := by omega
    rcases h6m with rfl | rfl | rfl | rfl | rfl | rfl <;> exact ⟨g1, g2, g3⟩
  · exact (hk 2 0 rfl).trans k1
  · exact (hk 2 1 rfl).trans k2
  · exact (hk 2 2 rfl).trans k3
  · intro i hi; exact (hk 3 i rfl).trans (k4 i hi)
  · intro i hi; refine Eq.trans ?_ (show K 51 i = I 51 i from ((hk 51 i rfl).trans (hoff 51 i rfl))); exact am_cpg_at (I := am_up (am_up (am_up K 1 2 (K 35 2)) 1 4 (K 35 4)) 1 6 (K 35 6)) (dst := 17) (src := 51) hi
  · intro i hi; refine Eq.trans ?_ (show K 52 i = I 52 i from ((hk 52 i rfl).trans (hoff 52 i rfl))); exact am_cpg_at hi
  · exact (if_pos ⟨rfl, rfl⟩).trans hρc.symm
  · intro k j h1 h2; exact (if_neg h2).trans (hr k j h1)
