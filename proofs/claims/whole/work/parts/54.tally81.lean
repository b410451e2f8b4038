/-! THE CLASS: tallies -/
theorem sp_plf_p : ∀ (L : List Nat) (b : Int) (k : Nat), k + L.length ≤ 6 → (sp_plf L b k = 6 ∧ ∀ x ∈ L, ¬ (x : Int) = b) ∨ (∃ j, j < L.length ∧ ((L.getD j 0 : Nat) : Int) = b ∧ sp_plf L b k = ((k + j : Nat) : Int)) := by
  intro L
  induction L with
  | nil => intro b k _; exact Or.inl ⟨rfl, fun x hx => by simp at hx⟩
  | cons c r ih =>
    intro b k hk
    rw [List.length_cons] at hk
    by_cases e : (c : Int) = b
    · refine Or.inr ⟨0, by rw [List.length_cons]; omega, e, ?_⟩
      show (if (c : Int) = b then (k : Int) else sp_plf r b (k + 1)) = _
      rw [if_pos e]
      rfl
    · have e2 : sp_plf (c :: r) b k = sp_plf r b (k + 1) := if_neg e
      rw [e2]
      rcases ih b (k + 1) (by omega) with h | ⟨j, h1, h2, h3⟩
      · refine Or.inl ⟨h.1, ?_⟩
        intro x hx
        rcases List.mem_cons.mp hx with rfl | hx
        · exact e
        · exact h.2 x hx
      · refine Or.inr ⟨j + 1, by rw [List.length_cons]; omega, h2, ?_⟩
        rw [h3]
        omega
theorem sp_pl_b {L : List Nat} {b : Int} (h6 : L.length ≤ 6) : 0 ≤ sp_pl L b ∧ sp_pl L b ≤ 6 ∧ (sp_pl L b < 6 → sp_pl L b < (L.length : Int)) := by
  unfold sp_pl
  rcases sp_plf_p L b 0 (by omega) with h | ⟨j, h1, h2, h3⟩ <;> omega
theorem am_nd_inj {L : List Nat} (hn : L.Nodup) {i j : Nat} (hi : i < L.length) (hj : j < L.length) (h : L[i] = L[j]) : i = j := by
  have hp := List.pairwise_iff_getElem.mp hn
  rcases Nat.lt_trichotomy i j with h1 | h1 | h1
  · exact absurd h (hp i j hi hj h1)
  · exact h1
  · exact absurd h.symm (hp j i hj hi h1)
theorem am_r_wk {D : List (Nat × Nat)} {I K Q J : Nat → Nat → Int} {ρ : Nat → Nat → Option Nat} {v : Option am_V} (p : Nat → Nat → Bool) (hk : ∀ c i, p c i = false → K c i = I c i) : ((v, am_mm D (am_wp p K Q) J ρ) : am_R) = (v, am_mm D (am_wp p I Q) J ρ) := by
  have e : am_wp p K Q = am_wp p I Q := by
    funext c i
    unfold am_wp
    cases h : p c i with
    | true => rfl
    | false => rw [if_neg (by decide), if_neg (by decide)]; exact hk c i h
  rw [e]
theorem sp_pl_k {L : List Nat} {k b : Nat} (h6 : L.length ≤ 6) (hn : L.Nodup) (hk : k < L.length) : sp_pl L (b : Int) = (k : Int) ↔ b = L[k] := by
  unfold sp_pl
  rcases sp_plf_p L b 0 (by omega) with h | ⟨j, h1, h2, h3⟩
  · constructor
    · intro e; omega
    · intro e; exact absurd (by rw [e]) (h.2 L[k] (List.getElem_mem hk))
  · rw [am_getD h1] at h2
    constructor
    · intro e
      have : j = k := by omega
      subst this
      omega
    · intro e
      have hjk : L[j] = L[k] := by omega
      have := am_nd_inj hn h1 hk hjk
      omega
theorem sp_pl_in {L : List Nat} {b : Nat} (h6 : L.length ≤ 6) : sp_pl L (b : Int) < 6 ↔ b ∈ L := by
  unfold sp_pl
  rcases sp_plf_p L b 0 (by omega) with h | ⟨j, h1, h2, h3⟩
  · constructor
    · intro e; omega
    · intro e; exact absurd rfl (h.2 b e)
  · rw [am_getD h1] at h2
    constructor
    · intro _; rw [show b = L[j] by omega]; exact List.getElem_mem h1
    · intro _; omega
def sp_scl (L : List Nat) (b way : Int) : Int := if L.length = 0 then 0 else if sp_pl L b < 6 then (if way = 0 then (if sp_pl L b < 2 then 1 else 0) else if way = 1 then (L.length : Int) - 1 - sp_pl L b else if sp_pl L b = 0 then 1 else 0) else 0
def sp_ahl (L : List Nat) (a b : Int) : Int := if sp_pl L a < sp_pl L b ∧ sp_pl L b < 6 then 1 else if sp_pl L b < sp_pl L a ∧ sp_pl L a < 6 then -1 else 0
def sp_ld2 (L : List Nat) (k j a b : Int) : Int := if sp_pl L a < sp_pl L b ∧ sp_pl L b < 6 ∧ (sp_pl L a < k ∨ (sp_pl L a = k ∧ sp_pl L b < j)) then 1 else if sp_pl L b < sp_pl L a ∧ sp_pl L a < 6 ∧ (sp_pl L b < k ∨ (sp_pl L b = k ∧ sp_pl L a < j)) then -1 else 0
def c_talQ (E Q : Nat → Nat → Int) (z : Int) (L : List Nat) : Prop := (∀ b, b < 6 → Q 87 b = E 87 b + z * sp_scl L b 0 ∧ Q 88 b = E 88 b + z * sp_scl L b 1 ∧ Q 89 b = E 89 b + z * sp_scl L b 2) ∧ ∀ a b, a < 6 → b < 6 → Q (91 + a) b = E (91 + a) b + z * sp_ahl L a b
theorem sp_scl_0 {L : List Nat} {b k : Int} (h6 : L.length ≤ 6) (h0 : ¬ L.length = 0) (hk : (L.length : Int) ≤ k + 1) : (if sp_pl L b ≤ k ∧ sp_pl L b < 2 then 1 else 0) = sp_scl L b 0 := by
  have bb := sp_pl_b (b := b) h6
  unfold sp_scl
  rw [if_neg h0]
  (repeat' split) <;> first | rfl | omega | (exfalso; omega)
theorem sp_scl_1 {L : List Nat} {b k : Int} (h6 : L.length ≤ 6) (h0 : ¬ L.length = 0) (hk : (L.length : Int) ≤ k + 1) (hk6 : k < (L.length : Int)) : (if sp_pl L b ≤ k then (L.length : Int) - 1 - sp_pl L b else 0) = sp_scl L b 1 := by
  have bb := sp_pl_b (b := b) h6
  unfold sp_scl
  rw [if_neg h0]
  (repeat' split) <;> first | rfl | omega | (exfalso; omega)
theorem sp_scl_2 {L : List Nat} {b : Int} (h6 : L.length ≤ 6) (h0 : ¬ L.length = 0) : (if sp_pl L b = 0 then 1 else 0) = sp_scl L b 2 := by
  have bb := sp_pl_b (b := b) h6
  unfold sp_scl
  rw [if_neg h0]
  (repeat' split) <;> first | rfl | omega | (exfalso; omega)
theorem sp_ld2_n {L : List Nat} {k a b : Int} (h6 : L.length ≤ 6) : sp_ld2 L k (L.length : Int) a b = sp_ld2 L (k + 1) (k + 1 + 1) a b := by
  have h1 := sp_pl_b (b := a) h6
  have h2 := sp_pl_b (b := b) h6
  unfold sp_ld2
  (repeat' split) <;> first | rfl | (exfalso; omega)
theorem sp_ld2_e {L : List Nat} {k a b : Int} (h6 : L.length ≤ 6) (hk : (L.length : Int) ≤ k + 1) : sp_ld2 L k (L.length : Int) a b = sp_ahl L a b := by
  have h1 := sp_pl_b (b := a) h6
  have h2 := sp_pl_b (b := b) h6
  unfold sp_ld2 sp_ahl
  (repeat' split) <;> first | rfl | (exfalso; omega)
theorem sp_ld2_0 {L : List Nat} {a b : Int} (h6 : L.length ≤ 6) : sp_ld2 L 0 1 a b = 0 := by
  have h1 := sp_pl_b (b := a) h6
  have h2 := sp_pl_b (b := b) h6
  unfold sp_ld2
  (repeat' split) <;> first | rfl | (exfalso; omega)
def uT : Nat → Nat → Bool := fun c i => Nat.beq c 87 || Nat.beq c 88 || Nat.beq c 89 || Nat.beq c 91 || Nat.beq c 92 || Nat.beq c 93 || Nat.beq c 94 || Nat.beq c 95 || Nat.beq c 96
def uTc : Nat → Nat → Bool := fun c i => Nat.beq c 87 || Nat.beq c 88 || Nat.beq c 89 || Nat.beq c 91 || Nat.beq c 92 || Nat.beq c 93 || Nat.beq c 94 || Nat.beq c 95 || Nat.beq c 96 || (Nat.beq c 71 && (Nat.beq i 6))
theorem uT_uTc : ∀ c i, uT c i = true → uTc c i = true := by
  intro c i
  unfold uT uTc
  simp
  omega
theorem c_clear_l {X : Nat × (Nat → Int)} {D : List (Nat × Nat)} {I J : Nat → Nat → Int} {ρ : Nat → Nat → Option Nat} (d : Nat) {b j : Nat} (hb : b < 6) (hj : j ≤ 6) (z1 : ∀ x, x < b + 1 → I 87 x = 0 ∧ I 88 x = 0 ∧ I 89 x = 0) (z2 : ∀ x y, x < b → y < 6 → I (91 + x) y = 0) (z3 : ∀ y, y < j → I (91 + b) y = 0) (z0 : I 71 6 = 0) : am_E X d 74 36 [(2, .inl (j : Int)), (1, .inl (b : Int)), (0, .inr (.inr (.inl (some 71))))] [] (am_mm D I J ρ) (fun q => ∃ Q, q = (none, am_mm D (am_wp uTc I Q) J ρ) ∧ (∀ b, b < 6 → Q 87 b = 0 ∧ Q 88 b = 0 ∧ Q 89 b = 0) ∧ (∀ a b, a < 6 → b < 6 → Q (91 + a) b = 0) ∧ Q 71 6 = 0) := by
  refine am_e_ss 2 (q := (39, [(2, .inl (j : Int)), (1, .inl (b : Int)), (0, .inr (.inr (.inl (some 71))))], [.inl 6, .inl (j : Int)], (am_mm D I J ρ))) rfl ?_
  refine am_e_icmp2 rfl ⟨by omega, by omega⟩ ⟨by omega, by omega⟩ (fun (hw1 : 6 ≤ (j : Int)) => ?_) (fun (hw1 : ¬ (6 ≤ (j : Int))) => ?_)
  · show am_E _ _ _ 57 [(2, .inl (j : Int)), (1, .inl (b : Int)), (0, .inr (.inr (.inl (some 71))))] [] (am_mm D I J ρ) _
    refine am_e_ss 4 (q := (10, [(1, .inl ((b : Int) + 1)), (2, .inl (j : Int)), (0, .inr (.inr (.inl (some 71))))], [.inl 6, .inl ((b : Int) + 1)], (am_mm D I J ρ))) rfl ?_
    refine am_e_icmp2 rfl ⟨by omega, by omega⟩ ⟨by omega, by omega⟩ (fun (hw2 : 6 ≤ ((b : Int) + 1)) => ?_) (fun (hw2 : ¬ (6 ≤ ((b : Int) + 1))) => ?_)
    · show am_E _ _ _ 63 [(1, .inl ((b : Int) + 1)), (2, .inl (j : Int)), (0, .inr (.inr (.inl (some 71))))] [] (am_mm D I J ρ) _
      refine am_e_return rfl rfl ?_
      have eb : b = 5 := by omega
      subst eb
      refine ⟨I, am_r_wp uTc am_k_id, fun x hx => z1 x (by omega), fun x y hx hy => ?_, z0⟩
      by_cases e : x = 5
      · subst e; exact z3 y (by omega)
      · exact z2 x y (by omega) hy
    · show am_E _ _ _ 13 [(1, .inl ((b : Int) + 1)), (2, .inl (j : Int)), (0, .inr (.inr (.inl (some 71))))] [] (am_mm D I J ρ) _
      refine am_e_ss 4 (q := (19, [(1, .inl ((b : Int) + 1)), (2, .inl (j : Int)), (0, .inr (.inr (.inl (some 71))))], [.inl 0, .inl ((b : Int) + 1), .inr (.inr (.inl (some 87)))], (am_mm D I J ρ))) rfl ?_
      refine am_e_iastore (m := 6) rfl rfl (by omega) (by omega) (by omega) ?_
      show am_E _ _ _ 20 [(1, .inl ((b : Int) + 1)), (2, .inl (j : Int)), (0, .inr (.inr (.inl (some 71))))] [] (am_mm D (am_up I 87 (b + 1) 0) J ρ) _
      refine am_e_ss 4 (q := (26, [(1, .inl ((b : Int) + 1)), (2, .inl (j : Int)), (0, .inr (.inr (.inl (some 71))))], [.inl 0, .inl ((b : Int) + 1), .inr (.inr (.inl (some 88)))], (am_mm D (am_up I 87 (b + 1) 0) J ρ))) rfl ?_
      refine am_e_iastore (m := 6) rfl rfl (by omega) (by omega) (by omega) ?_
      show am_E _ _ _ 27 [(1, .inl ((b : Int) + 1)), (2, .inl (j : Int)), (0, .inr (.inr (.inl (some 71))))] [] (am_mm D (am_up (am_up I 87 (b + 1) 0) 88 (b + 1) 0) J ρ) _
      refine am_e_ss 4 (q := (33, [(1, .inl ((b : Int) + 1)), (2, .inl (j : Int)), (0, .inr (.inr (.inl (some 71))))], [.inl 0, .inl ((b : Int) + 1), .inr (.inr (.inl (some 89)))], (am_mm D (am_up (am_up I 87 (b + 1) 0) 88 (b + 1) 0) J ρ))) rfl ?_
      refine am_e_iastore (m := 6) rfl rfl (by omega) (by omega) (by omega) ?_
      show am_E _ _ _ 34 [(1, .inl ((b : Int) + 1)), (2, .inl (j : Int)), (0, .inr (.inr (.inl (some 71))))] [] (am_mm D (am_up (am_up (am_up I 87 (b + 1) 0) 88 (b + 1) 0) 89 (b + 1) 0) J ρ) _
      refine am_e_ss 2 (q := (36, [(2, .inl 0), (1, .inl ((b : Int) + 1)), (0, .inr (.inr (.inl (some 71))))], [], (am_mm D (am_up (am_up (am_up I 87 (b + 1) 0) 88 (b + 1) 0) 89 (b + 1) 0) J ρ))) rfl ?_
      have e1 : ∀ x, x < b + 2 → (am_up (am_up (am_up I 87 (b + 1) 0) 88 (b + 1) 0) 89 (b + 1) 0) 87 x = 0 ∧ (am_up (am_up (am_up I 87 (b + 1) 0) 88 (b + 1) 0) 89 (b + 1) 0) 88 x = 0 ∧ (am_up (am_up (am_up I 87 (b + 1) 0) 88 (b + 1) 0) 89 (b + 1) 0) 89 x = 0 := by
        intro x hx
        by_cases e : x = b + 1
        · subst e; exact ⟨(am_up_ne2 (by omega)).trans ((am_up_ne2 (by omega)).trans am_up_at2), (am_up_ne2 (by omega)).trans am_up_at2, am_up_at2⟩
        · have h := z1 x (by omega)
          exact ⟨((am_up_ne2 (by omega)).trans ((am_up_ne2 (by omega)).trans (am_up_ne2 (by omega)))).trans h.1, ((am_up_ne2 (by omega)).trans ((am_up_ne2 (by omega)).trans (am_up_ne2 (by omega)))).trans h.2.1, ((am_up_ne2 (by omega)).trans ((am_up_ne2 (by omega)).trans (am_up_ne2 (by omega)))).trans h.2.2⟩
      have e2 : ∀ x y, x < b + 1 → y < 6 → (am_up (am_up (am_up I 87 (b + 1) 0) 88 (b + 1) 0) 89 (b + 1) 0) (91 + x) y = 0 := by
        intro x y hx hy
        refine ((am_up_ne2 (by omega)).trans ((am_up_ne2 (by omega)).trans (am_up_ne2 (by omega)))).trans ?_
        by_cases e : x = b
        · subst e; exact z3 y (by omega)
        · exact z2 x y (by omega) hy
      refine (am_less (lv := [(2, .inl (0 : Int)), (1, .inl ((b + 1) : Int)), (0, .inr (.inr (.inl (some 71))))]) rfl (List.forall_mem_cons.mpr ⟨rfl, List.forall_mem_cons.mpr ⟨rfl, List.forall_mem_cons.mpr ⟨rfl, List.forall_mem_nil _⟩⟩⟩) (c_clear_l (I := am_up (am_up (am_up I 87 (b + 1) 0) 88 (b + 1) 0) 89 (b + 1) 0) d (b := b + 1) (j := 0) (by omega) (by omega) e1 e2 (fun y hy => by omega) z0)).imp ?_
      rintro q ⟨Q9, rfl, h9⟩
      exact ⟨Q9, am_r_wk uTc (am_k_up rfl (am_k_up rfl (am_k_up rfl (am_k_id)))), h9⟩
  · show am_E _ _ _ 42 [(2, .inl (j : Int)), (1, .inl (b : Int)), (0, .inr (.inr (.inl (some 71))))] [] (am_mm D I J ρ) _
    refine am_e_ss 3 (q := (47, [(2, .inl (j : Int)), (1, .inl (b : Int)), (0, .inr (.inr (.inl (some 71))))], [.inl (b : Int), .inr (.inr (.inl (some 90)))], (am_mm D I J ρ))) rfl ?_
    refine am_e_aaload (m := 6) (c := 23) rfl rfl (by decide) (by omega) (by omega) (by omega) ?_
    rw [show ((am_mm D I J ρ)).2.2.2 90 ((b : Int)).toNat = some (91 + b) from (am_r90 (ρ := ρ) (by omega))]
    show am_E _ _ _ 48 [(2, .inl (j : Int)), (1, .inl (b : Int)), (0, .inr (.inr (.inl (some 71))))] [.inr (.inr (.inl (some (91 + b))))] (am_mm D I J ρ) _
    refine am_e_ss 2 (q := (50, [(2, .inl (j : Int)), (1, .inl (b : Int)), (0, .inr (.inr (.inl (some 71))))], [.inl 0, .inl (j : Int), .inr (.inr (.inl (some (91 + b))))], (am_mm D I J ρ))) rfl ?_
    refine am_e_iastore (m := 6) rfl (am_k91 (by omega)) (by omega) (by omega) (by omega) ?_
    show am_E _ _ _ 51 [(2, .inl (j : Int)), (1, .inl (b : Int)), (0, .inr (.inr (.inl (some 71))))] [] (am_mm D (am_up I (91 + b) j 0) J ρ) _
    refine am_e_ss 2 (q := (36, [(2, .inl ((j : Int) + 1)), (1, .inl (b : Int)), (0, .inr (.inr (.inl (some 71))))], [], (am_mm D (am_up I (91 + b) j 0) J ρ))) rfl ?_
    have e1 : ∀ x, x < b + 1 → (am_up I (91 + b) j 0) 87 x = 0 ∧ (am_up I (91 + b) j 0) 88 x = 0 ∧ (am_up I (91 + b) j 0) 89 x = 0 := fun x hx => ⟨(am_up_ne2 (by omega)).trans (z1 x hx).1, (am_up_ne2 (by omega)).trans (z1 x hx).2.1, (am_up_ne2 (by omega)).trans (z1 x hx).2.2⟩
    have e2 : ∀ x y, x < b → y < 6 → (am_up I (91 + b) j 0) (91 + x) y = 0 := fun x y hx hy => (am_up_ne2 (by omega)).trans (z2 x y hx hy)
    have e3 : ∀ y, y < j + 1 → (am_up I (91 + b) j 0) (91 + b) y = 0 := by
      intro y hy
      by_cases e : y = j
      · subst e; exact am_up_at2
      · exact (am_up_ne2 (by omega)).trans (z3 y (by omega))
    refine (am_less (lv := [(2, .inl ((j + 1) : Int)), (1, .inl (b : Int)), (0, .inr (.inr (.inl (some 71))))]) rfl (List.forall_mem_cons.mpr ⟨rfl, List.forall_mem_cons.mpr ⟨rfl, List.forall_mem_cons.mpr ⟨rfl, List.forall_mem_nil _⟩⟩⟩) (c_clear_l (I := am_up I (91 + b) j 0) d (b := b) (j := j + 1) hb (by omega) e1 e2 e3 ((am_up_ne2 (by omega)).trans z0))).imp ?_
    rintro q ⟨Q9, rfl, h9⟩
    exact ⟨Q9, am_r_wk uTc (am_k_up (by unfold uTc; simp; omega) (am_k_id)), h9⟩
termination_by (8 * (7 - b) + (7 - j))
decreasing_by all_goals omega
theorem c_clear {X : Nat × (Nat → Int)} {D : List (Nat × Nat)} {I J : Nat → Nat → Int} {ρ : Nat → Nat → Option Nat} (d : Nat)  : am_E X d 74 0 [(0, .inr (.inr (.inl (some 71))))] [] (am_mm D I J ρ) (fun q => ∃ Q, q = (none, am_mm D (am_wp uTc I Q) J ρ) ∧ (∀ b, b < 6 → Q 87 b = 0 ∧ Q 88 b = 0 ∧ Q 89 b = 0) ∧ (∀ a b, a < 6 → b < 6 → Q (91 + a) b = 0) ∧ Q 71 6 = 0) := by
  refine am_e_ss 7 (q := (10, [(1, .inl 0), (0, .inr (.inr (.inl (some 71))))], [.inl 6, .inl 0], (am_mm D (am_up I 71 6 0) J ρ))) rfl ?_
  refine am_e_s (q := (13, [(1, .inl 0), (0, .inr (.inr (.inl (some 71))))], [], (am_mm D (am_up I 71 6 0) J ρ))) rfl rfl ?_
  refine am_e_ss 17 (q := (36, [(2, .inl 0), (1, .inl 0), (0, .inr (.inr (.inl (some 71))))], [], (am_mm D (am_up (am_up (am_up (am_up I 71 6 0) 87 0 0) 88 0 0) 89 0 0) J ρ))) rfl ?_
  have e1 : ∀ x, x < 0 + 1 → (am_up (am_up (am_up (am_up I 71 6 0) 87 0 0) 88 0 0) 89 0 0) 87 x = 0 ∧ (am_up (am_up (am_up (am_up I 71 6 0) 87 0 0) 88 0 0) 89 0 0) 88 x = 0 ∧ (am_up (am_up (am_up (am_up I 71 6 0) 87 0 0) 88 0 0) 89 0 0) 89 x = 0 := by
    intro x hx
    have : x = 0 := by omega
    subst this
    exact ⟨rfl, rfl, rfl⟩
  refine (am_less (lv := [(2, .inl (0 : Int)), (1, .inl (0 : Int)), (0, .inr (.inr (.inl (some 71))))]) rfl (List.forall_mem_cons.mpr ⟨rfl, List.forall_mem_cons.mpr ⟨rfl, List.forall_mem_cons.mpr ⟨rfl, List.forall_mem_nil _⟩⟩⟩) (c_clear_l (I := am_up (am_up (am_up (am_up I 71 6 0) 87 0 0) 88 0 0) 89 0 0) d (b := 0) (j := 0) (by omega) (by omega) e1 (fun x y hx => by omega) (fun y hy => by omega) rfl)).imp ?_
  rintro q ⟨Q9, rfl, h9⟩
  exact ⟨Q9, am_r_wk uTc (am_k_up rfl (am_k_up rfl (am_k_up rfl (am_k_up rfl (am_k_id))))), h9⟩
theorem c_tally_81_l {X : Nat × (Nat → Int)} {D : List (Nat × Nat)} {I J : Nat → Nat → Int} {ρ : Nat → Nat → Option Nat} (d : Nat) {E : Nat → Nat → Int} {z : Int} {L : List Nat} (hz : z = 1 ∨ z = -1) (h71 : I 71 3 = (L.length : Int)) (h6 : L.length ≤ 6) (hn : L.Nodup) (hx6 : ∀ x ∈ L, x < 6) (hrow : am_rowl (I 81) 0 L) {y : Int} {k j x : Nat} (hk : k < L.length) (hj : k < j ∧ j ≤ L.length) (hx : x = L[k]) (hyx : y = (x : Int)) (p87 : ∀ b : Nat, b < 6 → I 87 b = E 87 b + z * (if sp_pl L (b : Int) ≤ (k : Int) ∧ sp_pl L (b : Int) < 2 then 1 else 0)) (p88 : ∀ b : Nat, b < 6 → I 88 b = E 88 b + z * (if sp_pl L (b : Int) ≤ (k : Int) then (L.length : Int) - 1 - sp_pl L (b : Int) else 0)) (p89 : ∀ b : Nat, b < 6 → I 89 b = E 89 b + z * (if sp_pl L (b : Int) = 0 then 1 else 0)) (pld : ∀ a b : Nat, a < 6 → b < 6 → I (91 + a) b = E (91 + a) b + z * sp_ld2 L (k : Int) (j : Int) a b) : am_E X d 76 71 [(5, .inl (j : Int)), (4, .inl y), (3, .inl (k : Int)), (2, .inl z), (1, .inr (.inr (.inl (some 81)))), (0, .inr (.inr (.inl (some 71))))] [] (am_mm D I J ρ) (fun q => ∃ Q, q = (none, am_mm D (am_wp uT I Q) J ρ) ∧ c_talQ E Q z L) := by
  have hx61 : x < 6 := by rw [hx]; exact hx6 _ (List.getElem_mem _)
  refine am_e_ss 3 (q := (77, [(5, .inl (j : Int)), (4, .inl y), (3, .inl (k : Int)), (2, .inl z), (1, .inr (.inr (.inl (some 81)))), (0, .inr (.inr (.inl (some 71))))], [.inl ((I 71 3)), .inl (j : Int)], (am_mm D I J ρ))) rfl ?_
  refine am_e_icmp2 rfl ⟨by omega, by omega⟩ ⟨by omega, by omega⟩ (fun (hw1 : (I 71 3) ≤ (j : Int)) => ?_) (fun (hw1 : ¬ ((I 71 3) ≤ (j : Int))) => ?_)
  · show am_E _ _ _ 118 [(5, .inl (j : Int)), (4, .inl y), (3, .inl (k : Int)), (2, .inl z), (1, .inr (.inr (.inl (some 81)))), (0, .inr (.inr (.inl (some 71))))] [] (am_mm D I J ρ) _
    refine am_e_ss 5 (q := (7, [(3, .inl ((k : Int) + 1)), (5, .inl (j : Int)), (4, .inl y), (2, .inl z), (1, .inr (.inr (.inl (some 81)))), (0, .inr (.inr (.inl (some 71))))], [.inl ((I 71 3)), .inl ((k : Int) + 1)], (am_mm D I J ρ))) rfl ?_
    refine am_e_icmp2 rfl ⟨by omega, by omega⟩ ⟨by omega, by omega⟩ (fun (hw2 : (I 71 3) ≤ ((k : Int) + 1)) => ?_) (fun (hw2 : ¬ ((I 71 3) ≤ ((k : Int) + 1))) => ?_)
    · show am_E _ _ _ 124 [(3, .inl ((k : Int) + 1)), (5, .inl (j : Int)), (4, .inl y), (2, .inl z), (1, .inr (.inr (.inl (some 81)))), (0, .inr (.inr (.inl (some 71))))] [] (am_mm D I J ρ) _
      refine am_e_return rfl rfl ?_
      have ej : j = L.length := by omega
      refine ⟨I, am_r_wp uT am_k_id, ?_, ?_⟩
      · intro b hb
        have bb := sp_pl_b (b := (b : Int)) h6
        rw [p87 b hb, p88 b hb, p89 b hb, sp_scl_0 h6 (by omega) (by omega), sp_scl_1 h6 (by omega) (by omega) (by omega), sp_scl_2 h6 (by omega)]
        exact ⟨rfl, rfl, rfl⟩
      · intro a b ha hb
        rw [pld a b ha hb, ej, sp_ld2_e h6 (by omega)]
    · show am_E _ _ _ 10 [(3, .inl ((k : Int) + 1)), (5, .inl (j : Int)), (4, .inl y), (2, .inl z), (1, .inr (.inr (.inl (some 81)))), (0, .inr (.inr (.inl (some 71))))] [] (am_mm D I J ρ) _
      have hru := hrow (k + 1) _ (List.getElem?_eq_getElem (show k + 1 < L.length by omega))
      rw [Nat.zero_add] at hru
      have hru6 := hx6 _ (List.getElem_mem (show k + 1 < L.length by omega))
      refine am_e_ss 2 (q := (12, [(3, .inl ((k : Int) + 1)), (5, .inl (j : Int)), (4, .inl y), (2, .inl z), (1, .inr (.inr (.inl (some 81)))), (0, .inr (.inr (.inl (some 71))))], [.inl ((k : Int) + 1), .inr (.inr (.inl (some 81)))], (am_mm D I J ρ))) rfl ?_
      refine am_e_iaload (m := 6) rfl rfl (by omega) (by omega) (by omega) ?_
      show am_E _ _ _ 13 [(3, .inl ((k : Int) + 1)), (5, .inl (j : Int)), (4, .inl y), (2, .inl z), (1, .inr (.inr (.inl (some 81)))), (0, .inr (.inr (.inl (some 71))))] [.inl ((I 81 (k + 1)))] (am_mm D I J ρ) _
      refine am_e_ss 5 (q := (22, [(4, .inl ((I 81 (k + 1)))), (3, .inl ((k : Int) + 1)), (5, .inl (j : Int)), (2, .inl z), (1, .inr (.inr (.inl (some 81)))), (0, .inr (.inr (.inl (some 71))))], [.inl ((I 81 (k + 1))), .inr (.inr (.inl (some 88))), .inl ((I 81 (k + 1))), .inr (.inr (.inl (some 88)))], (am_mm D I J ρ))) rfl ?_
      refine am_e_iaload (m := 6) rfl rfl (by omega) (by omega) (by omega) ?_
      show am_E _ _ _ 23 [(4, .inl ((I 81 (k + 1)))), (3, .inl ((k : Int) + 1)), (5, .inl (j : Int)), (2, .inl z), (1, .inr (.inr (.inl (some 81)))), (0, .inr (.inr (.inl (some 71))))] [.inl ((I 88 ((I 81 (k + 1))).toNat)), .inl ((I 81 (k + 1))), .inr (.inr (.inl (some 88)))] (am_mm D I J ρ) _
      refine am_e_ss 9 (q := (34, [(4, .inl ((I 81 (k + 1)))), (3, .inl ((k : Int) + 1)), (5, .inl (j : Int)), (2, .inl z), (1, .inr (.inr (.inl (some 81)))), (0, .inr (.inr (.inl (some 71))))], [.inl ((I 88 ((I 81 (k + 1))).toNat) + (z * (((I 71 3) - 1) - ((k : Int) + 1)))), .inl ((I 81 (k + 1))), .inr (.inr (.inl (some 88)))], (am_mm D I J ρ))) rfl ?_
      refine am_e_iastore (m := 6) rfl rfl (by omega) (by omega) (by omega) ?_
      show am_E _ _ _ 35 [(4, .inl ((I 81 (k + 1)))), (3, .inl ((k : Int) + 1)), (5, .inl (j : Int)), (2, .inl z), (1, .inr (.inr (.inl (some 81)))), (0, .inr (.inr (.inl (some 71))))] [] (am_mm D (am_up I 88 ((I 81 (k + 1))).toNat ((I 88 ((I 81 (k + 1))).toNat) + (z * (((I 71 3) - 1) - ((k : Int) + 1))))) J ρ) _
      refine am_e_ss 1 (q := (36, [(4, .inl ((I 81 (k + 1)))), (3, .inl ((k : Int) + 1)), (5, .inl (j : Int)), (2, .inl z), (1, .inr (.inr (.inl (some 81)))), (0, .inr (.inr (.inl (some 71))))], [.inl ((k : Int) + 1)], (am_mm D (am_up I 88 ((I 81 (k + 1))).toNat ((I 88 ((I 81 (k + 1))).toNat) + (z * (((I 71 3) - 1) - ((k : Int) + 1))))) J ρ))) rfl ?_
      refine am_e_if2 rfl ⟨by omega, by omega⟩ (fun (hw3 : ¬ ((k : Int) + 1) = 0) => ?_) (fun (hw3 : ¬ (¬ ((k : Int) + 1) = 0)) => ?_)
      · show am_E _ _ _ 50 [(4, .inl ((I 81 (k + 1)))), (3, .inl ((k : Int) + 1)), (5, .inl (j : Int)), (2, .inl z), (1, .inr (.inr (.inl (some 81)))), (0, .inr (.inr (.inl (some 71))))] [] (am_mm D (am_up I 88 ((I 81 (k + 1))).toNat ((I 88 ((I 81 (k + 1))).toNat) + (z * (((I 71 3) - 1) - ((k : Int) + 1))))) J ρ) _
        refine am_e_ss 2 (q := (52, [(4, .inl ((I 81 (k + 1)))), (3, .inl ((k : Int) + 1)), (5, .inl (j : Int)), (2, .inl z), (1, .inr (.inr (.inl (some 81)))), (0, .inr (.inr (.inl (some 71))))], [.inl 2, .inl ((k : Int) + 1)], (am_mm D (am_up I 88 ((I 81 (k + 1))).toNat ((I 88 ((I 81 (k + 1))).toNat) + (z * (((I 71 3) - 1) - ((k : Int) + 1))))) J ρ))) rfl ?_
        refine am_e_icmp2 rfl ⟨by omega, by omega⟩ ⟨by omega, by omega⟩ (fun (hw4 : 2 ≤ ((k : Int) + 1)) => ?_) (fun (hw4 : ¬ (2 ≤ ((k : Int) + 1))) => ?_)
        · show am_E _ _ _ 66 [(4, .inl ((I 81 (k + 1)))), (3, .inl ((k : Int) + 1)), (5, .inl (j : Int)), (2, .inl z), (1, .inr (.inr (.inl (some 81)))), (0, .inr (.inr (.inl (some 71))))] [] (am_mm D (am_up I 88 ((I 81 (k + 1))).toNat ((I 88 ((I 81 (k + 1))).toNat) + (z * (((I 71 3) - 1) - ((k : Int) + 1))))) J ρ) _
          refine am_e_ss 4 (q := (71, [(5, .inl (((k : Int) + 1) + 1)), (4, .inl ((I 81 (k + 1)))), (3, .inl ((k : Int) + 1)), (2, .inl z), (1, .inr (.inr (.inl (some 81)))), (0, .inr (.inr (.inl (some 71))))], [], (am_mm D (am_up I 88 ((I 81 (k + 1))).toNat ((I 88 ((I 81 (k + 1))).toNat) + (z * (((I 71 3) - 1) - ((k : Int) + 1))))) J ρ))) rfl ?_
          have ej : j = L.length := by omega
          subst ej
          have hk2 : k + 1 < L.length := by omega
          obtain ⟨u, hu⟩ : ∃ u, u = L[(k + 1)] := ⟨_, rfl⟩
          have huy := hrow (k + 1) _ (List.getElem?_eq_getElem hk2)
          rw [Nat.zero_add, ← hu] at huy
          have hu6 : u < 6 := by rw [hu]; exact hx6 _ (List.getElem_mem _)
          have huk := fun b : Nat => sp_pl_k (b := b) h6 hn hk2
          have eu : ((I 81 (k + 1))).toNat = u := by omega
          have e7 : ∀ b : Nat, b < 6 → (am_up I 88 ((I 81 (k + 1))).toNat ((I 88 ((I 81 (k + 1))).toNat) + (z * (((I 71 3) - 1) - ((k : Int) + 1))))) 87 b = E 87 b + z * (if sp_pl L (b : Int) ≤ ((k + 1 : Nat) : Int) ∧ sp_pl L (b : Int) < 2 then 1 else 0) := by
            intro b hb
            have bb := sp_pl_b (b := (b : Int)) h6
            have ub := huk b
            rw [← hu] at ub
            have ob := p87 b hb
            rw [show (am_up I 88 ((I 81 (k + 1))).toNat ((I 88 ((I 81 (k + 1))).toNat) + (z * (((I 71 3) - 1) - ((k : Int) + 1))))) 87 b = I 87 b from (am_up_ne2 (by omega))]
            rcases hz with rfl | rfl <;> (repeat' split at *) <;> first | omega | (exfalso; omega)
          have e8 : ∀ b : Nat, b < 6 → (am_up I 88 ((I 81 (k + 1))).toNat ((I 88 ((I 81 (k + 1))).toNat) + (z * (((I 71 3) - 1) - ((k : Int) + 1))))) 88 b = E 88 b + z * (if sp_pl L (b : Int) ≤ ((k + 1 : Nat) : Int) then (L.length : Int) - 1 - sp_pl L (b : Int) else 0) := by
            intro b hb
            have bb := sp_pl_b (b := (b : Int)) h6
            have ub := huk b
            rw [← hu] at ub
            have ob := p88 b hb
            by_cases e : b = u
            · subst e
              have hb1 := ub.mpr rfl
              rw [show (am_up I 88 ((I 81 (k + 1))).toNat ((I 88 ((I 81 (k + 1))).toNat) + (z * (((I 71 3) - 1) - ((k : Int) + 1))))) 88 b = ((I 88 ((I 81 (k + 1))).toNat) + (z * (((I 71 3) - 1) - ((k : Int) + 1)))) from (by rw [← eu]; exact am_up_at2), eu]
              rcases hz with rfl | rfl <;> (repeat' split at *) <;> first | omega | (exfalso; omega)
            · rw [show (am_up I 88 ((I 81 (k + 1))).toNat ((I 88 ((I 81 (k + 1))).toNat) + (z * (((I 71 3) - 1) - ((k : Int) + 1))))) 88 b = I 88 b from (am_up_ne2 (by omega))]
              rcases hz with rfl | rfl <;> (repeat' split at *) <;> first | omega | (exfalso; omega)
          have e9 : ∀ b : Nat, b < 6 → (am_up I 88 ((I 81 (k + 1))).toNat ((I 88 ((I 81 (k + 1))).toNat) + (z * (((I 71 3) - 1) - ((k : Int) + 1))))) 89 b = E 89 b + z * (if sp_pl L (b : Int) = 0 then 1 else 0) := by
            intro b hb
            have bb := sp_pl_b (b := (b : Int)) h6
            have ub := huk b
            rw [← hu] at ub
            have ob := p89 b hb
            rw [show (am_up I 88 ((I 81 (k + 1))).toNat ((I 88 ((I 81 (k + 1))).toNat) + (z * (((I 71 3) - 1) - ((k : Int) + 1))))) 89 b = I 89 b from (am_up_ne2 (by omega))]
            rcases hz with rfl | rfl <;> (repeat' split at *) <;> first | omega | (exfalso; omega)
          have e4 : ∀ a b : Nat, a < 6 → b < 6 → (am_up I 88 ((I 81 (k + 1))).toNat ((I 88 ((I 81 (k + 1))).toNat) + (z * (((I 71 3) - 1) - ((k : Int) + 1))))) (91 + a) b = E (91 + a) b + z * sp_ld2 L ((k + 1 : Nat) : Int) ((k + 1 + 1 : Nat) : Int) a b := by
            intro a b ha hb
            rw [show (am_up I 88 ((I 81 (k + 1))).toNat ((I 88 ((I 81 (k + 1))).toNat) + (z * (((I 71 3) - 1) - ((k : Int) + 1))))) (91 + a) b = I (91 + a) b from (am_up_ne2 (by omega)), pld a b ha hb, sp_ld2_n h6]
            rfl
          refine (am_less (lv := [(5, .inl (((k + 1) + 1) : Int)), (4, .inl ((I 81 (k + 1)))), (3, .inl ((k + 1) : Int)), (2, .inl z), (1, .inr (.inr (.inl (some 81)))), (0, .inr (.inr (.inl (some 71))))]) rfl (List.forall_mem_cons.mpr ⟨rfl, List.forall_mem_cons.mpr ⟨rfl, List.forall_mem_cons.mpr ⟨rfl, List.forall_mem_cons.mpr ⟨rfl, List.forall_mem_cons.mpr ⟨rfl, List.forall_mem_cons.mpr ⟨rfl, List.forall_mem_nil _⟩⟩⟩⟩⟩⟩) (c_tally_81_l (I := am_up I 88 ((I 81 (k + 1))).toNat ((I 88 ((I 81 (k + 1))).toNat) + (z * (((I 71 3) - 1) - ((k : Int) + 1))))) d (E := E) (k := (k + 1)) (j := (k + 1) + 1) (x := u) hz h71 h6 hn hx6 hrow hk2 (by omega) hu huy e7 e8 e9 e4)).imp ?_
          rintro q ⟨Q9, rfl, h9⟩
          exact ⟨Q9, am_r_wk uT (am_k_up rfl (am_k_id)), h9⟩
        · show am_E _ _ _ 55 [(4, .inl ((I 81 (k + 1)))), (3, .inl ((k : Int) + 1)), (5, .inl (j : Int)), (2, .inl z), (1, .inr (.inr (.inl (some 81)))), (0, .inr (.inr (.inl (some 71))))] [] (am_mm D (am_up I 88 ((I 81 (k + 1))).toNat ((I 88 ((I 81 (k + 1))).toNat) + (z * (((I 71 3) - 1) - ((k : Int) + 1))))) J ρ) _
          refine am_e_ss 4 (q := (62, [(4, .inl ((I 81 (k + 1)))), (3, .inl ((k : Int) + 1)), (5, .inl (j : Int)), (2, .inl z), (1, .inr (.inr (.inl (some 81)))), (0, .inr (.inr (.inl (some 71))))], [.inl ((I 81 (k + 1))), .inr (.inr (.inl (some 87))), .inl ((I 81 (k + 1))), .inr (.inr (.inl (some 87)))], (am_mm D (am_up I 88 ((I 81 (k + 1))).toNat ((I 88 ((I 81 (k + 1))).toNat) + (z * (((I 71 3) - 1) - ((k : Int) + 1))))) J ρ))) rfl ?_
          refine am_e_iaload (m := 6) rfl rfl (by omega) (by omega) (by omega) ?_
          show am_E _ _ _ 63 [(4, .inl ((I 81 (k + 1)))), (3, .inl ((k : Int) + 1)), (5, .inl (j : Int)), (2, .inl z), (1, .inr (.inr (.inl (some 81)))), (0, .inr (.inr (.inl (some 71))))] [.inl ((I 87 ((I 81 (k + 1))).toNat)), .inl ((I 81 (k + 1))), .inr (.inr (.inl (some 87)))] (am_mm D (am_up I 88 ((I 81 (k + 1))).toNat ((I 88 ((I 81 (k + 1))).toNat) + (z * (((I 71 3) - 1) - ((k : Int) + 1))))) J ρ) _
          refine am_e_ss 2 (q := (65, [(4, .inl ((I 81 (k + 1)))), (3, .inl ((k : Int) + 1)), (5, .inl (j : Int)), (2, .inl z), (1, .inr (.inr (.inl (some 81)))), (0, .inr (.inr (.inl (some 71))))], [.inl ((I 87 ((I 81 (k + 1))).toNat) + z), .inl ((I 81 (k + 1))), .inr (.inr (.inl (some 87)))], (am_mm D (am_up I 88 ((I 81 (k + 1))).toNat ((I 88 ((I 81 (k + 1))).toNat) + (z * (((I 71 3) - 1) - ((k : Int) + 1))))) J ρ))) rfl ?_
          refine am_e_iastore (m := 6) rfl rfl (by omega) (by omega) (by omega) ?_
          show am_E _ _ _ 66 [(4, .inl ((I 81 (k + 1)))), (3, .inl ((k : Int) + 1)), (5, .inl (j : Int)), (2, .inl z), (1, .inr (.inr (.inl (some 81)))), (0, .inr (.inr (.inl (some 71))))] [] (am_mm D (am_up (am_up I 88 ((I 81 (k + 1))).toNat ((I 88 ((I 81 (k + 1))).toNat) + (z * (((I 71 3) - 1) - ((k : Int) + 1))))) 87 ((I 81 (k + 1))).toNat ((I 87 ((I 81 (k + 1))).toNat) + z)) J ρ) _
          refine am_e_ss 4 (q := (71, [(5, .inl (((k : Int) + 1) + 1)), (4, .inl ((I 81 (k + 1)))), (3, .inl ((k : Int) + 1)), (2, .inl z), (1, .inr (.inr (.inl (some 81)))), (0, .inr (.inr (.inl (some 71))))], [], (am_mm D (am_up (am_up I 88 ((I 81 (k + 1))).toNat ((I 88 ((I 81 (k + 1))).toNat) + (z * (((I 71 3) - 1) - ((k : Int) + 1))))) 87 ((I 81 (k + 1))).toNat ((I 87 ((I 81 (k + 1))).toNat) + z)) J ρ))) rfl ?_
          have ej : j = L.length := by omega
          subst ej
          have hk2 : k + 1 < L.length := by omega
          obtain ⟨u, hu⟩ : ∃ u, u = L[(k + 1)] := ⟨_, rfl⟩
          have huy := hrow (k + 1) _ (List.getElem?_eq_getElem hk2)
          rw [Nat.zero_add, ← hu] at huy
          have hu6 : u < 6 := by rw [hu]; exact hx6 _ (List.getElem_mem _)
          have huk := fun b : Nat => sp_pl_k (b := b) h6 hn hk2
          have eu : ((I 81 (k + 1))).toNat = u := by omega
          have e7 : ∀ b : Nat, b < 6 → (am_up (am_up I 88 ((I 81 (k + 1))).toNat ((I 88 ((I 81 (k + 1))).toNat) + (z * (((I 71 3) - 1) - ((k : Int) + 1))))) 87 ((I 81 (k + 1))).toNat ((I 87 ((I 81 (k + 1))).toNat) + z)) 87 b = E 87 b + z * (if sp_pl L (b : Int) ≤ ((k + 1 : Nat) : Int) ∧ sp_pl L (b : Int) < 2 then 1 else 0) := by
            intro b hb
            have bb := sp_pl_b (b := (b : Int)) h6
            have ub := huk b
            rw [← hu] at ub
            have ob := p87 b hb
            by_cases e : b = u
            · subst e
              have hb1 := ub.mpr rfl
              rw [show (am_up (am_up I 88 ((I 81 (k + 1))).toNat ((I 88 ((I 81 (k + 1))).toNat) + (z * (((I 71 3) - 1) - ((k : Int) + 1))))) 87 ((I 81 (k + 1))).toNat ((I 87 ((I 81 (k + 1))).toNat) + z)) 87 b = ((I 87 ((I 81 (k + 1))).toNat) + z) from (by rw [← eu]; exact am_up_at2), eu]
              rcases hz with rfl | rfl <;> (repeat' split at *) <;> first | omega | (exfalso; omega)
            · rw [show (am_up (am_up I 88 ((I 81 (k + 1))).toNat ((I 88 ((I 81 (k + 1))).toNat) + (z * (((I 71 3) - 1) - ((k : Int) + 1))))) 87 ((I 81 (k + 1))).toNat ((I 87 ((I 81 (k + 1))).toNat) + z)) 87 b = I 87 b from (am_up_ne2 (by omega)).trans ((am_up_ne2 (by omega)))]
              rcases hz with rfl | rfl <;> (repeat' split at *) <;> first | omega | (exfalso; omega)
          have e8 : ∀ b : Nat, b < 6 → (am_up (am_up I 88 ((I 81 (k + 1))).toNat ((I 88 ((I 81 (k + 1))).toNat) + (z * (((I 71 3) - 1) - ((k : Int) + 1))))) 87 ((I 81 (k + 1))).toNat ((I 87 ((I 81 (k + 1))).toNat) + z)) 88 b = E 88 b + z * (if sp_pl L (b : Int) ≤ ((k + 1 : Nat) : Int) then (L.length : Int) - 1 - sp_pl L (b : Int) else 0) := by
            intro b hb
            have bb := sp_pl_b (b := (b : Int)) h6
            have ub := huk b
            rw [← hu] at ub
            have ob := p88 b hb
            by_cases e : b = u
            · subst e
              have hb1 := ub.mpr rfl
              rw [show (am_up (am_up I 88 ((I 81 (k + 1))).toNat ((I 88 ((I 81 (k + 1))).toNat) + (z * (((I 71 3) - 1) - ((k : Int) + 1))))) 87 ((I 81 (k + 1))).toNat ((I 87 ((I 81 (k + 1))).toNat) + z)) 88 b = ((I 88 ((I 81 (k + 1))).toNat) + (z * (((I 71 3) - 1) - ((k : Int) + 1)))) from (am_up_ne2 (by omega)).trans ((by rw [← eu]; exact am_up_at2)), eu]
              rcases hz with rfl | rfl <;> (repeat' split at *) <;> first | omega | (exfalso; omega)
            · rw [show (am_up (am_up I 88 ((I 81 (k + 1))).toNat ((I 88 ((I 81 (k + 1))).toNat) + (z * (((I 71 3) - 1) - ((k : Int) + 1))))) 87 ((I 81 (k + 1))).toNat ((I 87 ((I 81 (k + 1))).toNat) + z)) 88 b = I 88 b from (am_up_ne2 (by omega)).trans ((am_up_ne2 (by omega)))]
              rcases hz with rfl | rfl <;> (repeat' split at *) <;> first | omega | (exfalso; omega)
          have e9 : ∀ b : Nat, b < 6 → (am_up (am_up I 88 ((I 81 (k + 1))).toNat ((I 88 ((I 81 (k + 1))).toNat) + (z * (((I 71 3) - 1) - ((k : Int) + 1))))) 87 ((I 81 (k + 1))).toNat ((I 87 ((I 81 (k + 1))).toNat) + z)) 89 b = E 89 b + z * (if sp_pl L (b : Int) = 0 then 1 else 0) := by
            intro b hb
            have bb := sp_pl_b (b := (b : Int)) h6
            have ub := huk b
            rw [← hu] at ub
            have ob := p89 b hb
            rw [show (am_up (am_up I 88 ((I 81 (k + 1))).toNat ((I 88 ((I 81 (k + 1))).toNat) + (z * (((I 71 3) - 1) - ((k : Int) + 1))))) 87 ((I 81 (k + 1))).toNat ((I 87 ((I 81 (k + 1))).toNat) + z)) 89 b = I 89 b from (am_up_ne2 (by omega)).trans ((am_up_ne2 (by omega)))]
            rcases hz with rfl | rfl <;> (repeat' split at *) <;> first | omega | (exfalso; omega)
          have e4 : ∀ a b : Nat, a < 6 → b < 6 → (am_up (am_up I 88 ((I 81 (k + 1))).toNat ((I 88 ((I 81 (k + 1))).toNat) + (z * (((I 71 3) - 1) - ((k : Int) + 1))))) 87 ((I 81 (k + 1))).toNat ((I 87 ((I 81 (k + 1))).toNat) + z)) (91 + a) b = E (91 + a) b + z * sp_ld2 L ((k + 1 : Nat) : Int) ((k + 1 + 1 : Nat) : Int) a b := by
            intro a b ha hb
            rw [show (am_up (am_up I 88 ((I 81 (k + 1))).toNat ((I 88 ((I 81 (k + 1))).toNat) + (z * (((I 71 3) - 1) - ((k : Int) + 1))))) 87 ((I 81 (k + 1))).toNat ((I 87 ((I 81 (k + 1))).toNat) + z)) (91 + a) b = I (91 + a) b from (am_up_ne2 (by omega)).trans ((am_up_ne2 (by omega))), pld a b ha hb, sp_ld2_n h6]
            rfl
          refine (am_less (lv := [(5, .inl (((k + 1) + 1) : Int)), (4, .inl ((I 81 (k + 1)))), (3, .inl ((k + 1) : Int)), (2, .inl z), (1, .inr (.inr (.inl (some 81)))), (0, .inr (.inr (.inl (some 71))))]) rfl (List.forall_mem_cons.mpr ⟨rfl, List.forall_mem_cons.mpr ⟨rfl, List.forall_mem_cons.mpr ⟨rfl, List.forall_mem_cons.mpr ⟨rfl, List.forall_mem_cons.mpr ⟨rfl, List.forall_mem_cons.mpr ⟨rfl, List.forall_mem_nil _⟩⟩⟩⟩⟩⟩) (c_tally_81_l (I := am_up (am_up I 88 ((I 81 (k + 1))).toNat ((I 88 ((I 81 (k + 1))).toNat) + (z * (((I 71 3) - 1) - ((k : Int) + 1))))) 87 ((I 81 (k + 1))).toNat ((I 87 ((I 81 (k + 1))).toNat) + z)) d (E := E) (k := (k + 1)) (j := (k + 1) + 1) (x := u) hz h71 h6 hn hx6 hrow hk2 (by omega) hu huy e7 e8 e9 e4)).imp ?_
          rintro q ⟨Q9, rfl, h9⟩
          exact ⟨Q9, am_r_wk uT (am_k_up rfl (am_k_up rfl (am_k_id))), h9⟩
      · show am_E _ _ _ 39 [(4, .inl ((I 81 (k + 1)))), (3, .inl ((k : Int) + 1)), (5, .inl (j : Int)), (2, .inl z), (1, .inr (.inr (.inl (some 81)))), (0, .inr (.inr (.inl (some 71))))] [] (am_mm D (am_up I 88 ((I 81 (k + 1))).toNat ((I 88 ((I 81 (k + 1))).toNat) + (z * (((I 71 3) - 1) - ((k : Int) + 1))))) J ρ) _
        refine am_e_ss 4 (q := (46, [(4, .inl ((I 81 (k + 1)))), (3, .inl ((k : Int) + 1)), (5, .inl (j : Int)), (2, .inl z), (1, .inr (.inr (.inl (some 81)))), (0, .inr (.inr (.inl (some 71))))], [.inl ((I 81 (k + 1))), .inr (.inr (.inl (some 89))), .inl ((I 81 (k + 1))), .inr (.inr (.inl (some 89)))], (am_mm D (am_up I 88 ((I 81 (k + 1))).toNat ((I 88 ((I 81 (k + 1))).toNat) + (z * (((I 71 3) - 1) - ((k : Int) + 1))))) J ρ))) rfl ?_
        refine am_e_iaload (m := 6) rfl rfl (by omega) (by omega) (by omega) ?_
        show am_E _ _ _ 47 [(4, .inl ((I 81 (k + 1)))), (3, .inl ((k : Int) + 1)), (5, .inl (j : Int)), (2, .inl z), (1, .inr (.inr (.inl (some 81)))), (0, .inr (.inr (.inl (some 71))))] [.inl ((I 89 ((I 81 (k + 1))).toNat)), .inl ((I 81 (k + 1))), .inr (.inr (.inl (some 89)))] (am_mm D (am_up I 88 ((I 81 (k + 1))).toNat ((I 88 ((I 81 (k + 1))).toNat) + (z * (((I 71 3) - 1) - ((k : Int) + 1))))) J ρ) _
        refine am_e_ss 2 (q := (49, [(4, .inl ((I 81 (k + 1)))), (3, .inl ((k : Int) + 1)), (5, .inl (j : Int)), (2, .inl z), (1, .inr (.inr (.inl (some 81)))), (0, .inr (.inr (.inl (some 71))))], [.inl ((I 89 ((I 81 (k + 1))).toNat) + z), .inl ((I 81 (k + 1))), .inr (.inr (.inl (some 89)))], (am_mm D (am_up I 88 ((I 81 (k + 1))).toNat ((I 88 ((I 81 (k + 1))).toNat) + (z * (((I 71 3) - 1) - ((k : Int) + 1))))) J ρ))) rfl ?_
        refine am_e_iastore (m := 6) rfl rfl (by omega) (by omega) (by omega) ?_
        show am_E _ _ _ 50 [(4, .inl ((I 81 (k + 1)))), (3, .inl ((k : Int) + 1)), (5, .inl (j : Int)), (2, .inl z), (1, .inr (.inr (.inl (some 81)))), (0, .inr (.inr (.inl (some 71))))] [] (am_mm D (am_up (am_up I 88 ((I 81 (k + 1))).toNat ((I 88 ((I 81 (k + 1))).toNat) + (z * (((I 71 3) - 1) - ((k : Int) + 1))))) 89 ((I 81 (k + 1))).toNat ((I 89 ((I 81 (k + 1))).toNat) + z)) J ρ) _
        refine am_e_ss 2 (q := (52, [(4, .inl ((I 81 (k + 1)))), (3, .inl ((k : Int) + 1)), (5, .inl (j : Int)), (2, .inl z), (1, .inr (.inr (.inl (some 81)))), (0, .inr (.inr (.inl (some 71))))], [.inl 2, .inl ((k : Int) + 1)], (am_mm D (am_up (am_up I 88 ((I 81 (k + 1))).toNat ((I 88 ((I 81 (k + 1))).toNat) + (z * (((I 71 3) - 1) - ((k : Int) + 1))))) 89 ((I 81 (k + 1))).toNat ((I 89 ((I 81 (k + 1))).toNat) + z)) J ρ))) rfl ?_
        refine am_e_icmp2 rfl ⟨by omega, by omega⟩ ⟨by omega, by omega⟩ (fun (hw5 : 2 ≤ ((k : Int) + 1)) => ?_) (fun (hw5 : ¬ (2 ≤ ((k : Int) + 1))) => ?_)
        · show am_E _ _ _ 66 [(4, .inl ((I 81 (k + 1)))), (3, .inl ((k : Int) + 1)), (5, .inl (j : Int)), (2, .inl z), (1, .inr (.inr (.inl (some 81)))), (0, .inr (.inr (.inl (some 71))))] [] (am_mm D (am_up (am_up I 88 ((I 81 (k + 1))).toNat ((I 88 ((I 81 (k + 1))).toNat) + (z * (((I 71 3) - 1) - ((k : Int) + 1))))) 89 ((I 81 (k + 1))).toNat ((I 89 ((I 81 (k + 1))).toNat) + z)) J ρ) _
          refine am_e_ss 4 (q := (71, [(5, .inl (((k : Int) + 1) + 1)), (4, .inl ((I 81 (k + 1)))), (3, .inl ((k : Int) + 1)), (2, .inl z), (1, .inr (.inr (.inl (some 81)))), (0, .inr (.inr (.inl (some 71))))], [], (am_mm D (am_up (am_up I 88 ((I 81 (k + 1))).toNat ((I 88 ((I 81 (k + 1))).toNat) + (z * (((I 71 3) - 1) - ((k : Int) + 1))))) 89 ((I 81 (k + 1))).toNat ((I 89 ((I 81 (k + 1))).toNat) + z)) J ρ))) rfl ?_
          have ej : j = L.length := by omega
          subst ej
          have hk2 : k + 1 < L.length := by omega
          obtain ⟨u, hu⟩ : ∃ u, u = L[(k + 1)] := ⟨_, rfl⟩
          have huy := hrow (k + 1) _ (List.getElem?_eq_getElem hk2)
          rw [Nat.zero_add, ← hu] at huy
          have hu6 : u < 6 := by rw [hu]; exact hx6 _ (List.getElem_mem _)
          have huk := fun b : Nat => sp_pl_k (b := b) h6 hn hk2
          have eu : ((I 81 (k + 1))).toNat = u := by omega
          have e7 : ∀ b : Nat, b < 6 → (am_up (am_up I 88 ((I 81 (k + 1))).toNat ((I 88 ((I 81 (k + 1))).toNat) + (z * (((I 71 3) - 1) - ((k : Int) + 1))))) 89 ((I 81 (k + 1))).toNat ((I 89 ((I 81 (k + 1))).toNat) + z)) 87 b = E 87 b + z * (if sp_pl L (b : Int) ≤ ((k + 1 : Nat) : Int) ∧ sp_pl L (b : Int) < 2 then 1 else 0) := by
            intro b hb
            have bb := sp_pl_b (b := (b : Int)) h6
            have ub := huk b
            rw [← hu] at ub
            have ob := p87 b hb
            rw [show (am_up (am_up I 88 ((I 81 (k + 1))).toNat ((I 88 ((I 81 (k + 1))).toNat) + (z * (((I 71 3) - 1) - ((k : Int) + 1))))) 89 ((I 81 (k + 1))).toNat ((I 89 ((I 81 (k + 1))).toNat) + z)) 87 b = I 87 b from (am_up_ne2 (by omega)).trans ((am_up_ne2 (by omega)))]
            rcases hz with rfl | rfl <;> (repeat' split at *) <;> first | omega | (exfalso; omega)
          have e8 : ∀ b : Nat, b < 6 → (am_up (am_up I 88 ((I 81 (k + 1))).toNat ((I 88 ((I 81 (k + 1))).toNat) + (z * (((I 71 3) - 1) - ((k : Int) + 1))))) 89 ((I 81 (k + 1))).toNat ((I 89 ((I 81 (k + 1))).toNat) + z)) 88 b = E 88 b + z * (if sp_pl L (b : Int) ≤ ((k + 1 : Nat) : Int) then (L.length : Int) - 1 - sp_pl L (b : Int) else 0) := by
            intro b hb
            have bb := sp_pl_b (b := (b : Int)) h6
            have ub := huk b
            rw [← hu] at ub
            have ob := p88 b hb
            by_cases e : b = u
            · subst e
              have hb1 := ub.mpr rfl
              rw [show (am_up (am_up I 88 ((I 81 (k + 1))).toNat ((I 88 ((I 81 (k + 1))).toNat) + (z * (((I 71 3) - 1) - ((k : Int) + 1))))) 89 ((I 81 (k + 1))).toNat ((I 89 ((I 81 (k + 1))).toNat) + z)) 88 b = ((I 88 ((I 81 (k + 1))).toNat) + (z * (((I 71 3) - 1) - ((k : Int) + 1)))) from (am_up_ne2 (by omega)).trans ((by rw [← eu]; exact am_up_at2)), eu]
              rcases hz with rfl | rfl <;> (repeat' split at *) <;> first | omega | (exfalso; omega)
            · rw [show (am_up (am_up I 88 ((I 81 (k + 1))).toNat ((I 88 ((I 81 (k + 1))).toNat) + (z * (((I 71 3) - 1) - ((k : Int) + 1))))) 89 ((I 81 (k + 1))).toNat ((I 89 ((I 81 (k + 1))).toNat) + z)) 88 b = I 88 b from (am_up_ne2 (by omega)).trans ((am_up_ne2 (by omega)))]
              rcases hz with rfl | rfl <;> (repeat' split at *) <;> first | omega | (exfalso; omega)
          have e9 : ∀ b : Nat, b < 6 → (am_up (am_up I 88 ((I 81 (k + 1))).toNat ((I 88 ((I 81 (k + 1))).toNat) + (z * (((I 71 3) - 1) - ((k : Int) + 1))))) 89 ((I 81 (k + 1))).toNat ((I 89 ((I 81 (k + 1))).toNat) + z)) 89 b = E 89 b + z * (if sp_pl L (b : Int) = 0 then 1 else 0) := by
            intro b hb
            have bb := sp_pl_b (b := (b : Int)) h6
            have ub := huk b
            rw [← hu] at ub
            have ob := p89 b hb
            by_cases e : b = u
            · subst e
              have hb1 := ub.mpr rfl
              rw [show (am_up (am_up I 88 ((I 81 (k + 1))).toNat ((I 88 ((I 81 (k + 1))).toNat) + (z * (((I 71 3) - 1) - ((k : Int) + 1))))) 89 ((I 81 (k + 1))).toNat ((I 89 ((I 81 (k + 1))).toNat) + z)) 89 b = ((I 89 ((I 81 (k + 1))).toNat) + z) from (by rw [← eu]; exact am_up_at2), eu]
              rcases hz with rfl | rfl <;> (repeat' split at *) <;> first | omega | (exfalso; omega)
            · rw [show (am_up (am_up I 88 ((I 81 (k + 1))).toNat ((I 88 ((I 81 (k + 1))).toNat) + (z * (((I 71 3) - 1) - ((k : Int) + 1))))) 89 ((I 81 (k + 1))).toNat ((I 89 ((I 81 (k + 1))).toNat) + z)) 89 b = I 89 b from (am_up_ne2 (by omega)).trans ((am_up_ne2 (by omega)))]
              rcases hz with rfl | rfl <;> (repeat' split at *) <;> first | omega | (exfalso; omega)
          have e4 : ∀ a b : Nat, a < 6 → b < 6 → (am_up (am_up I 88 ((I 81 (k + 1))).toNat ((I 88 ((I 81 (k + 1))).toNat) + (z * (((I 71 3) - 1) - ((k : Int) + 1))))) 89 ((I 81 (k + 1))).toNat ((I 89 ((I 81 (k + 1))).toNat) + z)) (91 + a) b = E (91 + a) b + z * sp_ld2 L ((k + 1 : Nat) : Int) ((k + 1 + 1 : Nat) : Int) a b := by
            intro a b ha hb
            rw [show (am_up (am_up I 88 ((I 81 (k + 1))).toNat ((I 88 ((I 81 (k + 1))).toNat) + (z * (((I 71 3) - 1) - ((k : Int) + 1))))) 89 ((I 81 (k + 1))).toNat ((I 89 ((I 81 (k + 1))).toNat) + z)) (91 + a) b = I (91 + a) b from (am_up_ne2 (by omega)).trans ((am_up_ne2 (by omega))), pld a b ha hb, sp_ld2_n h6]
            rfl
          refine (am_less (lv := [(5, .inl (((k + 1) + 1) : Int)), (4, .inl ((I 81 (k + 1)))), (3, .inl ((k + 1) : Int)), (2, .inl z), (1, .inr (.inr (.inl (some 81)))), (0, .inr (.inr (.inl (some 71))))]) rfl (List.forall_mem_cons.mpr ⟨rfl, List.forall_mem_cons.mpr ⟨rfl, List.forall_mem_cons.mpr ⟨rfl, List.forall_mem_cons.mpr ⟨rfl, List.forall_mem_cons.mpr ⟨rfl, List.forall_mem_cons.mpr ⟨rfl, List.forall_mem_nil _⟩⟩⟩⟩⟩⟩) (c_tally_81_l (I := am_up (am_up I 88 ((I 81 (k + 1))).toNat ((I 88 ((I 81 (k + 1))).toNat) + (z * (((I 71 3) - 1) - ((k : Int) + 1))))) 89 ((I 81 (k + 1))).toNat ((I 89 ((I 81 (k + 1))).toNat) + z)) d (E := E) (k := (k + 1)) (j := (k + 1) + 1) (x := u) hz h71 h6 hn hx6 hrow hk2 (by omega) hu huy e7 e8 e9 e4)).imp ?_
          rintro q ⟨Q9, rfl, h9⟩
          exact ⟨Q9, am_r_wk uT (am_k_up rfl (am_k_up rfl (am_k_id))), h9⟩
        · show am_E _ _ _ 55 [(4, .inl ((I 81 (k + 1)))), (3, .inl ((k : Int) + 1)), (5, .inl (j : Int)), (2, .inl z), (1, .inr (.inr (.inl (some 81)))), (0, .inr (.inr (.inl (some 71))))] [] (am_mm D (am_up (am_up I 88 ((I 81 (k + 1))).toNat ((I 88 ((I 81 (k + 1))).toNat) + (z * (((I 71 3) - 1) - ((k : Int) + 1))))) 89 ((I 81 (k + 1))).toNat ((I 89 ((I 81 (k + 1))).toNat) + z)) J ρ) _
          refine am_e_ss 4 (q := (62, [(4, .inl ((I 81 (k + 1)))), (3, .inl ((k : Int) + 1)), (5, .inl (j : Int)), (2, .inl z), (1, .inr (.inr (.inl (some 81)))), (0, .inr (.inr (.inl (some 71))))], [.inl ((I 81 (k + 1))), .inr (.inr (.inl (some 87))), .inl ((I 81 (k + 1))), .inr (.inr (.inl (some 87)))], (am_mm D (am_up (am_up I 88 ((I 81 (k + 1))).toNat ((I 88 ((I 81 (k + 1))).toNat) + (z * (((I 71 3) - 1) - ((k : Int) + 1))))) 89 ((I 81 (k + 1))).toNat ((I 89 ((I 81 (k + 1))).toNat) + z)) J ρ))) rfl ?_
          refine am_e_iaload (m := 6) rfl rfl (by omega) (by omega) (by omega) ?_
          show am_E _ _ _ 63 [(4, .inl ((I 81 (k + 1)))), (3, .inl ((k : Int) + 1)), (5, .inl (j : Int)), (2, .inl z), (1, .inr (.inr (.inl (some 81)))), (0, .inr (.inr (.inl (some 71))))] [.inl ((I 87 ((I 81 (k + 1))).toNat)), .inl ((I 81 (k + 1))), .inr (.inr (.inl (some 87)))] (am_mm D (am_up (am_up I 88 ((I 81 (k + 1))).toNat ((I 88 ((I 81 (k + 1))).toNat) + (z * (((I 71 3) - 1) - ((k : Int) + 1))))) 89 ((I 81 (k + 1))).toNat ((I 89 ((I 81 (k + 1))).toNat) + z)) J ρ) _
          refine am_e_ss 2 (q := (65, [(4, .inl ((I 81 (k + 1)))), (3, .inl ((k : Int) + 1)), (5, .inl (j : Int)), (2, .inl z), (1, .inr (.inr (.inl (some 81)))), (0, .inr (.inr (.inl (some 71))))], [.inl ((I 87 ((I 81 (k + 1))).toNat) + z), .inl ((I 81 (k + 1))), .inr (.inr (.inl (some 87)))], (am_mm D (am_up (am_up I 88 ((I 81 (k + 1))).toNat ((I 88 ((I 81 (k + 1))).toNat) + (z * (((I 71 3) - 1) - ((k : Int) + 1))))) 89 ((I 81 (k + 1))).toNat ((I 89 ((I 81 (k + 1))).toNat) + z)) J ρ))) rfl ?_
          refine am_e_iastore (m := 6) rfl rfl (by omega) (by omega) (by omega) ?_
          show am_E _ _ _ 66 [(4, .inl ((I 81 (k + 1)))), (3, .inl ((k : Int) + 1)), (5, .inl (j : Int)), (2, .inl z), (1, .inr (.inr (.inl (some 81)))), (0, .inr (.inr (.inl (some 71))))] [] (am_mm D (am_up (am_up (am_up I 88 ((I 81 (k + 1))).toNat ((I 88 ((I 81 (k + 1))).toNat) + (z * (((I 71 3) - 1) - ((k : Int) + 1))))) 89 ((I 81 (k + 1))).toNat ((I 89 ((I 81 (k + 1))).toNat) + z)) 87 ((I 81 (k + 1))).toNat ((I 87 ((I 81 (k + 1))).toNat) + z)) J ρ) _
          refine am_e_ss 4 (q := (71, [(5, .inl (((k : Int) + 1) + 1)), (4, .inl ((I 81 (k + 1)))), (3, .inl ((k : Int) + 1)), (2, .inl z), (1, .inr (.inr (.inl (some 81)))), (0, .inr (.inr (.inl (some 71))))], [], (am_mm D (am_up (am_up (am_up I 88 ((I 81 (k + 1))).toNat ((I 88 ((I 81 (k + 1))).toNat) + (z * (((I 71 3) - 1) - ((k : Int) + 1))))) 89 ((I 81 (k + 1))).toNat ((I 89 ((I 81 (k + 1))).toNat) + z)) 87 ((I 81 (k + 1))).toNat ((I 87 ((I 81 (k + 1))).toNat) + z)) J ρ))) rfl ?_
          have ej : j = L.length := by omega
          subst ej
          have hk2 : k + 1 < L.length := by omega
          obtain ⟨u, hu⟩ : ∃ u, u = L[(k + 1)] := ⟨_, rfl⟩
          have huy := hrow (k + 1) _ (List.getElem?_eq_getElem hk2)
          rw [Nat.zero_add, ← hu] at huy
          have hu6 : u < 6 := by rw [hu]; exact hx6 _ (List.getElem_mem _)
          have huk := fun b : Nat => sp_pl_k (b := b) h6 hn hk2
          have eu : ((I 81 (k + 1))).toNat = u := by omega
          have e7 : ∀ b : Nat, b < 6 → (am_up (am_up (am_up I 88 ((I 81 (k + 1))).toNat ((I 88 ((I 81 (k + 1))).toNat) + (z * (((I 71 3) - 1) - ((k : Int) + 1))))) 89 ((I 81 (k + 1))).toNat ((I 89 ((I 81 (k + 1))).toNat) + z)) 87 ((I 81 (k + 1))).toNat ((I 87 ((I 81 (k + 1))).toNat) + z)) 87 b = E 87 b + z * (if sp_pl L (b : Int) ≤ ((k + 1 : Nat) : Int) ∧ sp_pl L (b : Int) < 2 then 1 else 0) := by
            intro b hb
            have bb := sp_pl_b (b := (b : Int)) h6
            have ub := huk b
            rw [← hu] at ub
            have ob := p87 b hb
            by_cases e : b = u
            · subst e
              have hb1 := ub.mpr rfl
              rw [show (am_up (am_up (am_up I 88 ((I 81 (k + 1))).toNat ((I 88 ((I 81 (k + 1))).toNat) + (z * (((I 71 3) - 1) - ((k : Int) + 1))))) 89 ((I 81 (k + 1))).toNat ((I 89 ((I 81 (k + 1))).toNat) + z)) 87 ((I 81 (k + 1))).toNat ((I 87 ((I 81 (k + 1))).toNat) + z)) 87 b = ((I 87 ((I 81 (k + 1))).toNat) + z) from (by rw [← eu]; exact am_up_at2), eu]
              rcases hz with rfl | rfl <;> (repeat' split at *) <;> first | omega | (exfalso; omega)
            · rw [show (am_up (am_up (am_up I 88 ((I 81 (k + 1))).toNat ((I 88 ((I 81 (k + 1))).toNat) + (z * (((I 71 3) - 1) - ((k : Int) + 1))))) 89 ((I 81 (k + 1))).toNat ((I 89 ((I 81 (k + 1))).toNat) + z)) 87 ((I 81 (k + 1))).toNat ((I 87 ((I 81 (k + 1))).toNat) + z)) 87 b = I 87 b from (am_up_ne2 (by omega)).trans ((am_up_ne2 (by omega)).trans ((am_up_ne2 (by omega))))]
              rcases hz with rfl | rfl <;> (repeat' split at *) <;> first | omega | (exfalso; omega)
          have e8 : ∀ b : Nat, b < 6 → (am_up (am_up (am_up I 88 ((I 81 (k + 1))).toNat ((I 88 ((I 81 (k + 1))).toNat) + (z * (((I 71 3) - 1) - ((k : Int) + 1))))) 89 ((I 81 (k + 1))).toNat ((I 89 ((I 81 (k + 1))).toNat) + z)) 87 ((I 81 (k + 1))).toNat ((I 87 ((I 81 (k + 1))).toNat) + z)) 88 b = E 88 b + z * (if sp_pl L (b : Int) ≤ ((k + 1 : Nat) : Int) then (L.length : Int) - 1 - sp_pl L (b : Int) else 0) := by
            intro b hb
            have bb := sp_pl_b (b := (b : Int)) h6
            have ub := huk b
            rw [← hu] at ub
            have ob := p88 b hb
            by_cases e : b = u
            · subst e
              have hb1 := ub.mpr rfl
              rw [show (am_up (am_up (am_up I 88 ((I 81 (k + 1))).toNat ((I 88 ((I 81 (k + 1))).toNat) + (z * (((I 71 3) - 1) - ((k : Int) + 1))))) 89 ((I 81 (k + 1))).toNat ((I 89 ((I 81 (k + 1))).toNat) + z)) 87 ((I 81 (k + 1))).toNat ((I 87 ((I 81 (k + 1))).toNat) + z)) 88 b = ((I 88 ((I 81 (k + 1))).toNat) + (z * (((I 71 3) - 1) - ((k : Int) + 1)))) from (am_up_ne2 (by omega)).trans ((am_up_ne2 (by omega)).trans ((by rw [← eu]; exact am_up_at2))), eu]
              rcases hz with rfl | rfl <;> (repeat' split at *) <;> first | omega | (exfalso; omega)
            · rw [show (am_up (am_up (am_up I 88 ((I 81 (k + 1))).toNat ((I 88 ((I 81 (k + 1))).toNat) + (z * (((I 71 3) - 1) - ((k : Int) + 1))))) 89 ((I 81 (k + 1))).toNat ((I 89 ((I 81 (k + 1))).toNat) + z)) 87 ((I 81 (k + 1))).toNat ((I 87 ((I 81 (k + 1))).toNat) + z)) 88 b = I 88 b from (am_up_ne2 (by omega)).trans ((am_up_ne2 (by omega)).trans ((am_up_ne2 (by omega))))]
              rcases hz with rfl | rfl <;> (repeat' split at *) <;> first | omega | (exfalso; omega)
          have e9 : ∀ b : Nat, b < 6 → (am_up (am_up (am_up I 88 ((I 81 (k + 1))).toNat ((I 88 ((I 81 (k + 1))).toNat) + (z * (((I 71 3) - 1) - ((k : Int) + 1))))) 89 ((I 81 (k + 1))).toNat ((I 89 ((I 81 (k + 1))).toNat) + z)) 87 ((I 81 (k + 1))).toNat ((I 87 ((I 81 (k + 1))).toNat) + z)) 89 b = E 89 b + z * (if sp_pl L (b : Int) = 0 then 1 else 0) := by
            intro b hb
            have bb := sp_pl_b (b := (b : Int)) h6
            have ub := huk b
            rw [← hu] at ub
            have ob := p89 b hb
            by_cases e : b = u
            · subst e
              have hb1 := ub.mpr rfl
              rw [show (am_up (am_up (am_up I 88 ((I 81 (k + 1))).toNat ((I 88 ((I 81 (k + 1))).toNat) + (z * (((I 71 3) - 1) - ((k : Int) + 1))))) 89 ((I 81 (k + 1))).toNat ((I 89 ((I 81 (k + 1))).toNat) + z)) 87 ((I 81 (k + 1))).toNat ((I 87 ((I 81 (k + 1))).toNat) + z)) 89 b = ((I 89 ((I 81 (k + 1))).toNat) + z) from (am_up_ne2 (by omega)).trans ((by rw [← eu]; exact am_up_at2)), eu]
              rcases hz with rfl | rfl <;> (repeat' split at *) <;> first | omega | (exfalso; omega)
            · rw [show (am_up (am_up (am_up I 88 ((I 81 (k + 1))).toNat ((I 88 ((I 81 (k + 1))).toNat) + (z * (((I 71 3) - 1) - ((k : Int) + 1))))) 89 ((I 81 (k + 1))).toNat ((I 89 ((I 81 (k + 1))).toNat) + z)) 87 ((I 81 (k + 1))).toNat ((I 87 ((I 81 (k + 1))).toNat) + z)) 89 b = I 89 b from (am_up_ne2 (by omega)).trans ((am_up_ne2 (by omega)).trans ((am_up_ne2 (by omega))))]
              rcases hz with rfl | rfl <;> (repeat' split at *) <;> first | omega | (exfalso; omega)
          have e4 : ∀ a b : Nat, a < 6 → b < 6 → (am_up (am_up (am_up I 88 ((I 81 (k + 1))).toNat ((I 88 ((I 81 (k + 1))).toNat) + (z * (((I 71 3) - 1) - ((k : Int) + 1))))) 89 ((I 81 (k + 1))).toNat ((I 89 ((I 81 (k + 1))).toNat) + z)) 87 ((I 81 (k + 1))).toNat ((I 87 ((I 81 (k + 1))).toNat) + z)) (91 + a) b = E (91 + a) b + z * sp_ld2 L ((k + 1 : Nat) : Int) ((k + 1 + 1 : Nat) : Int) a b := by
            intro a b ha hb
            rw [show (am_up (am_up (am_up I 88 ((I 81 (k + 1))).toNat ((I 88 ((I 81 (k + 1))).toNat) + (z * (((I 71 3) - 1) - ((k : Int) + 1))))) 89 ((I 81 (k + 1))).toNat ((I 89 ((I 81 (k + 1))).toNat) + z)) 87 ((I 81 (k + 1))).toNat ((I 87 ((I 81 (k + 1))).toNat) + z)) (91 + a) b = I (91 + a) b from (am_up_ne2 (by omega)).trans ((am_up_ne2 (by omega)).trans ((am_up_ne2 (by omega)))), pld a b ha hb, sp_ld2_n h6]
            rfl
          refine (am_less (lv := [(5, .inl (((k + 1) + 1) : Int)), (4, .inl ((I 81 (k + 1)))), (3, .inl ((k + 1) : Int)), (2, .inl z), (1, .inr (.inr (.inl (some 81)))), (0, .inr (.inr (.inl (some 71))))]) rfl (List.forall_mem_cons.mpr ⟨rfl, List.forall_mem_cons.mpr ⟨rfl, List.forall_mem_cons.mpr ⟨rfl, List.forall_mem_cons.mpr ⟨rfl, List.forall_mem_cons.mpr ⟨rfl, List.forall_mem_cons.mpr ⟨rfl, List.forall_mem_nil _⟩⟩⟩⟩⟩⟩) (c_tally_81_l (I := am_up (am_up (am_up I 88 ((I 81 (k + 1))).toNat ((I 88 ((I 81 (k + 1))).toNat) + (z * (((I 71 3) - 1) - ((k : Int) + 1))))) 89 ((I 81 (k + 1))).toNat ((I 89 ((I 81 (k + 1))).toNat) + z)) 87 ((I 81 (k + 1))).toNat ((I 87 ((I 81 (k + 1))).toNat) + z)) d (E := E) (k := (k + 1)) (j := (k + 1) + 1) (x := u) hz h71 h6 hn hx6 hrow hk2 (by omega) hu huy e7 e8 e9 e4)).imp ?_
          rintro q ⟨Q9, rfl, h9⟩
          exact ⟨Q9, am_r_wk uT (am_k_up rfl (am_k_up rfl (am_k_up rfl (am_k_id)))), h9⟩
  · show am_E _ _ _ 80 [(5, .inl (j : Int)), (4, .inl y), (3, .inl (k : Int)), (2, .inl z), (1, .inr (.inr (.inl (some 81)))), (0, .inr (.inr (.inl (some 71))))] [] (am_mm D I J ρ) _
    obtain ⟨v, hv⟩ : ∃ v, v = L[j] := ⟨_, rfl⟩
    have hjy := hrow j _ (List.getElem?_eq_getElem (show j < L.length by omega))
    rw [Nat.zero_add, ← hv] at hjy
    have hv6 : v < 6 := by rw [hv]; exact hx6 _ (List.getElem_mem _)
    have hxv : ¬ x = v := by
      intro e
      rw [hx, hv] at e
      have := am_nd_inj hn hk (by omega) e
      omega
    refine am_e_ss 3 (q := (86, [(5, .inl (j : Int)), (4, .inl y), (3, .inl (k : Int)), (2, .inl z), (1, .inr (.inr (.inl (some 81)))), (0, .inr (.inr (.inl (some 71))))], [.inl y, .inr (.inr (.inl (some 90)))], (am_mm D I J ρ))) rfl ?_
    refine am_e_aaload (m := 6) (c := 23) rfl rfl (by decide) (by omega) (by omega) (by omega) ?_
    rw [show ((am_mm D I J ρ)).2.2.2 90 (y).toNat = some (91 + x) from (by rw [hyx]; exact am_r90 (ρ := ρ) (by omega))]
    show am_E _ _ _ 87 [(5, .inl (j : Int)), (4, .inl y), (3, .inl (k : Int)), (2, .inl z), (1, .inr (.inr (.inl (some 81)))), (0, .inr (.inr (.inl (some 71))))] [.inr (.inr (.inl (some (91 + x))))] (am_mm D I J ρ) _
    refine am_e_ss 2 (q := (90, [(5, .inl (j : Int)), (4, .inl y), (3, .inl (k : Int)), (2, .inl z), (1, .inr (.inr (.inl (some 81)))), (0, .inr (.inr (.inl (some 71))))], [.inl (j : Int), .inr (.inr (.inl (some 81))), .inr (.inr (.inl (some (91 + x))))], (am_mm D I J ρ))) rfl ?_
    refine am_e_iaload (m := 6) rfl rfl (by omega) (by omega) (by omega) ?_
    show am_E _ _ _ 91 [(5, .inl (j : Int)), (4, .inl y), (3, .inl (k : Int)), (2, .inl z), (1, .inr (.inr (.inl (some 81)))), (0, .inr (.inr (.inl (some 71))))] [.inl ((I 81 j)), .inr (.inr (.inl (some (91 + x))))] (am_mm D I J ρ) _
    refine am_e_ss 1 (q := (92, [(5, .inl (j : Int)), (4, .inl y), (3, .inl (k : Int)), (2, .inl z), (1, .inr (.inr (.inl (some 81)))), (0, .inr (.inr (.inl (some 71))))], [.inl ((I 81 j)), .inr (.inr (.inl (some (91 + x)))), .inl ((I 81 j)), .inr (.inr (.inl (some (91 + x))))], (am_mm D I J ρ))) rfl ?_
    refine am_e_iaload (m := 6) rfl (am_k91 (by omega)) (by omega) (by omega) (by omega) ?_
    show am_E _ _ _ 93 [(5, .inl (j : Int)), (4, .inl y), (3, .inl (k : Int)), (2, .inl z), (1, .inr (.inr (.inl (some 81)))), (0, .inr (.inr (.inl (some 71))))] [.inl ((I (91 + x) ((I 81 j)).toNat)), .inl ((I 81 j)), .inr (.inr (.inl (some (91 + x))))] (am_mm D I J ρ) _
    refine am_e_ss 2 (q := (95, [(5, .inl (j : Int)), (4, .inl y), (3, .inl (k : Int)), (2, .inl z), (1, .inr (.inr (.inl (some 81)))), (0, .inr (.inr (.inl (some 71))))], [.inl ((I (91 + x) ((I 81 j)).toNat) + z), .inl ((I 81 j)), .inr (.inr (.inl (some (91 + x))))], (am_mm D I J ρ))) rfl ?_
    refine am_e_iastore (m := 6) rfl (am_k91 (by omega)) (by omega) (by omega) (by omega) ?_
    show am_E _ _ _ 96 [(5, .inl (j : Int)), (4, .inl y), (3, .inl (k : Int)), (2, .inl z), (1, .inr (.inr (.inl (some 81)))), (0, .inr (.inr (.inl (some 71))))] [] (am_mm D (am_up I (91 + x) ((I 81 j)).toNat ((I (91 + x) ((I 81 j)).toNat) + z)) J ρ) _
    refine am_e_ss 4 (q := (103, [(5, .inl (j : Int)), (4, .inl y), (3, .inl (k : Int)), (2, .inl z), (1, .inr (.inr (.inl (some 81)))), (0, .inr (.inr (.inl (some 71))))], [.inl (j : Int), .inr (.inr (.inl (some 81))), .inr (.inr (.inl (some 90)))], (am_mm D (am_up I (91 + x) ((I 81 j)).toNat ((I (91 + x) ((I 81 j)).toNat) + z)) J ρ))) rfl ?_
    refine am_e_iaload (m := 6) rfl rfl (by omega) (by omega) (by omega) ?_
    show am_E _ _ _ 104 [(5, .inl (j : Int)), (4, .inl y), (3, .inl (k : Int)), (2, .inl z), (1, .inr (.inr (.inl (some 81)))), (0, .inr (.inr (.inl (some 71))))] [.inl (((am_up I (91 + x) ((I 81 j)).toNat ((I (91 + x) ((I 81 j)).toNat) + z)) 81 j)), .inr (.inr (.inl (some 90)))] (am_mm D (am_up I (91 + x) ((I 81 j)).toNat ((I (91 + x) ((I 81 j)).toNat) + z)) J ρ) _
    have hrd2 : ((am_up I (91 + x) ((I 81 j)).toNat ((I (91 + x) ((I 81 j)).toNat) + z)) 81 j) = ((v : Nat) : Int) := (am_up_ne2 (by omega)).trans hjy
    refine am_e_aaload (m := 6) (c := 23) rfl rfl (by decide) (by omega) (by omega) (by omega) ?_
    rw [show ((am_mm D (am_up I (91 + x) ((I 81 j)).toNat ((I (91 + x) ((I 81 j)).toNat) + z)) J ρ)).2.2.2 90 (((am_up I (91 + x) ((I 81 j)).toNat ((I (91 + x) ((I 81 j)).toNat) + z)) 81 j)).toNat = some (91 + v) from (by rw [hrd2]; exact am_r90 (ρ := ρ) (by omega))]
    show am_E _ _ _ 105 [(5, .inl (j : Int)), (4, .inl y), (3, .inl (k : Int)), (2, .inl z), (1, .inr (.inr (.inl (some 81)))), (0, .inr (.inr (.inl (some 71))))] [.inr (.inr (.inl (some (91 + v))))] (am_mm D (am_up I (91 + x) ((I 81 j)).toNat ((I (91 + x) ((I 81 j)).toNat) + z)) J ρ) _
    refine am_e_ss 2 (q := (108, [(5, .inl (j : Int)), (4, .inl y), (3, .inl (k : Int)), (2, .inl z), (1, .inr (.inr (.inl (some 81)))), (0, .inr (.inr (.inl (some 71))))], [.inl y, .inr (.inr (.inl (some (91 + v)))), .inl y, .inr (.inr (.inl (some (91 + v))))], (am_mm D (am_up I (91 + x) ((I 81 j)).toNat ((I (91 + x) ((I 81 j)).toNat) + z)) J ρ))) rfl ?_
    refine am_e_iaload (m := 6) rfl (am_k91 (by omega)) (by omega) (by omega) (by omega) ?_
    show am_E _ _ _ 109 [(5, .inl (j : Int)), (4, .inl y), (3, .inl (k : Int)), (2, .inl z), (1, .inr (.inr (.inl (some 81)))), (0, .inr (.inr (.inl (some 71))))] [.inl (((am_up I (91 + x) ((I 81 j)).toNat ((I (91 + x) ((I 81 j)).toNat) + z)) (91 + v) (y).toNat)), .inl y, .inr (.inr (.inl (some (91 + v))))] (am_mm D (am_up I (91 + x) ((I 81 j)).toNat ((I (91 + x) ((I 81 j)).toNat) + z)) J ρ) _
    refine am_e_ss 2 (q := (111, [(5, .inl (j : Int)), (4, .inl y), (3, .inl (k : Int)), (2, .inl z), (1, .inr (.inr (.inl (some 81)))), (0, .inr (.inr (.inl (some 71))))], [.inl (((am_up I (91 + x) ((I 81 j)).toNat ((I (91 + x) ((I 81 j)).toNat) + z)) (91 + v) (y).toNat) - z), .inl y, .inr (.inr (.inl (some (91 + v))))], (am_mm D (am_up I (91 + x) ((I 81 j)).toNat ((I (91 + x) ((I 81 j)).toNat) + z)) J ρ))) rfl ?_
    refine am_e_iastore (m := 6) rfl (am_k91 (by omega)) (by omega) (by omega) (by omega) ?_
    show am_E _ _ _ 112 [(5, .inl (j : Int)), (4, .inl y), (3, .inl (k : Int)), (2, .inl z), (1, .inr (.inr (.inl (some 81)))), (0, .inr (.inr (.inl (some 71))))] [] (am_mm D (am_up (am_up I (91 + x) ((I 81 j)).toNat ((I (91 + x) ((I 81 j)).toNat) + z)) (91 + v) (y).toNat (((am_up I (91 + x) ((I 81 j)).toNat ((I (91 + x) ((I 81 j)).toNat) + z)) (91 + v) (y).toNat) - z)) J ρ) _
    refine am_e_ss 2 (q := (71, [(5, .inl ((j : Int) + 1)), (4, .inl y), (3, .inl (k : Int)), (2, .inl z), (1, .inr (.inr (.inl (some 81)))), (0, .inr (.inr (.inl (some 71))))], [], (am_mm D (am_up (am_up I (91 + x) ((I 81 j)).toNat ((I (91 + x) ((I 81 j)).toNat) + z)) (91 + v) (y).toNat (((am_up I (91 + x) ((I 81 j)).toNat ((I (91 + x) ((I 81 j)).toNat) + z)) (91 + v) (y).toNat) - z)) J ρ))) rfl ?_
    have hvj := fun b : Nat => sp_pl_k (b := b) h6 hn (show j < L.length by omega)
    have hxk := fun b : Nat => sp_pl_k (b := b) h6 hn hk
    have eiv : ((I 81 j)).toNat = v := by omega
    have eiy : (y).toNat = x := by omega
    have hsec : (am_up I (91 + x) ((I 81 j)).toNat (((I (91 + x) ((I 81 j)).toNat) + z))) (91 + v) (y).toNat = I (91 + v) x := by rw [eiy]; exact am_up_ne2 (by omega)
    have e4 : ∀ a b : Nat, a < 6 → b < 6 → (am_up (am_up I (91 + x) ((I 81 j)).toNat ((I (91 + x) ((I 81 j)).toNat) + z)) (91 + v) (y).toNat (((am_up I (91 + x) ((I 81 j)).toNat ((I (91 + x) ((I 81 j)).toNat) + z)) (91 + v) (y).toNat) - z)) (91 + a) b = E (91 + a) b + z * sp_ld2 L (k : Int) ((j + 1 : Nat) : Int) a b := by
      intro a b ha hb
      have pab := pld a b ha hb
      have ba := sp_pl_b (b := (a : Int)) h6
      have bb := sp_pl_b (b := (b : Int)) h6
      have ja := hvj a
      have jb := hvj b
      have ka := hxk a
      have kb := hxk b
      rw [← hv] at ja jb
      rw [← hx] at ka kb
      by_cases e1 : a = v ∧ b = x
      · obtain ⟨ea, eb⟩ := e1
        rw [ea] at ba ja
        rw [eb] at bb kb
        rw [ea, eb] at pab ⊢
        rw [show (am_up (am_up I (91 + x) ((I 81 j)).toNat ((I (91 + x) ((I 81 j)).toNat) + z)) (91 + v) (y).toNat (((am_up I (91 + x) ((I 81 j)).toNat ((I (91 + x) ((I 81 j)).toNat) + z)) (91 + v) (y).toNat) - z)) (91 + v) x = (((am_up I (91 + x) ((I 81 j)).toNat ((I (91 + x) ((I 81 j)).toNat) + z)) (91 + v) (y).toNat) - z) from by rw [← eiy]; exact am_up_at2]
        have hj1 := ja.mpr rfl
        have hk1 := kb.mpr rfl
        rw [show sp_ld2 L (k : Int) ((j + 1 : Nat) : Int) v x = -1 by (unfold sp_ld2; rw [if_neg (by omega), if_pos (by omega)])]
        rw [show sp_ld2 L (k : Int) (j : Int) v x = 0 by (unfold sp_ld2; rw [if_neg (by omega), if_neg (by omega)])] at pab
        rcases hz with rfl | rfl <;> omega
      · by_cases e2 : a = x ∧ b = v
        · obtain ⟨ea, eb⟩ := e2
          rw [ea] at ba ka
          rw [eb] at bb jb
          rw [ea, eb] at pab ⊢
          rw [show (am_up (am_up I (91 + x) ((I 81 j)).toNat ((I (91 + x) ((I 81 j)).toNat) + z)) (91 + v) (y).toNat (((am_up I (91 + x) ((I 81 j)).toNat ((I (91 + x) ((I 81 j)).toNat) + z)) (91 + v) (y).toNat) - z)) (91 + x) v = ((I (91 + x) ((I 81 j)).toNat) + z) from (am_up_ne2 (by omega)).trans (by rw [← eiv]; exact am_up_at2)]
          have hj1 := jb.mpr rfl
          have hk1 := ka.mpr rfl
          rw [eiv, show sp_ld2 L (k : Int) ((j + 1 : Nat) : Int) x v = 1 by (unfold sp_ld2; rw [if_pos (by omega)])]
          rw [show sp_ld2 L (k : Int) (j : Int) x v = 0 by (unfold sp_ld2; rw [if_neg (by omega), if_neg (by omega)])] at pab
          rcases hz with rfl | rfl <;> omega
        · rw [show (am_up (am_up I (91 + x) ((I 81 j)).toNat ((I (91 + x) ((I 81 j)).toNat) + z)) (91 + v) (y).toNat (((am_up I (91 + x) ((I 81 j)).toNat ((I (91 + x) ((I 81 j)).toNat) + z)) (91 + v) (y).toNat) - z)) (91 + a) b = I (91 + a) b from (am_up_ne2 (by omega)).trans (am_up_ne2 (by omega)), pab]
          rw [show sp_ld2 L (k : Int) ((j + 1 : Nat) : Int) a b = sp_ld2 L (k : Int) (j : Int) a b by (unfold sp_ld2; (repeat' split) <;> first | rfl | (exfalso; omega))]
    have e7 : ∀ b : Nat, b < 6 → (am_up (am_up I (91 + x) ((I 81 j)).toNat ((I (91 + x) ((I 81 j)).toNat) + z)) (91 + v) (y).toNat (((am_up I (91 + x) ((I 81 j)).toNat ((I (91 + x) ((I 81 j)).toNat) + z)) (91 + v) (y).toNat) - z)) 87 b = E 87 b + z * (if sp_pl L (b : Int) ≤ (k : Int) ∧ sp_pl L (b : Int) < 2 then 1 else 0) := fun b hb => (am_up_ne2 (by omega)).trans ((am_up_ne2 (by omega)).trans (p87 b hb))
    have e8 : ∀ b : Nat, b < 6 → (am_up (am_up I (91 + x) ((I 81 j)).toNat ((I (91 + x) ((I 81 j)).toNat) + z)) (91 + v) (y).toNat (((am_up I (91 + x) ((I 81 j)).toNat ((I (91 + x) ((I 81 j)).toNat) + z)) (91 + v) (y).toNat) - z)) 88 b = E 88 b + z * (if sp_pl L (b : Int) ≤ (k : Int) then (L.length : Int) - 1 - sp_pl L (b : Int) else 0) := fun b hb => (am_up_ne2 (by omega)).trans ((am_up_ne2 (by omega)).trans (p88 b hb))
    have e9 : ∀ b : Nat, b < 6 → (am_up (am_up I (91 + x) ((I 81 j)).toNat ((I (91 + x) ((I 81 j)).toNat) + z)) (91 + v) (y).toNat (((am_up I (91 + x) ((I 81 j)).toNat ((I (91 + x) ((I 81 j)).toNat) + z)) (91 + v) (y).toNat) - z)) 89 b = E 89 b + z * (if sp_pl L (b : Int) = 0 then 1 else 0) := fun b hb => (am_up_ne2 (by omega)).trans ((am_up_ne2 (by omega)).trans (p89 b hb))
    have er : am_rowl ((am_up (am_up I (91 + x) ((I 81 j)).toNat ((I (91 + x) ((I 81 j)).toNat) + z)) (91 + v) (y).toNat (((am_up I (91 + x) ((I 81 j)).toNat ((I (91 + x) ((I 81 j)).toNat) + z)) (91 + v) (y).toNat) - z)) 81) 0 L := am_rowl_cg hrow (fun i hi => (am_up_ne2 (by omega)).trans (am_up_ne2 (by omega)))
    have eh : (am_up (am_up I (91 + x) ((I 81 j)).toNat ((I (91 + x) ((I 81 j)).toNat) + z)) (91 + v) (y).toNat (((am_up I (91 + x) ((I 81 j)).toNat ((I (91 + x) ((I 81 j)).toNat) + z)) (91 + v) (y).toNat) - z)) 71 3 = (L.length : Int) := (am_up_ne2 (by omega)).trans ((am_up_ne2 (by omega)).trans h71)
    refine (am_less (lv := [(5, .inl ((j + 1) : Int)), (4, .inl y), (3, .inl (k : Int)), (2, .inl z), (1, .inr (.inr (.inl (some 81)))), (0, .inr (.inr (.inl (some 71))))]) rfl (List.forall_mem_cons.mpr ⟨rfl, List.forall_mem_cons.mpr ⟨rfl, List.forall_mem_cons.mpr ⟨rfl, List.forall_mem_cons.mpr ⟨rfl, List.forall_mem_cons.mpr ⟨rfl, List.forall_mem_cons.mpr ⟨rfl, List.forall_mem_nil _⟩⟩⟩⟩⟩⟩) (c_tally_81_l (I := am_up (am_up I (91 + x) ((I 81 j)).toNat ((I (91 + x) ((I 81 j)).toNat) + z)) (91 + v) (y).toNat (((am_up I (91 + x) ((I 81 j)).toNat ((I (91 + x) ((I 81 j)).toNat) + z)) (91 + v) (y).toNat) - z)) d (E := E) (k := k) (j := j + 1) (x := x) hz eh h6 hn hx6 er hk (by omega) hx hyx e7 e8 e9 e4)).imp ?_
    rintro q ⟨Q9, rfl, h9⟩
    exact ⟨Q9, am_r_wk uT (am_k_up (by unfold uT; simp; omega) (am_k_up (by unfold uT; simp; omega) (am_k_id))), h9⟩
termination_by (8 * (7 - k) + (7 - j))
decreasing_by all_goals omega
theorem c_tally_81 {X : Nat × (Nat → Int)} {D : List (Nat × Nat)} {I J : Nat → Nat → Int} {ρ : Nat → Nat → Option Nat} (d : Nat) {z : Int} {L : List Nat} (hz : z = 1 ∨ z = -1) (h71 : I 71 3 = (L.length : Int)) (h6 : L.length ≤ 6) (hn : L.Nodup) (hx6 : ∀ x ∈ L, x < 6) (hrow : am_rowl (I 81) 0 L)  : am_E X d 76 0 [(0, .inr (.inr (.inl (some 71)))), (1, .inr (.inr (.inl (some 81)))), (2, .inl z)] [] (am_mm D I J ρ) (fun q => ∃ Q, q = (none, am_mm D (am_wp uT I Q) J ρ) ∧ c_talQ I Q z L) := by
  refine am_e_ss 5 (q := (7, [(3, .inl 0), (0, .inr (.inr (.inl (some 71)))), (1, .inr (.inr (.inl (some 81)))), (2, .inl z)], [.inl ((I 71 3)), .inl 0], (am_mm D I J ρ))) rfl ?_
  refine am_e_icmp2 rfl ⟨by omega, by omega⟩ ⟨by omega, by omega⟩ (fun (hw1 : (I 71 3) ≤ 0) => ?_) (fun (hw1 : ¬ ((I 71 3) ≤ 0)) => ?_)
  · show am_E _ _ _ 124 [(3, .inl 0), (0, .inr (.inr (.inl (some 71)))), (1, .inr (.inr (.inl (some 81)))), (2, .inl z)] [] (am_mm D I J ρ) _
    refine am_e_return rfl rfl ?_
    have e0 : L = [] := List.eq_nil_of_length_eq_zero (by omega)
    subst e0
    refine ⟨I, am_r_wp uT am_k_id, ?_, ?_⟩
    · intro b hb
      refine ⟨?_, ?_, ?_⟩ <;> (show _ = _ + z * 0) <;> omega
    · intro a b ha hb
      show _ = _ + z * 0
      omega
  · show am_E _ _ _ 10 [(3, .inl 0), (0, .inr (.inr (.inl (some 71)))), (1, .inr (.inr (.inl (some 81)))), (2, .inl z)] [] (am_mm D I J ρ) _
    have hru := hrow 0 _ (List.getElem?_eq_getElem (show 0 < L.length by omega))
    rw [Nat.zero_add] at hru
    have hru6 := hx6 _ (List.getElem_mem (show 0 < L.length by omega))
    refine am_e_ss 8 (q := (22, [(4, .inl ((I 81 0))), (3, .inl 0), (0, .inr (.inr (.inl (some 71)))), (1, .inr (.inr (.inl (some 81)))), (2, .inl z)], [.inl ((I 81 0)), .inr (.inr (.inl (some 88))), .inl ((I 81 0)), .inr (.inr (.inl (some 88)))], (am_mm D I J ρ))) rfl ?_
    refine am_e_iaload (m := 6) rfl rfl (by omega) (by omega) (by omega) ?_
    show am_E _ _ _ 23 [(4, .inl ((I 81 0))), (3, .inl 0), (0, .inr (.inr (.inl (some 71)))), (1, .inr (.inr (.inl (some 81)))), (2, .inl z)] [.inl ((I 88 ((I 81 0)).toNat)), .inl ((I 81 0)), .inr (.inr (.inl (some 88)))] (am_mm D I J ρ) _
    refine am_e_ss 9 (q := (34, [(4, .inl ((I 81 0))), (3, .inl 0), (0, .inr (.inr (.inl (some 71)))), (1, .inr (.inr (.inl (some 81)))), (2, .inl z)], [.inl ((I 88 ((I 81 0)).toNat) + (z * (((I 71 3) - 1) - 0))), .inl ((I 81 0)), .inr (.inr (.inl (some 88)))], (am_mm D I J ρ))) rfl ?_
    refine am_e_iastore (m := 6) rfl rfl (by omega) (by omega) (by omega) ?_
    show am_E _ _ _ 35 [(4, .inl ((I 81 0))), (3, .inl 0), (0, .inr (.inr (.inl (some 71)))), (1, .inr (.inr (.inl (some 81)))), (2, .inl z)] [] (am_mm D (am_up I 88 ((I 81 0)).toNat ((I 88 ((I 81 0)).toNat) + (z * (((I 71 3) - 1) - 0)))) J ρ) _
    refine am_e_ss 1 (q := (36, [(4, .inl ((I 81 0))), (3, .inl 0), (0, .inr (.inr (.inl (some 71)))), (1, .inr (.inr (.inl (some 81)))), (2, .inl z)], [.inl 0], (am_mm D (am_up I 88 ((I 81 0)).toNat ((I 88 ((I 81 0)).toNat) + (z * (((I 71 3) - 1) - 0)))) J ρ))) rfl ?_
    refine am_e_s (q := (39, [(4, .inl ((I 81 0))), (3, .inl 0), (0, .inr (.inr (.inl (some 71)))), (1, .inr (.inr (.inl (some 81)))), (2, .inl z)], [], (am_mm D (am_up I 88 ((I 81 0)).toNat ((I 88 ((I 81 0)).toNat) + (z * (((I 71 3) - 1) - 0)))) J ρ))) rfl rfl ?_
    refine am_e_ss 4 (q := (46, [(4, .inl ((I 81 0))), (3, .inl 0), (0, .inr (.inr (.inl (some 71)))), (1, .inr (.inr (.inl (some 81)))), (2, .inl z)], [.inl ((I 81 0)), .inr (.inr (.inl (some 89))), .inl ((I 81 0)), .inr (.inr (.inl (some 89)))], (am_mm D (am_up I 88 ((I 81 0)).toNat ((I 88 ((I 81 0)).toNat) + (z * (((I 71 3) - 1) - 0)))) J ρ))) rfl ?_
    refine am_e_iaload (m := 6) rfl rfl (by omega) (by omega) (by omega) ?_
    show am_E _ _ _ 47 [(4, .inl ((I 81 0))), (3, .inl 0), (0, .inr (.inr (.inl (some 71)))), (1, .inr (.inr (.inl (some 81)))), (2, .inl z)] [.inl ((I 89 ((I 81 0)).toNat)), .inl ((I 81 0)), .inr (.inr (.inl (some 89)))] (am_mm D (am_up I 88 ((I 81 0)).toNat ((I 88 ((I 81 0)).toNat) + (z * (((I 71 3) - 1) - 0)))) J ρ) _
    refine am_e_ss 2 (q := (49, [(4, .inl ((I 81 0))), (3, .inl 0), (0, .inr (.inr (.inl (some 71)))), (1, .inr (.inr (.inl (some 81)))), (2, .inl z)], [.inl ((I 89 ((I 81 0)).toNat) + z), .inl ((I 81 0)), .inr (.inr (.inl (some 89)))], (am_mm D (am_up I 88 ((I 81 0)).toNat ((I 88 ((I 81 0)).toNat) + (z * (((I 71 3) - 1) - 0)))) J ρ))) rfl ?_
    refine am_e_iastore (m := 6) rfl rfl (by omega) (by omega) (by omega) ?_
    show am_E _ _ _ 50 [(4, .inl ((I 81 0))), (3, .inl 0), (0, .inr (.inr (.inl (some 71)))), (1, .inr (.inr (.inl (some 81)))), (2, .inl z)] [] (am_mm D (am_up (am_up I 88 ((I 81 0)).toNat ((I 88 ((I 81 0)).toNat) + (z * (((I 71 3) - 1) - 0)))) 89 ((I 81 0)).toNat ((I 89 ((I 81 0)).toNat) + z)) J ρ) _
    refine am_e_ss 2 (q := (52, [(4, .inl ((I 81 0))), (3, .inl 0), (0, .inr (.inr (.inl (some 71)))), (1, .inr (.inr (.inl (some 81)))), (2, .inl z)], [.inl 2, .inl 0], (am_mm D (am_up (am_up I 88 ((I 81 0)).toNat ((I 88 ((I 81 0)).toNat) + (z * (((I 71 3) - 1) - 0)))) 89 ((I 81 0)).toNat ((I 89 ((I 81 0)).toNat) + z)) J ρ))) rfl ?_
    refine am_e_s (q := (55, [(4, .inl ((I 81 0))), (3, .inl 0), (0, .inr (.inr (.inl (some 71)))), (1, .inr (.inr (.inl (some 81)))), (2, .inl z)], [], (am_mm D (am_up (am_up I 88 ((I 81 0)).toNat ((I 88 ((I 81 0)).toNat) + (z * (((I 71 3) - 1) - 0)))) 89 ((I 81 0)).toNat ((I 89 ((I 81 0)).toNat) + z)) J ρ))) rfl rfl ?_
    refine am_e_ss 4 (q := (62, [(4, .inl ((I 81 0))), (3, .inl 0), (0, .inr (.inr (.inl (some 71)))), (1, .inr (.inr (.inl (some 81)))), (2, .inl z)], [.inl ((I 81 0)), .inr (.inr (.inl (some 87))), .inl ((I 81 0)), .inr (.inr (.inl (some 87)))], (am_mm D (am_up (am_up I 88 ((I 81 0)).toNat ((I 88 ((I 81 0)).toNat) + (z * (((I 71 3) - 1) - 0)))) 89 ((I 81 0)).toNat ((I 89 ((I 81 0)).toNat) + z)) J ρ))) rfl ?_
    refine am_e_iaload (m := 6) rfl rfl (by omega) (by omega) (by omega) ?_
    show am_E _ _ _ 63 [(4, .inl ((I 81 0))), (3, .inl 0), (0, .inr (.inr (.inl (some 71)))), (1, .inr (.inr (.inl (some 81)))), (2, .inl z)] [.inl ((I 87 ((I 81 0)).toNat)), .inl ((I 81 0)), .inr (.inr (.inl (some 87)))] (am_mm D (am_up (am_up I 88 ((I 81 0)).toNat ((I 88 ((I 81 0)).toNat) + (z * (((I 71 3) - 1) - 0)))) 89 ((I 81 0)).toNat ((I 89 ((I 81 0)).toNat) + z)) J ρ) _
    refine am_e_ss 2 (q := (65, [(4, .inl ((I 81 0))), (3, .inl 0), (0, .inr (.inr (.inl (some 71)))), (1, .inr (.inr (.inl (some 81)))), (2, .inl z)], [.inl ((I 87 ((I 81 0)).toNat) + z), .inl ((I 81 0)), .inr (.inr (.inl (some 87)))], (am_mm D (am_up (am_up I 88 ((I 81 0)).toNat ((I 88 ((I 81 0)).toNat) + (z * (((I 71 3) - 1) - 0)))) 89 ((I 81 0)).toNat ((I 89 ((I 81 0)).toNat) + z)) J ρ))) rfl ?_
    refine am_e_iastore (m := 6) rfl rfl (by omega) (by omega) (by omega) ?_
    show am_E _ _ _ 66 [(4, .inl ((I 81 0))), (3, .inl 0), (0, .inr (.inr (.inl (some 71)))), (1, .inr (.inr (.inl (some 81)))), (2, .inl z)] [] (am_mm D (am_up (am_up (am_up I 88 ((I 81 0)).toNat ((I 88 ((I 81 0)).toNat) + (z * (((I 71 3) - 1) - 0)))) 89 ((I 81 0)).toNat ((I 89 ((I 81 0)).toNat) + z)) 87 ((I 81 0)).toNat ((I 87 ((I 81 0)).toNat) + z)) J ρ) _
    refine am_e_ss 4 (q := (71, [(5, .inl (0 + 1)), (4, .inl ((I 81 0))), (3, .inl 0), (0, .inr (.inr (.inl (some 71)))), (1, .inr (.inr (.inl (some 81)))), (2, .inl z)], [], (am_mm D (am_up (am_up (am_up I 88 ((I 81 0)).toNat ((I 88 ((I 81 0)).toNat) + (z * (((I 71 3) - 1) - 0)))) 89 ((I 81 0)).toNat ((I 89 ((I 81 0)).toNat) + z)) 87 ((I 81 0)).toNat ((I 87 ((I 81 0)).toNat) + z)) J ρ))) rfl ?_
    have g7 : ∀ b, I 87 b = I 87 b := fun b => rfl
    have g8 : ∀ b, I 88 b = I 88 b := fun b => rfl
    have g9 : ∀ b, I 89 b = I 89 b := fun b => rfl
    have gl : ∀ a b, I (91 + a) b = I (91 + a) b := fun a b => rfl
    have hk : 0 < L.length := by omega
    obtain ⟨u, hu⟩ : ∃ u, u = L[0] := ⟨_, rfl⟩
    have huy := hrow 0 _ (List.getElem?_eq_getElem hk)
    rw [Nat.zero_add, ← hu] at huy
    have hu6 : u < 6 := by rw [hu]; exact hx6 _ (List.getElem_mem _)
    have huk := fun b : Nat => sp_pl_k (b := b) h6 hn hk
    have eu : ((I 81 0)).toNat = u := by omega
    have e7 : ∀ b : Nat, b < 6 → (am_up (am_up (am_up I 88 ((I 81 0)).toNat ((I 88 ((I 81 0)).toNat) + (z * (((I 71 3) - 1) - 0)))) 89 ((I 81 0)).toNat ((I 89 ((I 81 0)).toNat) + z)) 87 ((I 81 0)).toNat ((I 87 ((I 81 0)).toNat) + z)) 87 b = I 87 b + z * (if sp_pl L (b : Int) ≤ ((0 : Nat) : Int) ∧ sp_pl L (b : Int) < 2 then 1 else 0) := by
      intro b hb
      have bb := sp_pl_b (b := (b : Int)) h6
      have ub := huk b
      rw [← hu] at ub
      have ob : I 87 b = I 87 b := g7 b
      by_cases e : b = u
      · subst e
        have hb1 := ub.mpr rfl
        rw [show (am_up (am_up (am_up I 88 ((I 81 0)).toNat ((I 88 ((I 81 0)).toNat) + (z * (((I 71 3) - 1) - 0)))) 89 ((I 81 0)).toNat ((I 89 ((I 81 0)).toNat) + z)) 87 ((I 81 0)).toNat ((I 87 ((I 81 0)).toNat) + z)) 87 b = ((I 87 ((I 81 0)).toNat) + z) from (by rw [← eu]; exact am_up_at2), eu]
        rcases hz with rfl | rfl <;> (repeat' split at *) <;> first | omega | (exfalso; omega)
      · rw [show (am_up (am_up (am_up I 88 ((I 81 0)).toNat ((I 88 ((I 81 0)).toNat) + (z * (((I 71 3) - 1) - 0)))) 89 ((I 81 0)).toNat ((I 89 ((I 81 0)).toNat) + z)) 87 ((I 81 0)).toNat ((I 87 ((I 81 0)).toNat) + z)) 87 b = I 87 b from (am_up_ne2 (by omega)).trans ((am_up_ne2 (by omega)).trans ((am_up_ne2 (by omega))))]
        rcases hz with rfl | rfl <;> (repeat' split at *) <;> first | omega | (exfalso; omega)
    have e8 : ∀ b : Nat, b < 6 → (am_up (am_up (am_up I 88 ((I 81 0)).toNat ((I 88 ((I 81 0)).toNat) + (z * (((I 71 3) - 1) - 0)))) 89 ((I 81 0)).toNat ((I 89 ((I 81 0)).toNat) + z)) 87 ((I 81 0)).toNat ((I 87 ((I 81 0)).toNat) + z)) 88 b = I 88 b + z * (if sp_pl L (b : Int) ≤ ((0 : Nat) : Int) then (L.length : Int) - 1 - sp_pl L (b : Int) else 0) := by
      intro b hb
      have bb := sp_pl_b (b := (b : Int)) h6
      have ub := huk b
      rw [← hu] at ub
      have ob : I 88 b = I 88 b := g8 b
      by_cases e : b = u
      · subst e
        have hb1 := ub.mpr rfl
        rw [show (am_up (am_up (am_up I 88 ((I 81 0)).toNat ((I 88 ((I 81 0)).toNat) + (z * (((I 71 3) - 1) - 0)))) 89 ((I 81 0)).toNat ((I 89 ((I 81 0)).toNat) + z)) 87 ((I 81 0)).toNat ((I 87 ((I 81 0)).toNat) + z)) 88 b = ((I 88 ((I 81 0)).toNat) + (z * (((I 71 3) - 1) - 0))) from (am_up_ne2 (by omega)).trans ((am_up_ne2 (by omega)).trans ((by rw [← eu]; exact am_up_at2))), eu]
        rcases hz with rfl | rfl <;> (repeat' split at *) <;> first | omega | (exfalso; omega)
      · rw [show (am_up (am_up (am_up I 88 ((I 81 0)).toNat ((I 88 ((I 81 0)).toNat) + (z * (((I 71 3) - 1) - 0)))) 89 ((I 81 0)).toNat ((I 89 ((I 81 0)).toNat) + z)) 87 ((I 81 0)).toNat ((I 87 ((I 81 0)).toNat) + z)) 88 b = I 88 b from (am_up_ne2 (by omega)).trans ((am_up_ne2 (by omega)).trans ((am_up_ne2 (by omega))))]
        rcases hz with rfl | rfl <;> (repeat' split at *) <;> first | omega | (exfalso; omega)
    have e9 : ∀ b : Nat, b < 6 → (am_up (am_up (am_up I 88 ((I 81 0)).toNat ((I 88 ((I 81 0)).toNat) + (z * (((I 71 3) - 1) - 0)))) 89 ((I 81 0)).toNat ((I 89 ((I 81 0)).toNat) + z)) 87 ((I 81 0)).toNat ((I 87 ((I 81 0)).toNat) + z)) 89 b = I 89 b + z * (if sp_pl L (b : Int) = 0 then 1 else 0) := by
      intro b hb
      have bb := sp_pl_b (b := (b : Int)) h6
      have ub := huk b
      rw [← hu] at ub
      have ob : I 89 b = I 89 b := g9 b
      by_cases e : b = u
      · subst e
        have hb1 := ub.mpr rfl
        rw [show (am_up (am_up (am_up I 88 ((I 81 0)).toNat ((I 88 ((I 81 0)).toNat) + (z * (((I 71 3) - 1) - 0)))) 89 ((I 81 0)).toNat ((I 89 ((I 81 0)).toNat) + z)) 87 ((I 81 0)).toNat ((I 87 ((I 81 0)).toNat) + z)) 89 b = ((I 89 ((I 81 0)).toNat) + z) from (am_up_ne2 (by omega)).trans ((by rw [← eu]; exact am_up_at2)), eu]
        rcases hz with rfl | rfl <;> (repeat' split at *) <;> first | omega | (exfalso; omega)
      · rw [show (am_up (am_up (am_up I 88 ((I 81 0)).toNat ((I 88 ((I 81 0)).toNat) + (z * (((I 71 3) - 1) - 0)))) 89 ((I 81 0)).toNat ((I 89 ((I 81 0)).toNat) + z)) 87 ((I 81 0)).toNat ((I 87 ((I 81 0)).toNat) + z)) 89 b = I 89 b from (am_up_ne2 (by omega)).trans ((am_up_ne2 (by omega)).trans ((am_up_ne2 (by omega))))]
        rcases hz with rfl | rfl <;> (repeat' split at *) <;> first | omega | (exfalso; omega)
    have e4 : ∀ a b : Nat, a < 6 → b < 6 → (am_up (am_up (am_up I 88 ((I 81 0)).toNat ((I 88 ((I 81 0)).toNat) + (z * (((I 71 3) - 1) - 0)))) 89 ((I 81 0)).toNat ((I 89 ((I 81 0)).toNat) + z)) 87 ((I 81 0)).toNat ((I 87 ((I 81 0)).toNat) + z)) (91 + a) b = I (91 + a) b + z * sp_ld2 L ((0 : Nat) : Int) ((0 + 1 : Nat) : Int) a b := by
      intro a b ha hb
      rw [show (am_up (am_up (am_up I 88 ((I 81 0)).toNat ((I 88 ((I 81 0)).toNat) + (z * (((I 71 3) - 1) - 0)))) 89 ((I 81 0)).toNat ((I 89 ((I 81 0)).toNat) + z)) 87 ((I 81 0)).toNat ((I 87 ((I 81 0)).toNat) + z)) (91 + a) b = I (91 + a) b from (am_up_ne2 (by omega)).trans ((am_up_ne2 (by omega)).trans ((am_up_ne2 (by omega)))), show sp_ld2 L ((0 : Nat) : Int) ((0 + 1 : Nat) : Int) a b = 0 from sp_ld2_0 h6, gl a b]
      omega
    refine (am_less (lv := [(5, .inl ((0 + 1) : Int)), (4, .inl ((I 81 0))), (3, .inl (0 : Int)), (2, .inl z), (1, .inr (.inr (.inl (some 81)))), (0, .inr (.inr (.inl (some 71))))]) rfl (List.forall_mem_cons.mpr ⟨rfl, List.forall_mem_cons.mpr ⟨rfl, List.forall_mem_cons.mpr ⟨rfl, List.forall_mem_cons.mpr ⟨rfl, List.forall_mem_cons.mpr ⟨rfl, List.forall_mem_cons.mpr ⟨rfl, List.forall_mem_nil _⟩⟩⟩⟩⟩⟩) (c_tally_81_l (I := am_up (am_up (am_up I 88 ((I 81 0)).toNat ((I 88 ((I 81 0)).toNat) + (z * (((I 71 3) - 1) - 0)))) 89 ((I 81 0)).toNat ((I 89 ((I 81 0)).toNat) + z)) 87 ((I 81 0)).toNat ((I 87 ((I 81 0)).toNat) + z)) d (E := I) (k := 0) (j := 0 + 1) (x := u) hz h71 h6 hn hx6 hrow hk (by omega) hu huy e7 e8 e9 e4)).imp ?_
    rintro q ⟨Q9, rfl, h9⟩
    exact ⟨Q9, am_r_wk uT (am_k_up rfl (am_k_up rfl (am_k_up rfl (am_k_id)))), h9⟩
