/-! MEMORIES THAT ARE ALIKE BUT FOR SOME CELLS -/
/-- as Q where p says so, else as I -/
def am_wp (p : Nat → Nat → Bool) (I Q : Nat → Nat → Int) : Nat → Nat → Int := fun c i => if p c i = true then Q c i else I c i
theorem am_wp_of {p : Nat → Nat → Bool} {I K : Nat → Nat → Int} (h : ∀ c i, p c i = false → K c i = I c i) : K = am_wp p I K := by
  funext c i
  unfold am_wp
  by_cases e : p c i = true
  · rw [if_pos e]
  · rw [if_neg e]
    exact h c i (by simpa using e)
theorem am_k_id {p : Nat → Nat → Bool} {I : Nat → Nat → Int} : ∀ c i, p c i = false → I c i = I c i := fun _ _ _ => rfl
theorem am_k_up {p : Nat → Nat → Bool} {I K : Nat → Nat → Int} {k j : Nat} {v : Int} (hp : p k j = true) (h : ∀ c i, p c i = false → K c i = I c i) : ∀ c i, p c i = false → am_up K k j v c i = I c i := by
  intro c i e
  show (if c = k ∧ i = j then v else K c i) = I c i
  by_cases h2 : c = k ∧ i = j
  · obtain ⟨rfl, rfl⟩ := h2
    rw [hp] at e
    cases e
  · rw [if_neg h2]
    exact h c i e
theorem am_k_wp {p q : Nat → Nat → Bool} {I K Q : Nat → Nat → Int} (hq : ∀ c i, q c i = true → p c i = true) (h : ∀ c i, p c i = false → K c i = I c i) : ∀ c i, p c i = false → am_wp q K Q c i = I c i := by
  intro c i e
  show (if q c i = true then Q c i else K c i) = I c i
  by_cases h2 : q c i = true
  · rw [hq c i h2] at e
    cases e
  · rw [if_neg h2]
    exact h c i e
theorem am_k_sub {p : Nat → Nat → Bool} : ∀ c i, p c i = true → p c i = true := fun _ _ h => h
theorem am_e_wp {X : Nat × (Nat → Int)} {d mid pc : Nat} {lv : List (Nat × am_V)} {st : List am_V} {D : List (Nat × Nat)} {I K J : Nat → Nat → Int} {ρ : Nat → Nat → Option Nat} {P : am_R → Prop} (p : Nat → Nat → Bool) (hk : ∀ c i, p c i = false → K c i = I c i) (h : am_E X d mid pc lv st (am_mm D (am_wp p I K) J ρ) P) : am_E X d mid pc lv st (am_mm D K J ρ) P := by
  rw [am_wp_of hk]
  exact h
theorem am_r_wp {D : List (Nat × Nat)} {I K J : Nat → Nat → Int} {ρ : Nat → Nat → Option Nat} {v : Option am_V} (p : Nat → Nat → Bool) (hk : ∀ c i, p c i = false → K c i = I c i) : ((v, am_mm D K J ρ) : am_R) = (v, am_mm D (am_wp p I K) J ρ) := by
  rw [← am_wp_of hk]
theorem am_up_ro {I : Nat → Nat → Int} {c i : Nat} {v : Int} : am_up I c i v c = am_u1 (I c) i v := by
  rw [am_up_sr, am_sr_at]
theorem am_wp_in {p : Nat → Nat → Bool} {I Q : Nat → Nat → Int} {c i : Nat} (h : p c i = true) : am_wp p I Q c i = Q c i := if_pos h
theorem am_wp_off {p : Nat → Nat → Bool} {I Q : Nat → Nat → Int} {c i : Nat} (h : p c i = false) : am_wp p I Q c i = I c i := if_neg (by rw [h]; decide)
theorem am_up_at2 {I : Nat → Nat → Int} {c i : Nat} {v : Int} : am_up I c i v c i = v := if_pos ⟨rfl, rfl⟩
theorem am_up_ne2 {I : Nat → Nat → Int} {c i c' i' : Nat} {v : Int} (h : c' ≠ c ∨ i' ≠ i) : am_up I c i v c' i' = I c' i' := if_neg (by omega)
/-! THE REFERENCE: looks -/
def sp_fa (S : Nat → Int) (m b : Int) (i : Nat) : Int := if i = 0 then m else if i = 1 then S (26 + m).toNat else if i = 2 then b else if i = 3 then S (38 + b).toNat / 10 else if i = 4 then S (44 + b).toNat else S (50 + b).toNat
def sp_test (x h v : Int) : Int := if h = 0 then (if x < v then 1 else 0) else if h = 1 then (if x = v then 1 else 0) else (if v < x then 1 else 0)
/-- the stack's height ahead of a step -/
def sp_top (stp : Nat → Int) : Nat → Int
  | 0 => 0
  | k + 1 => if 0 ≤ stp k then sp_top stp k + 1 else if stp k = -1 then sp_top stp k else if -10 < stp k then sp_top stp k - 1 else 0
/-- the row of truths ahead of a step -/
def sp_row (f stp r : Nat → Int) : Nat → Nat → Int
  | 0 => r
  | k + 1 => if 0 ≤ stp k then am_u1 (sp_row f stp r k) (sp_top stp k).toNat (sp_test (f (stp k % 8).toNat) (stp k / 8 % 4) (stp k / 32))
    else if stp k = -1 then am_u1 (sp_row f stp r k) (sp_top stp k - 1).toNat (if sp_row f stp r k (sp_top stp k - 1).toNat = 0 then 1 else 0)
    else if -10 < stp k then am_u1 (sp_row f stp r k) (sp_top stp k - 1 - 1).toNat (if stp k = -2 then (if sp_row f stp r k (sp_top stp k - 1 - 1).toNat = 0 then 0 else if sp_row f stp r k (sp_top stp k - 1).toNat = 0 then 0 else 1) else (if ¬ sp_row f stp r k (sp_top stp k - 1 - 1).toNat = 0 then 1 else if sp_row f stp r k (sp_top stp k - 1).toNat = 0 then 0 else 1))
    else sp_row f stp r k
/-- how much a clause's end adds to the liking, to the reading -/
def sp_lkd (t s : Int) : Int := if t = 0 then 0 else if s ≤ -400 then 0 else if s ≤ -200 then s - (-200) else -10 - s
def sp_rdd (t s : Int) : Int := if t = 0 then 0 else if s ≤ -400 then -400 - s else 0
def sp_lkg (f stp r : Nat → Int) : Nat → Int
  | 0 => 0
  | k + 1 => sp_lkg f stp r k + (if stp k ≤ -10 then sp_lkd (sp_row f stp r k 0) (stp k) else 0)
def sp_rdg (f stp r : Nat → Int) : Nat → Int
  | 0 => 0
  | k + 1 => sp_rdg f stp r k + (if stp k ≤ -10 then sp_rdd (sp_row f stp r k 0) (stp k) else 0)
/-- steps that can be gone through -/
def sp_wf (stp : Nat → Int) (n : Nat) : Prop := ∀ k, k < n → (-500 < stp k ∧ stp k < 3200) ∧ (0 ≤ stp k → stp k % 8 ≤ 5 ∧ 0 ≤ sp_top stp k ∧ sp_top stp k < 30) ∧ (stp k = -1 → 1 ≤ sp_top stp k ∧ sp_top stp k ≤ 30) ∧ (-10 < stp k → stp k < -1 → 2 ≤ sp_top stp k ∧ sp_top stp k ≤ 30) ∧ (stp k ≤ -10 → sp_top stp k = 1)
theorem sp_test_01 (x h v : Int) : sp_test x h v = 0 ∨ sp_test x h v = 1 := by
  unfold sp_test
  (repeat' split) <;> simp
theorem sp_lkg_b {f stp r : Nat → Int} {n : Nat} (hw : sp_wf stp n) : ∀ k, k ≤ n → -500 * (k : Int) ≤ sp_lkg f stp r k ∧ sp_lkg f stp r k ≤ 500 * (k : Int) := by
  intro k
  induction k with
  | zero => intro _; exact ⟨by show _ ≤ (0 : Int); omega, by show (0 : Int) ≤ _; omega⟩
  | succ k ih =>
    intro hk
    have h1 := ih (by omega)
    have h2 := (hw k (by omega)).1
    have h3 : -500 ≤ (if stp k ≤ -10 then sp_lkd (sp_row f stp r k 0) (stp k) else 0) ∧ (if stp k ≤ -10 then sp_lkd (sp_row f stp r k 0) (stp k) else 0) ≤ 500 := by
      unfold sp_lkd
      (repeat' split) <;> omega
    show -500 * ((k + 1 : Nat) : Int) ≤ sp_lkg f stp r k + _ ∧ sp_lkg f stp r k + _ ≤ 500 * ((k + 1 : Nat) : Int)
    omega
theorem sp_rdg_b {f stp r : Nat → Int} {n : Nat} (hw : sp_wf stp n) : ∀ k, k ≤ n → -500 * (k : Int) ≤ sp_rdg f stp r k ∧ sp_rdg f stp r k ≤ 500 * (k : Int) := by
  intro k
  induction k with
  | zero => intro _; exact ⟨by show _ ≤ (0 : Int); omega, by show (0 : Int) ≤ _; omega⟩
  | succ k ih =>
    intro hk
    have h1 := ih (by omega)
    have h2 := (hw k (by omega)).1
    have h3 : -500 ≤ (if stp k ≤ -10 then sp_rdd (sp_row f stp r k 0) (stp k) else 0) ∧ (if stp k ≤ -10 then sp_rdd (sp_row f stp r k 0) (stp k) else 0) ≤ 500 := by
      unfold sp_rdd
      (repeat' split) <;> omega
    show -500 * ((k + 1 : Nat) : Int) ≤ sp_rdg f stp r k + _ ∧ sp_rdg f stp r k + _ ≤ 500 * ((k + 1 : Nat) : Int)
    omega
theorem sp_row_01 {f stp r : Nat → Int} {n : Nat} (hw : sp_wf stp n) : ∀ k, k ≤ n → ∀ j : Nat, (j : Int) < sp_top stp k → sp_row f stp r k j = 0 ∨ sp_row f stp r k j = 1 := by
  intro k
  induction k with
  | zero => intro _ j hj; have : (j : Int) < 0 := hj; omega
  | succ k ih =>
    intro hk j hj
    have h1 := ih (by omega)
    have h2 := hw k (by omega)
    unfold sp_row
    unfold sp_top at hj
    unfold am_u1
    by_cases a1 : 0 ≤ stp k
    · rw [if_pos a1] at hj ⊢
      split
      · exact sp_test_01 _ _ _
      · exact h1 j (by omega)
    · rw [if_neg a1] at hj ⊢
      by_cases a2 : stp k = -1
      · rw [if_pos a2] at hj ⊢
        split
        · split <;> simp
        · exact h1 j (by omega)
      · rw [if_neg a2] at hj ⊢
        by_cases a3 : -10 < stp k
        · rw [if_pos a3] at hj ⊢
          split
          · (repeat' split) <;> simp
          · exact h1 j (by omega)
        · rw [if_neg a3] at hj ⊢
          omega
/-- the steps of the club that holds -/
def sp_stp (S : Nat → Int) (k : Nat) : Int := S (178 + 140 * S 24 + k).toNat
def sp_many (S : Nat → Int) : Int := if S 24 = -1 then 0 else S (173 + S 24).toNat
def sp_wfS (S : Nat → Int) : Prop := sp_wf (sp_stp S) (sp_many S).toNat
def sp_liking (S : Nat → Int) (m b : Int) (r : Nat → Int) : Int := sp_lkg (sp_fa S m b) (sp_stp S) r (sp_many S).toNat
def sp_reading (S : Nat → Int) (m b : Int) (r : Nat → Int) : Int := sp_rdg (sp_fa S m b) (sp_stp S) r (sp_many S).toNat
def tL : Nat → Nat → Bool := fun c i => Nat.beq c 111 || (Nat.beq c 112 || (Nat.beq c 107 && (Nat.beq i 12 || Nat.beq i 13)))
def tK : Nat → Nat → Bool := fun c i => Nat.beq c 112 || (Nat.beq c 107 && (Nat.beq i 12 || Nat.beq i 13))
theorem sp_top_s {stp : Nat → Int} {k : Nat} : sp_top stp (k + 1) = if 0 ≤ stp k then sp_top stp k + 1 else if stp k = -1 then sp_top stp k else if -10 < stp k then sp_top stp k - 1 else 0 := rfl
theorem sp_row_s {f stp r : Nat → Int} {k : Nat} : sp_row f stp r (k + 1) = if 0 ≤ stp k then am_u1 (sp_row f stp r k) (sp_top stp k).toNat (sp_test (f (stp k % 8).toNat) (stp k / 8 % 4) (stp k / 32))
    else if stp k = -1 then am_u1 (sp_row f stp r k) (sp_top stp k - 1).toNat (if sp_row f stp r k (sp_top stp k - 1).toNat = 0 then 1 else 0)
    else if -10 < stp k then am_u1 (sp_row f stp r k) (sp_top stp k - 1 - 1).toNat (if stp k = -2 then (if sp_row f stp r k (sp_top stp k - 1 - 1).toNat = 0 then 0 else if sp_row f stp r k (sp_top stp k - 1).toNat = 0 then 0 else 1) else (if ¬ sp_row f stp r k (sp_top stp k - 1 - 1).toNat = 0 then 1 else if sp_row f stp r k (sp_top stp k - 1).toNat = 0 then 0 else 1))
    else sp_row f stp r k := rfl
theorem sp_lkg_s {f stp r : Nat → Int} {k : Nat} : sp_lkg f stp r (k + 1) = sp_lkg f stp r k + (if stp k ≤ -10 then sp_lkd (sp_row f stp r k 0) (stp k) else 0) := rfl
theorem sp_rdg_s {f stp r : Nat → Int} {k : Nat} : sp_rdg f stp r (k + 1) = sp_rdg f stp r k + (if stp k ≤ -10 then sp_rdd (sp_row f stp r k 0) (stp k) else 0) := rfl
theorem tK_tL : ∀ c i, tK c i = true → tL c i = true := by
  intro c i
  unfold tK tL
  simp
  omega
