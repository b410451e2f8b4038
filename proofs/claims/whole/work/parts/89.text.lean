/-! WHAT A CLUB'S TEXT SAYS: h the sign at a place (-1 behind the end); a result: the place, and codes, or none where it is a FAULT -/
abbrev pt_R : Type := Nat × Option (List Int)
def pt_num (h : Nat → Int) (p : Nat) : Nat × Option Int := if ¬ (48 ≤ h p ∧ h p ≤ 57) then (p, none) else if h p = 48 ∨ ¬ (48 ≤ h (p + 1) ∧ h (p + 1) ≤ 57) then (p + 1, some (h p - 48)) else (p + 2, some ((h p - 48) * 10 + (h (p + 1) - 48)))
def pt_wh (s : Int) : Int := if s = 109 then 0 else if s = 107 then 1 else if s = 98 then 2 else if s = 112 then 3 else if s = 111 then 4 else if s = 115 then 5 else -1
def pt_hw (s : Int) : Int := if s = 60 then 0 else if s = 61 then 1 else if s = 62 then 2 else -1
def pt_tst (h : Nat → Int) (p : Nat) : pt_R := if pt_wh (h p) = -1 then (p, none) else if pt_hw (h (p + 1)) = -1 then (p + 1, none) else match pt_num h (p + 2) with
  | (q, none) => (q, none)
  | (q, some v) => (q, some [pt_wh (h p) + 8 * pt_hw (h (p + 1)) + 32 * v])
/-- as long as a sign s comes: one more by F, and code j -/
def pt_lp (h : Nat → Int) (F : Nat → pt_R) (s j : Int) : Nat → Nat → List Int → pt_R
  | 0, p, L => (p, some L)
  | n + 1, p, L => if ¬ h p = s then (p, some L) else match F (p + 1) with
    | (q, none) => (q, none)
    | (q, some L2) => pt_lp h F s j n q (L ++ L2 ++ [j])
def pt_jn (h : Nat → Int) (F : Nat → pt_R) (s j : Int) (p : Nat) : pt_R := match F p with
  | (q, none) => (q, none)
  | (q, some L) => pt_lp h F s j 101 q L
def pt_E (h : Nat → Int) (F : Nat → pt_R) : Nat → pt_R := pt_jn h (pt_jn h F 38 (-2)) 124 (-3)
def pt_F (h : Nat → Int) : Nat → Nat → pt_R
  | 0 => fun p => if h p = 33 ∨ h p = 40 then (p, none) else pt_tst h p
  | l + 1 => fun p => if h p = 33 then (match pt_F h l (p + 1) with
      | (q, none) => (q, none)
      | (q, some L) => (q, some (L ++ [-1])))
    else if h p = 40 then (match pt_E h (pt_F h l) (p + 1) with
      | (q, none) => (q, none)
      | (q, some L) => if h q = 41 then (q + 1, some L) else (q, none))
    else pt_tst h p
/-- codes that put one truth on a stack and need m places of it -/
def pt_gd (m : Int) (L : List Int) : Prop := ∀ h, 0 ≤ h → h + m ≤ 30 → ps_hk L h ∧ ps_ht L h = h + 1
theorem ps_ht_app {A C : List Int} : ∀ {h : Int}, ps_ht (A ++ C) h = ps_ht C (ps_ht A h) := by
  induction A with
  | nil => intro h; rfl
  | cons a A ih => intro h; exact ih
theorem ps_hk_app {A C : List Int} : ∀ {h : Int}, ps_hk A h → ps_hk C (ps_ht A h) → ps_hk (A ++ C) h := by
  induction A with
  | nil => intro h _ h2; exact h2
  | cons a A ih => intro h h1 h2; exact ⟨h1.1, ih h1.2 h2⟩
theorem pt_gd_mono {m m' : Int} {L : List Int} (h : pt_gd m L) (hm : m ≤ m') : pt_gd m' L := fun x h0 h1 => h x h0 (by omega)
theorem pt_gd_not {m : Int} {L : List Int} (h : pt_gd m L) (hm : 1 ≤ m) : pt_gd m (L ++ [-1]) := by
  intro x h0 h1
  obtain ⟨g1, g2⟩ := h x h0 h1
  refine ⟨ps_hk_app g1 ⟨Or.inr (Or.inl ⟨rfl, by omega, by omega⟩), True.intro⟩, ?_⟩
  rw [ps_ht_app, g2]
  rfl
theorem pt_gd_jn {m : Int} {L L2 : List Int} {j : Int} (hj : j = -2 ∨ j = -3) (h : pt_gd (m + 1) L) (h2 : pt_gd m L2) (hm : 1 ≤ m) : pt_gd (m + 1) (L ++ L2 ++ [j]) := by
  intro x h0 h1
  obtain ⟨g1, g2⟩ := h x h0 h1
  obtain ⟨g3, g4⟩ := h2 (x + 1) (by omega) (by omega)
  have e : ps_ht (L ++ L2) x = x + 1 + 1 := by rw [ps_ht_app, g2, g4]
  refine ⟨ps_hk_app (ps_hk_app g1 (by rw [g2]; exact g3)) ⟨Or.inr (Or.inr ⟨hj, by rw [e]; omega, by rw [e]; omega⟩), True.intro⟩, ?_⟩
  rw [ps_ht_app, e]
  show ps_nh j (x + 1 + 1) = x + 1
  unfold ps_nh
  rw [if_neg (by omega), if_neg (by omega)]
  omega
/-- a part of the text, well read: farther, not beyond the end, no more codes than places -/
def pt_ok (z : Nat) (m : Int) (F : Nat → pt_R) : Prop := ∀ p q L, F p = (q, some L) → p < q ∧ q ≤ z ∧ L.length ≤ q - p ∧ pt_gd m L
theorem pt_num_ok {h : Nat → Int} {z p q : Nat} {v : Int} (hz : ∀ i, z ≤ i → h i = -1) (e : pt_num h p = (q, some v)) : p < q ∧ q ≤ z ∧ (0 ≤ v ∧ v ≤ 99) := by
  have a1 : 48 ≤ h p → p < z := fun e => by
    by_cases e2 : p < z
    · exact e2
    · have := hz p (by omega); omega
  have a2 : 48 ≤ h (p + 1) → p + 1 < z := fun e => by
    by_cases e2 : p + 1 < z
    · exact e2
    · have := hz (p + 1) (by omega); omega
  unfold pt_num at e
  split at e
  · cases e
  · split at e
    · cases e; omega
    · cases e; omega
theorem pt_tst_ok {h : Nat → Int} {z : Nat} (hz : ∀ i, z ≤ i → h i = -1) : pt_ok z 1 (pt_tst h) := by
  intro p q L e
  unfold pt_tst at e
  split at e
  · cases e
  · rename_i e1
    split at e
    · cases e
    · rename_i e2
      split at e
      · cases e
      · rename_i q' v e3
        cases e
        obtain ⟨n1, n2, n3⟩ := pt_num_ok hz e3
        have w1 : 0 ≤ pt_wh (h p) ∧ pt_wh (h p) ≤ 5 := by
          unfold pt_wh at e1 ⊢
          (repeat' split) <;> first | omega | (exfalso; simp_all)
        have w2 : 0 ≤ pt_hw (h (p + 1)) ∧ pt_hw (h (p + 1)) ≤ 2 := by
          unfold pt_hw at e2 ⊢
          (repeat' split) <;> first | omega | (exfalso; simp_all)
        refine ⟨by omega, n2, by rw [List.length_singleton]; omega, ?_⟩
        intro x h0 h1
        have c0 : 0 ≤ pt_wh (h p) + 8 * pt_hw (h (p + 1)) + 32 * v := by omega
        refine ⟨⟨Or.inl ⟨c0, by omega, by omega, by omega, h0, by omega⟩, True.intro⟩, ?_⟩
        show ps_nh _ x = _
        exact if_pos c0
theorem pt_lp_ok {h : Nat → Int} {F : Nat → pt_R} {z : Nat} {m s j : Int} (hj : j = -2 ∨ j = -3) (hm : 1 ≤ m) (hF : pt_ok z m F) : ∀ n p q L L', pt_gd (m + 1) L → pt_lp h F s j n p L = (q, some L') → p ≤ q ∧ (p ≤ z → q ≤ z) ∧ L'.length ≤ L.length + (q - p) ∧ pt_gd (m + 1) L' := by
  intro n
  induction n with
  | zero => intro p q L L' hL e; cases e; exact ⟨Nat.le_refl _, id, by omega, hL⟩
  | succ n ih =>
    intro p q L L' hL e
    unfold pt_lp at e
    split at e
    · cases e; exact ⟨Nat.le_refl _, id, by omega, hL⟩
    · split at e
      · cases e
      · rename_i q2 L2 e2
        obtain ⟨f1, f2, f3, f4⟩ := hF _ _ _ e2
        obtain ⟨g1, g2, g3, g4⟩ := ih _ _ _ _ (pt_gd_jn hj hL f4 hm) e
        rw [List.length_append, List.length_append, List.length_singleton] at g3
        exact ⟨by omega, fun _ => g2 f2, by omega, g4⟩
theorem pt_jn_ok {h : Nat → Int} {F : Nat → pt_R} {z : Nat} {m s j : Int} (hj : j = -2 ∨ j = -3) (hm : 1 ≤ m) (hF : pt_ok z m F) : pt_ok z (m + 1) (pt_jn h F s j) := by
  intro p q L e
  unfold pt_jn at e
  split at e
  · cases e
  · rename_i q2 L2 e2
    obtain ⟨f1, f2, f3, f4⟩ := hF _ _ _ e2
    obtain ⟨g1, g2, g3, g4⟩ := pt_lp_ok hj hm hF _ _ _ _ _ (pt_gd_mono f4 (by omega)) e
    exact ⟨by omega, g2 f2, by omega, g4⟩
theorem pt_E_ok {h : Nat → Int} {F : Nat → pt_R} {z : Nat} {m : Int} (hm : 1 ≤ m) (hF : pt_ok z m F) : pt_ok z (m + 1 + 1) (pt_E h F) := pt_jn_ok (Or.inr rfl) (by omega) (pt_jn_ok (Or.inl rfl) hm hF)
theorem pt_F_ok {h : Nat → Int} {z : Nat} (hz : ∀ i, z ≤ i → h i = -1) : ∀ l : Nat, pt_ok z (1 + 2 * (l : Int)) (pt_F h l) := by
  intro l
  induction l with
  | zero =>
    intro p q L e
    unfold pt_F at e
    split at e
    · cases e
    · exact pt_tst_ok hz p q L e
  | succ l ih =>
    intro p q L e
    have hp : ∀ s : Int, 0 ≤ s → h p = s → p < z := fun s hs e => by
      by_cases e2 : p < z
      · exact e2
      · have := hz p (by omega); omega
    unfold pt_F at e
    split at e
    · split at e
      · cases e
      · rename_i q2 L2 e2
        cases e
        obtain ⟨f1, f2, f3, f4⟩ := ih _ _ _ e2
        refine ⟨by omega, f2, by rw [List.length_append, List.length_singleton]; omega, pt_gd_not (pt_gd_mono f4 (by omega)) (by omega)⟩
    · split at e
      · split at e
        · cases e
        · rename_i q2 L2 e2
          split at e
          · rename_i e3
            cases e
            obtain ⟨f1, f2, f3, f4⟩ := pt_E_ok (by omega) ih _ _ _ e2
            have hq : q2 < z := by
              by_cases e4 : q2 < z
              · exact e4
              · have := hz q2 (by omega); omega
            exact ⟨by omega, by omega, by omega, pt_gd_mono f4 (by omega)⟩
          · cases e
      · obtain ⟨f1, f2, f3, f4⟩ := pt_tst_ok hz p q L e
        exact ⟨f1, f2, f3, pt_gd_mono f4 (by omega)⟩
