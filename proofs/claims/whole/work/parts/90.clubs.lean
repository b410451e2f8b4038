/-! WHAT A CLUB'S TEXT SAYS: clauses -/
def pt_w (h : Nat → Int) : List Int → Nat → Nat × Bool
  | [], p => (p, true)
  | s :: w, p => if h p = s then pt_w h w (p + 1) else (p, false)
def pt_wv (v : Int) (r : Nat × Bool) : Nat × Option Int := (r.1, if r.2 = true then some v else none)
def pt_word (h : Nat → Int) (p : Nat) : Nat × Option Int := if h p = 114 then pt_wv 2 (pt_w h [114, 101, 97, 100] p) else if h p = 99 then pt_wv 3 (pt_w h [99, 111, 109, 101] p) else if h p = 108 then (if h (p + 1) = 105 then pt_wv 0 (pt_w h [105, 107, 101] (p + 1)) else pt_wv 1 (pt_w h [111, 97, 116, 104] (p + 1))) else (p, none)
def pt_cl (h : Nat → Int) (p : Nat) : Nat × Option ps_C := match pt_word h p with
  | (q, none) => (q, none)
  | (q, some w) => if ¬ h q = 32 then (q, none) else match pt_num h (q + 1) with
    | (r, none) => (r, none)
    | (r, some n) => if w = 3 then (r, some (3, n, [])) else if ¬ h r = 32 then (r, none) else match pt_E h (pt_F h 5) (r + 1) with
      | (t, none) => (t, none)
      | (t, some L) => (t, some (w, n, L))
/-- n clauses more at most, those of cs are read -/
def pt_cs (h : Nat → Int) (z : Nat) : Nat → Nat → List ps_C → Nat × Option (List ps_C)
  | 0, p, _ => (p, none)
  | n + 1, p, cs => match pt_cl h p with
    | (q, none) => (q, none)
    | (q, some x) => if q = z then (q, some (cs ++ [x])) else if n = 0 ∨ ¬ h q = 59 then (q, none) else pt_cs h z n (q + 1) (cs ++ [x])
theorem pt_w_ge {h : Nat → Int} : ∀ {w : List Int} {p : Nat}, p ≤ (pt_w h w p).1 := by
  intro w
  induction w with
  | nil => intro p; exact Nat.le_refl _
  | cons s w ih =>
    intro p
    unfold pt_w
    split
    · have := ih (p := p + 1); omega
    · exact Nat.le_refl _
theorem pt_word_ok {h : Nat → Int} {p q : Nat} {w : Int} (e : pt_word h p = (q, some w)) : p ≤ q ∧ (0 ≤ w ∧ w ≤ 3) := by
  have key : ∀ {v : Int} {l : List Int} {p' : Nat}, pt_wv v (pt_w h l p') = (q, some w) → p' ≤ q ∧ w = v := by
    intro v l p' e
    unfold pt_wv at e
    have h1 := pt_w_ge (h := h) (w := l) (p := p')
    have e1 := congrArg Prod.fst e
    have e2 := congrArg Prod.snd e
    dsimp only at e1 e2
    split at e2
    · cases e2; exact ⟨by omega, rfl⟩
    · cases e2
  unfold pt_word at e
  split at e
  · obtain ⟨a, rfl⟩ := key e; exact ⟨a, by omega⟩
  · split at e
    · obtain ⟨a, rfl⟩ := key e; exact ⟨a, by omega⟩
    · split at e
      · split at e
        · obtain ⟨a, rfl⟩ := key e; exact ⟨by omega, by omega⟩
        · obtain ⟨a, rfl⟩ := key e; exact ⟨by omega, by omega⟩
      · cases e
theorem pt_cl_ok {h : Nat → Int} {z p q : Nat} {x : ps_C} (hz : ∀ i, z ≤ i → h i = -1) (e : pt_cl h p = (q, some x)) : p < q ∧ q ≤ z ∧ x.2.2.length ≤ q - p ∧ ps_clw x := by
  unfold pt_cl at e
  split at e
  · cases e
  · rename_i q1 w e1
    obtain ⟨a1, a2⟩ := pt_word_ok e1
    split at e
    · cases e
    · split at e
      · cases e
      · rename_i r n e2
        obtain ⟨b1, b2, b3⟩ := pt_num_ok hz e2
        split at e
        · cases e
          exact ⟨by omega, b2, by show 0 ≤ _; omega, ⟨by show (0 : Int) ≤ 3; omega, by show (3 : Int) ≤ 3; omega⟩, b3, fun _ => rfl, fun h => absurd rfl h⟩
        · rename_i e3
          split at e
          · cases e
          · split at e
            · cases e
            · rename_i t L e4
              cases e
              obtain ⟨c1, c2, c3, c4⟩ := pt_E_ok (by omega) (pt_F_ok hz 5) _ _ _ e4
              have hb := c4 0 (by omega) (by omega)
              exact ⟨by omega, c2, by show L.length ≤ _; omega, a2, b3, fun h => absurd h e3, fun _ => ⟨hb.1, hb.2⟩⟩
theorem pt_cs_ok {h : Nat → Int} {z : Nat} (hz : ∀ i, z ≤ i → h i = -1) : ∀ n p q cs cs', (∀ x ∈ cs, ps_clw x) → (ps_codes cs).length ≤ p → pt_cs h z n p cs = (q, some cs') → q = z ∧ cs'.length ≤ cs.length + n ∧ (∀ x ∈ cs', ps_clw x) ∧ (ps_codes cs').length ≤ z := by
  intro n
  induction n with
  | zero => intro p q cs cs' _ _ e; cases e
  | succ n ih =>
    intro p q cs cs' h1 h2 e
    unfold pt_cs at e
    split at e
    · cases e
    · rename_i q1 x e1
      obtain ⟨a1, a2, a3, a4⟩ := pt_cl_ok hz e1
      have h1' : ∀ y ∈ cs ++ [x], ps_clw y := by
        intro y hy
        rcases List.mem_append.mp hy with hy | hy
        · exact h1 y hy
        · rw [List.mem_singleton.mp hy]; exact a4
      have hl : (ps_codes (cs ++ [x])).length = (ps_codes cs).length + x.2.2.length := by
        unfold ps_codes; rw [List.flatMap_append, List.length_append]; simp
      split at e
      · rename_i e2
        cases e
        exact ⟨e2, by rw [List.length_append, List.length_singleton]; omega, h1', by omega⟩
      · split at e
        · cases e
        · obtain ⟨g1, g2, g3, g4⟩ := ih _ _ _ _ h1' (by omega) e
          rw [List.length_append, List.length_singleton] at g2
          exact ⟨g1, by omega, g3, g4⟩
theorem pt_wf {h : Nat → Int} {z q : Nat} {cs : List ps_C} (hz : ∀ i, z ≤ i → h i = -1) (hz1 : z ≤ 100) (e : pt_cs h z 10 0 [] = (q, some cs)) : q = z ∧ ps_wf cs := by
  obtain ⟨g1, g2, g3, g4⟩ := pt_cs_ok hz 10 0 q [] cs (fun x hx => by simp at hx) (Nat.le_refl _) e
  exact ⟨g1, by simpa using g2, g3, by omega⟩
