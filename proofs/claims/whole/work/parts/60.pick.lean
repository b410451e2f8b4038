/-! THE CLASS: pairs, turns, the choice -/
def sp_sfx (S : Nat → Int) : Nat → Nat → List Nat
  | _, 0 => []
  | a, k + 1 => if S (13 + a) = 0 then a :: sp_sfx S (a + 1) k else sp_sfx S (a + 1) k
theorem sp_sfx_s {S : Nat → Int} {a k : Nat} : sp_sfx S a (k + 1) = if S (13 + a) = 0 then a :: sp_sfx S (a + 1) k else sp_sfx S (a + 1) k := rfl
theorem sp_sfx_app {S : Nat → Int} : ∀ k a, sp_obk S a ++ sp_sfx S a k = sp_obk S (a + k) := by
  intro k
  induction k with
  | zero => intro a; exact List.append_nil _
  | succ k ih =>
    intro a
    have h := ih (a + 1)
    rw [show a + 1 + k = a + (k + 1) by omega] at h
    rw [← h, sp_sfx_s]
    by_cases e : S (13 + a) = 0
    · rw [if_pos e, sp_obk_s1 e, List.append_assoc]; rfl
    · rw [if_neg e, sp_obk_s0 e]
theorem sp_sfx_ob {S : Nat → Int} : sp_sfx S 0 (S 20).toNat = sp_ob S := by
  have h := sp_sfx_app (S := S) (S 20).toNat 0
  rw [Nat.zero_add] at h
  exact h
/-- the first that beats all others -/
def sp_pgo (ld : Nat → Nat → Int) (L : List Nat) (z : Int) : List Nat → Int
  | [] => z
  | x :: r => if L.all (fun y => y == x || decide (0 < ld x y)) then (x : Int) else sp_pgo ld L z r
theorem sp_pgo_c {ld : Nat → Nat → Int} {L : List Nat} {z : Int} {x : Nat} {r : List Nat} : sp_pgo ld L z (x :: r) = if L.all (fun y => y == x || decide (0 < ld x y)) then (x : Int) else sp_pgo ld L z r := rfl
theorem sp_beats_iff {S V Z : Nat → Int} {a : Nat} : ∀ n, sp_beats S V Z a n = 1 ↔ (S (13 + a) = 0 ∧ ∀ b, b < n → (b = a ∨ ¬ S (13 + b) = 0 ∨ 0 < sp_ahead S V Z a b)) := by
  intro n
  induction n with
  | zero =>
    unfold sp_beats
    by_cases e : S (13 + a) = 0
    · rw [if_pos e]; exact ⟨fun _ => ⟨e, fun b hb => by omega⟩, fun _ => rfl⟩
    · rw [if_neg e]; exact ⟨fun h => by omega, fun h => absurd h.1 e⟩
  | succ n ih =>
    have h01 := sp_beats_01 (S := S) (V := V) (Z := Z) (a := a) n
    unfold sp_beats
    by_cases e : sp_beats S V Z a n = 0
    · rw [if_pos e]
      constructor
      · intro h; omega
      · intro h
        have := ih.mpr ⟨h.1, fun b hb => h.2 b (by omega)⟩
        omega
    · rw [if_neg e]
      have h1 := ih.mp (by omega)
      by_cases e2 : n = a ∨ ¬ S (13 + n) = 0 ∨ 0 < sp_ahead S V Z a n
      · rw [if_pos e2]
        refine ⟨fun _ => ⟨h1.1, ?_⟩, fun _ => rfl⟩
        intro b hb
        by_cases e3 : b = n
        · rw [e3]; exact e2
        · exact h1.2 b (by omega)
      · rw [if_neg e2]
        exact ⟨fun h => by omega, fun h => absurd (h.2 n (by omega)) e2⟩
theorem sp_pairf_pgo {S : Nat → Int} {VL : Nat → List Nat} {B : Int} {ld : Nat → Nat → Int} (hok : r_ok S B) (hv : sp_vcs S VL) (hld : ∀ a b : Nat, a < 6 → b < 6 → ld a b = sp_tla VL a b (S 19).toNat) : ∀ k a, k + a = (S 20).toNat → sp_pairf S (sp_Vr VL) (sp_Zr VL) k a = sp_pgo ld (sp_ob S) (sp_most S (sp_Vr VL) (sp_Zr VL) 1 (-1)) (sp_sfx S a k) := by
  have h20 := (r_ok_19 hok).2
  intro k
  induction k with
  | zero => intro a _; rfl
  | succ k ih =>
    intro a hk
    rw [sp_sfx_s]
    unfold sp_pairf
    have h01 := sp_beats_01 (S := S) (V := sp_Vr VL) (Z := sp_Zr VL) (a := a) (S 20).toNat
    have hbi := sp_beats_iff (S := S) (V := sp_Vr VL) (Z := sp_Zr VL) (a := a) (S 20).toNat
    rw [ih (a + 1) (by omega)]
    by_cases e : S (13 + a) = 0
    · rw [if_pos e, sp_pgo_c]
      have key : (sp_ob S).all (fun y => y == a || decide (0 < ld a y)) = true ↔ sp_beats S (sp_Vr VL) (sp_Zr VL) a (S 20).toNat = 1 := by
        rw [hbi, List.all_eq_true]
        constructor
        · intro h
          refine ⟨e, ?_⟩
          intro b hb
          by_cases e1 : b = a
          · exact Or.inl e1
          · by_cases e2 : S (13 + b) = 0
            · have h3 := h b (sp_ob_mem.mpr ⟨hb, e2⟩)
              rw [Bool.or_eq_true, decide_eq_true_eq, beq_iff_eq] at h3
              rcases h3 with h3 | h3
              · exact Or.inl h3
              · refine Or.inr (Or.inr ?_)
                rw [hld a b (by omega) (by omega), ← sp_ahk_tla hok hv ⟨by omega, e⟩ ⟨hb, e2⟩ (fun h => e1 h.symm) _ (Nat.le_refl _)] at h3
                exact h3
            · exact Or.inr (Or.inl e2)
        · intro h y hy
          have hy2 := sp_ob_mem.mp hy
          rw [Bool.or_eq_true, decide_eq_true_eq, beq_iff_eq]
          rcases h.2 y hy2.1 with h3 | h3 | h3
          · exact Or.inl h3
          · exact absurd hy2.2 h3
          · by_cases e1 : y = a
            · exact Or.inl e1
            · right
              rw [hld a y (by omega) (by omega), ← sp_ahk_tla hok hv ⟨by omega, e⟩ hy2 (fun h => e1 h.symm) _ (Nat.le_refl _)]
              exact h3
      by_cases e2 : sp_beats S (sp_Vr VL) (sp_Zr VL) a (S 20).toNat = 0
      · rw [if_pos e2, if_neg (fun h => by have := key.mp h; omega)]
      · rw [if_neg e2, if_pos (key.mpr (by omega))]
    · rw [if_neg e]
      have : sp_beats S (sp_Vr VL) (sp_Zr VL) a (S 20).toNat = 0 := by
        rcases h01 with h | h
        · exact h
        · exact absurd (hbi.mp h).1 e
      rw [if_pos this]
theorem sp_pgo_no {ld : Nat → Nat → Int} {L : List Nat} {z : Int} {x : Nat} {r : List Nat} (h : ∃ y ∈ L, ¬ y = x ∧ ¬ 0 < ld x y) : sp_pgo ld L z (x :: r) = sp_pgo ld L z r := by
  refine if_neg ?_
  rw [List.all_eq_true]
  intro h2
  obtain ⟨y, h3, h4, h5⟩ := h
  have := h2 y h3
  rw [Bool.or_eq_true, decide_eq_true_eq, beq_iff_eq] at this
  rcases this with h6 | h6
  · exact h4 h6
  · exact h5 h6
theorem sp_pgo_yes {ld : Nat → Nat → Int} {L : List Nat} {z : Int} {x : Nat} {r : List Nat} (h : ∀ y ∈ L, y = x ∨ 0 < ld x y) : sp_pgo ld L z (x :: r) = (x : Int) := by
  refine if_pos ?_
  rw [List.all_eq_true]
  intro y hy
  rw [Bool.or_eq_true, decide_eq_true_eq, beq_iff_eq]
  exact h y hy
theorem sp_ob_nd (S : Nat → Int) : (sp_ob S).Nodup := (sp_obk_pw _).imp (fun h => Nat.ne_of_lt h)
theorem c_pairs_l {X : Nat × (Nat → Int)} {D : List (Nat × Nat)} {I J : Nat → Nat → Int} {ρ : Nat → Nat → Option Nat} (d : Nat) {S : Nat → Int} {B : Int} {VL : Nat → List Nat} (hok : r_ok S B) (hord : c_ords I S) (hvoi : c_voi I VL (S 19).toNat) (hv : sp_vcs S VL) (ho : ¬ sp_ops S = 0) {al : Int} {i j : Nat} (hil : i < (sp_ob S).length) (hj : j ≤ (sp_ob S).length) (hal : (al = 1 ∧ ∀ k, k < j → (sp_ob S).getD k 0 = (sp_ob S).getD i 0 ∨ 0 < I (91 + (sp_ob S).getD i 0) ((sp_ob S).getD k 0)) ∨ (al = 0 ∧ ∃ y ∈ sp_ob S, ¬ y = (sp_ob S).getD i 0 ∧ ¬ 0 < I (91 + (sp_ob S).getD i 0) y))  : am_E X (d + 1) 80 14 [(3, .inl (j : Int)), (2, .inl al), (1, .inl (i : Int)), (0, .inr (.inr (.inl (some 71))))] [] (am_mm D I J ρ) (fun r => r = (some (.inl ((sp_pgo (fun a b : Nat => I (91 + a) b) (sp_ob S) (sp_most S (sp_Vr VL) (sp_Zr VL) 1 (-1)) ((sp_ob S).drop i)))), (am_mm D I J ρ))) := by
  have h19 := r_ok_19 hok
  have ob := sp_ops_b hok
  have obl := sp_ob_len (S := S)
  have hord0 := hord
  obtain ⟨h3, hob, hO⟩ := hord
  have hord := hord0
  refine am_e_ss 3 (q := (19, [(3, .inl (j : Int)), (2, .inl al), (1, .inl (i : Int)), (0, .inr (.inr (.inl (some 71))))], [.inl ((I 71 3)), .inl (j : Int)], (am_mm D I J ρ))) rfl ?_
  refine am_e_icmp2 rfl ⟨by omega, by omega⟩ ⟨by omega, by omega⟩ (fun (hw1 : (I 71 3) ≤ (j : Int)) => ?_) (fun (hw1 : ¬ ((I 71 3) ≤ (j : Int))) => ?_)
  · show am_E _ _ _ 64 [(3, .inl (j : Int)), (2, .inl al), (1, .inl (i : Int)), (0, .inr (.inr (.inl (some 71))))] [] (am_mm D I J ρ) _
    refine am_e_ss 1 (q := (65, [(3, .inl (j : Int)), (2, .inl al), (1, .inl (i : Int)), (0, .inr (.inr (.inl (some 71))))], [.inl al], (am_mm D I J ρ))) rfl ?_
    refine am_e_if2 rfl ⟨by omega, by omega⟩ (fun (hw2 : al = 0) => ?_) (fun (hw2 : ¬ (al = 0)) => ?_)
    · show am_E _ _ _ 75 [(3, .inl (j : Int)), (2, .inl al), (1, .inl (i : Int)), (0, .inr (.inr (.inl (some 71))))] [] (am_mm D I J ρ) _
      refine am_e_ss 5 (q := (7, [(1, .inl ((i : Int) + 1)), (3, .inl (j : Int)), (2, .inl al), (0, .inr (.inr (.inl (some 71))))], [.inl ((I 71 3)), .inl ((i : Int) + 1)], (am_mm D I J ρ))) rfl ?_
      refine am_e_icmp2 rfl ⟨by omega, by omega⟩ ⟨by omega, by omega⟩ (fun (hw3 : (I 71 3) ≤ ((i : Int) + 1)) => ?_) (fun (hw3 : ¬ ((I 71 3) ≤ ((i : Int) + 1))) => ?_)
      · show am_E _ _ _ 81 [(1, .inl ((i : Int) + 1)), (3, .inl (j : Int)), (2, .inl al), (0, .inr (.inr (.inl (some 71))))] [] (am_mm D I J ρ) _
        refine am_e_ss 4 (q := (88, [(1, .inl ((i : Int) + 1)), (3, .inl (j : Int)), (2, .inl al), (0, .inr (.inr (.inl (some 71))))], [.inl (-5), .inr (.inr (.inl (some 88))), .inr (.inr (.inl (some 71)))], (am_mm D I J ρ))) rfl ?_
        refine am_e_virtual (Q := fun r => r = (some (.inl ((sp_mw S VL 1 (-5)))), (am_mm D I J ρ))) rfl rfl (Nat.le_of_ble_eq_true rfl) rfl rfl (Nat.le_of_ble_eq_true rfl) (Nat.le_of_ble_eq_true rfl) (c_mw_88 _ (but := (-5)) hok hord hvoi hv ⟨by omega, by omega⟩) ?_
        rintro r rfl
        show am_E _ _ _ 91 [(1, .inl ((i : Int) + 1)), (3, .inl (j : Int)), (2, .inl al), (0, .inr (.inr (.inl (some 71))))] [.inl ((sp_mw S VL 1 (-5)))] (am_mm D I J ρ) _
        refine am_e_ireturn rfl rfl ?_
        have hdr : (sp_ob S).drop i = (sp_ob S).getD i 0 :: (sp_ob S).drop (i + 1) := by rw [am_getD (by omega)]; exact List.drop_eq_getElem_cons (by omega)
        rw [hdr, sp_pgo_no (by rcases hal with ⟨h, _⟩ | ⟨_, h⟩; omega; exact h), List.drop_eq_nil_of_le (by omega)]
        rw [show sp_pgo (fun a b : Nat => I (91 + a) b) (sp_ob S) (sp_most S (sp_Vr VL) (sp_Zr VL) 1 (-1)) [] = sp_mw S VL 1 (-5) from (sp_mw_0 (way := 1) (but := -5) hok hv ho (by omega)).2.1.symm]
      · show am_E _ _ _ 10 [(1, .inl ((i : Int) + 1)), (3, .inl (j : Int)), (2, .inl al), (0, .inr (.inr (.inl (some 71))))] [] (am_mm D I J ρ) _
        refine am_e_ss 4 (q := (14, [(3, .inl 0), (2, .inl 1), (1, .inl ((i : Int) + 1)), (0, .inr (.inr (.inl (some 71))))], [], (am_mm D I J ρ))) rfl ?_
        have hdr : (sp_ob S).drop i = (sp_ob S).getD i 0 :: (sp_ob S).drop (i + 1) := by rw [am_getD (by omega)]; exact List.drop_eq_getElem_cons (by omega)
        rw [hdr, sp_pgo_no (by rcases hal with ⟨h, _⟩ | ⟨_, h⟩; omega; exact h)]
        exact am_less (lv := [(3, .inl (0 : Int)), (2, .inl 1), (1, .inl ((i + 1) : Int)), (0, .inr (.inr (.inl (some 71))))]) rfl (List.forall_mem_cons.mpr ⟨rfl, List.forall_mem_cons.mpr ⟨rfl, List.forall_mem_cons.mpr ⟨rfl, List.forall_mem_cons.mpr ⟨rfl, List.forall_mem_nil _⟩⟩⟩⟩) (c_pairs_l d (i := i + 1) (j := 0) hok hord hvoi hv ho (by omega) (by omega) (Or.inl ⟨rfl, fun k hk => by omega⟩))
    · show am_E _ _ _ 68 [(3, .inl (j : Int)), (2, .inl al), (1, .inl (i : Int)), (0, .inr (.inr (.inl (some 71))))] [] (am_mm D I J ρ) _
      refine am_e_ss 3 (q := (73, [(3, .inl (j : Int)), (2, .inl al), (1, .inl (i : Int)), (0, .inr (.inr (.inl (some 71))))], [.inl (i : Int), .inr (.inr (.inl (some 72)))], (am_mm D I J ρ))) rfl ?_
      refine am_e_iaload (m := 6) rfl rfl (by omega) (by omega) (by omega) ?_
      show am_E _ _ _ 74 [(3, .inl (j : Int)), (2, .inl al), (1, .inl (i : Int)), (0, .inr (.inr (.inl (some 71))))] [.inl ((I 72 i))] (am_mm D I J ρ) _
      refine am_e_ireturn rfl rfl ?_
      have hdr : (sp_ob S).drop i = (sp_ob S).getD i 0 :: (sp_ob S).drop (i + 1) := by rw [am_getD (by omega)]; exact List.drop_eq_getElem_cons (by omega)
      have hxi2 := hob i _ (List.getElem?_eq_getElem hil)
      rw [Nat.zero_add] at hxi2
      rw [hdr, sp_pgo_yes (x := (sp_ob S).getD i 0) ?_, hxi2, am_getD hil]
      intro y hy
      obtain ⟨k, hk, hky⟩ := List.mem_iff_getElem.mp hy
      rcases hal with ⟨_, h⟩ | ⟨h, _⟩
      · have := h k (by omega)
        rw [am_getD hk, hky] at this
        exact this
      · omega
  · show am_E _ _ _ 22 [(3, .inl (j : Int)), (2, .inl al), (1, .inl (i : Int)), (0, .inr (.inr (.inl (some 71))))] [] (am_mm D I J ρ) _
    refine am_e_ss 1 (q := (23, [(3, .inl (j : Int)), (2, .inl al), (1, .inl (i : Int)), (0, .inr (.inr (.inl (some 71))))], [.inl al], (am_mm D I J ρ))) rfl ?_
    refine am_e_if2 rfl ⟨by omega, by omega⟩ (fun (hw4 : al = 0) => ?_) (fun (hw4 : ¬ (al = 0)) => ?_)
    · show am_E _ _ _ 64 [(3, .inl (j : Int)), (2, .inl al), (1, .inl (i : Int)), (0, .inr (.inr (.inl (some 71))))] [] (am_mm D I J ρ) _
      refine am_e_ss 1 (q := (65, [(3, .inl (j : Int)), (2, .inl al), (1, .inl (i : Int)), (0, .inr (.inr (.inl (some 71))))], [.inl al], (am_mm D I J ρ))) rfl ?_
      refine am_e_if2 rfl ⟨by omega, by omega⟩ (fun (hw5 : al = 0) => ?_) (fun (hw5 : ¬ (al = 0)) => ?_)
      · show am_E _ _ _ 75 [(3, .inl (j : Int)), (2, .inl al), (1, .inl (i : Int)), (0, .inr (.inr (.inl (some 71))))] [] (am_mm D I J ρ) _
        refine am_e_ss 5 (q := (7, [(1, .inl ((i : Int) + 1)), (3, .inl (j : Int)), (2, .inl al), (0, .inr (.inr (.inl (some 71))))], [.inl ((I 71 3)), .inl ((i : Int) + 1)], (am_mm D I J ρ))) rfl ?_
        refine am_e_icmp2 rfl ⟨by omega, by omega⟩ ⟨by omega, by omega⟩ (fun (hw6 : (I 71 3) ≤ ((i : Int) + 1)) => ?_) (fun (hw6 : ¬ ((I 71 3) ≤ ((i : Int) + 1))) => ?_)
        · show am_E _ _ _ 81 [(1, .inl ((i : Int) + 1)), (3, .inl (j : Int)), (2, .inl al), (0, .inr (.inr (.inl (some 71))))] [] (am_mm D I J ρ) _
          refine am_e_ss 4 (q := (88, [(1, .inl ((i : Int) + 1)), (3, .inl (j : Int)), (2, .inl al), (0, .inr (.inr (.inl (some 71))))], [.inl (-5), .inr (.inr (.inl (some 88))), .inr (.inr (.inl (some 71)))], (am_mm D I J ρ))) rfl ?_
          refine am_e_virtual (Q := fun r => r = (some (.inl ((sp_mw S VL 1 (-5)))), (am_mm D I J ρ))) rfl rfl (Nat.le_of_ble_eq_true rfl) rfl rfl (Nat.le_of_ble_eq_true rfl) (Nat.le_of_ble_eq_true rfl) (c_mw_88 _ (but := (-5)) hok hord hvoi hv ⟨by omega, by omega⟩) ?_
          rintro r rfl
          show am_E _ _ _ 91 [(1, .inl ((i : Int) + 1)), (3, .inl (j : Int)), (2, .inl al), (0, .inr (.inr (.inl (some 71))))] [.inl ((sp_mw S VL 1 (-5)))] (am_mm D I J ρ) _
          refine am_e_ireturn rfl rfl ?_
          have hdr : (sp_ob S).drop i = (sp_ob S).getD i 0 :: (sp_ob S).drop (i + 1) := by rw [am_getD (by omega)]; exact List.drop_eq_getElem_cons (by omega)
          rw [hdr, sp_pgo_no (by rcases hal with ⟨h, _⟩ | ⟨_, h⟩; omega; exact h), List.drop_eq_nil_of_le (by omega)]
          rw [show sp_pgo (fun a b : Nat => I (91 + a) b) (sp_ob S) (sp_most S (sp_Vr VL) (sp_Zr VL) 1 (-1)) [] = sp_mw S VL 1 (-5) from (sp_mw_0 (way := 1) (but := -5) hok hv ho (by omega)).2.1.symm]
        · show am_E _ _ _ 10 [(1, .inl ((i : Int) + 1)), (3, .inl (j : Int)), (2, .inl al), (0, .inr (.inr (.inl (some 71))))] [] (am_mm D I J ρ) _
          refine am_e_ss 4 (q := (14, [(3, .inl 0), (2, .inl 1), (1, .inl ((i : Int) + 1)), (0, .inr (.inr (.inl (some 71))))], [], (am_mm D I J ρ))) rfl ?_
          have hdr : (sp_ob S).drop i = (sp_ob S).getD i 0 :: (sp_ob S).drop (i + 1) := by rw [am_getD (by omega)]; exact List.drop_eq_getElem_cons (by omega)
          rw [hdr, sp_pgo_no (by rcases hal with ⟨h, _⟩ | ⟨_, h⟩; omega; exact h)]
          exact am_less (lv := [(3, .inl (0 : Int)), (2, .inl 1), (1, .inl ((i + 1) : Int)), (0, .inr (.inr (.inl (some 71))))]) rfl (List.forall_mem_cons.mpr ⟨rfl, List.forall_mem_cons.mpr ⟨rfl, List.forall_mem_cons.mpr ⟨rfl, List.forall_mem_cons.mpr ⟨rfl, List.forall_mem_nil _⟩⟩⟩⟩) (c_pairs_l d (i := i + 1) (j := 0) hok hord hvoi hv ho (by omega) (by omega) (Or.inl ⟨rfl, fun k hk => by omega⟩))
      · show am_E _ _ _ 68 [(3, .inl (j : Int)), (2, .inl al), (1, .inl (i : Int)), (0, .inr (.inr (.inl (some 71))))] [] (am_mm D I J ρ) _
        refine am_e_ss 3 (q := (73, [(3, .inl (j : Int)), (2, .inl al), (1, .inl (i : Int)), (0, .inr (.inr (.inl (some 71))))], [.inl (i : Int), .inr (.inr (.inl (some 72)))], (am_mm D I J ρ))) rfl ?_
        refine am_e_iaload (m := 6) rfl rfl (by omega) (by omega) (by omega) ?_
        show am_E _ _ _ 74 [(3, .inl (j : Int)), (2, .inl al), (1, .inl (i : Int)), (0, .inr (.inr (.inl (some 71))))] [.inl ((I 72 i))] (am_mm D I J ρ) _
        refine am_e_ireturn rfl rfl ?_
        have hdr : (sp_ob S).drop i = (sp_ob S).getD i 0 :: (sp_ob S).drop (i + 1) := by rw [am_getD (by omega)]; exact List.drop_eq_getElem_cons (by omega)
        have hxi2 := hob i _ (List.getElem?_eq_getElem hil)
        rw [Nat.zero_add] at hxi2
        rw [hdr, sp_pgo_yes (x := (sp_ob S).getD i 0) ?_, hxi2, am_getD hil]
        intro y hy
        obtain ⟨k, hk, hky⟩ := List.mem_iff_getElem.mp hy
        rcases hal with ⟨_, h⟩ | ⟨h, _⟩
        · have := h k (by omega)
          rw [am_getD hk, hky] at this
          exact this
        · omega
    · show am_E _ _ _ 26 [(3, .inl (j : Int)), (2, .inl al), (1, .inl (i : Int)), (0, .inr (.inr (.inl (some 71))))] [] (am_mm D I J ρ) _
      refine am_e_ss 2 (q := (28, [(3, .inl (j : Int)), (2, .inl al), (1, .inl (i : Int)), (0, .inr (.inr (.inl (some 71))))], [.inl (i : Int), .inl (j : Int)], (am_mm D I J ρ))) rfl ?_
      refine am_e_icmp2 rfl ⟨by omega, by omega⟩ ⟨by omega, by omega⟩ (fun (hw7 : (j : Int) = (i : Int)) => ?_) (fun (hw7 : ¬ ((j : Int) = (i : Int))) => ?_)
      · show am_E _ _ _ 52 [(3, .inl (j : Int)), (2, .inl al), (1, .inl (i : Int)), (0, .inr (.inr (.inl (some 71))))] [] (am_mm D I J ρ) _
        refine am_e_ss 5 (q := (14, [(3, .inl ((j : Int) + 1)), (2, .inl 1), (1, .inl (i : Int)), (0, .inr (.inr (.inl (some 71))))], [], (am_mm D I J ρ))) rfl ?_
        have e9 : ((1 : Int) = 1 ∧ ∀ k, k < j + 1 → (sp_ob S).getD k 0 = (sp_ob S).getD i 0 ∨ 0 < I (91 + (sp_ob S).getD i 0) ((sp_ob S).getD k 0)) ∨ ((1 : Int) = 0 ∧ ∃ y ∈ sp_ob S, ¬ y = (sp_ob S).getD i 0 ∧ ¬ 0 < I (91 + (sp_ob S).getD i 0) y) := by
          refine Or.inl ⟨rfl, ?_⟩
          intro k hk
          by_cases e : k = j
          · subst e
            first
            | (left; congr 1; omega)
            | (right; rw [← hxd, ← hyd]; omega)
          · rcases hal with ⟨_, h⟩ | ⟨h, _⟩
            · exact h k (by omega)
            · omega
        exact am_less (lv := [(3, .inl ((j + 1) : Int)), (2, .inl 1), (1, .inl (i : Int)), (0, .inr (.inr (.inl (some 71))))]) rfl (List.forall_mem_cons.mpr ⟨rfl, List.forall_mem_cons.mpr ⟨rfl, List.forall_mem_cons.mpr ⟨rfl, List.forall_mem_cons.mpr ⟨rfl, List.forall_mem_nil _⟩⟩⟩⟩) (c_pairs_l d (i := i) (j := j + 1) hok hord hvoi hv ho hil (by omega) e9)
      · show am_E _ _ _ 31 [(3, .inl (j : Int)), (2, .inl al), (1, .inl (i : Int)), (0, .inr (.inr (.inl (some 71))))] [] (am_mm D I J ρ) _
        obtain ⟨x, hxd⟩ : ∃ x, x = (sp_ob S).getD i 0 := ⟨_, rfl⟩
        have hxi : I 72 i = (x : Int) := by rw [hxd]; exact am_rowl_d hob hil
        obtain ⟨y, hyd⟩ : ∃ y, y = (sp_ob S).getD j 0 := ⟨_, rfl⟩
        have hjl : j < (sp_ob S).length := by omega
        have hyj : I 72 j = (y : Int) := by rw [hyd]; exact am_rowl_d hob hjl
        have hxm : x ∈ sp_ob S := by rw [hxd, am_getD hil]; exact List.getElem_mem hil
        have hym : y ∈ sp_ob S := by rw [hyd, am_getD hjl]; exact List.getElem_mem hjl
        have hx6 := sp_ob_6 hok x hxm
        have hy6 := sp_ob_6 hok y hym
        have hxy : ¬ y = x := by
          rw [hxd, hyd, am_getD hil, am_getD hjl]
          intro e
          have := am_nd_inj (sp_ob_nd S) hjl hil e
          omega
        have htl := hvoi.2.2.2 x y hx6 hy6
        have htb := sp_tla_b (VL := VL) (a := (x : Int)) (b := (y : Int)) (S 19).toNat
        have hyt : (I 72 j).toNat = y := by omega
        have hle : I (91 + x) (I 72 j).toNat = I (91 + x) y := by rw [hyt]
        refine am_e_ss 5 (q := (40, [(3, .inl (j : Int)), (2, .inl al), (1, .inl (i : Int)), (0, .inr (.inr (.inl (some 71))))], [.inl (i : Int), .inr (.inr (.inl (some 72))), .inr (.inr (.inl (some 90)))], (am_mm D I J ρ))) rfl ?_
        refine am_e_iaload (m := 6) rfl rfl (by omega) (by omega) (by omega) ?_
        show am_E _ _ _ 41 [(3, .inl (j : Int)), (2, .inl al), (1, .inl (i : Int)), (0, .inr (.inr (.inl (some 71))))] [.inl ((I 72 i)), .inr (.inr (.inl (some 90)))] (am_mm D I J ρ) _
        refine am_e_aaload (m := 6) (c := 23) rfl rfl (by decide) (by omega) (by omega) (by omega) ?_
        rw [show ((am_mm D I J ρ)).2.2.2 90 ((I 72 i)).toNat = some (91 + x) from (by rw [hxi]; exact am_r90 (ρ := ρ) (by omega))]
        show am_E _ _ _ 42 [(3, .inl (j : Int)), (2, .inl al), (1, .inl (i : Int)), (0, .inr (.inr (.inl (some 71))))] [.inr (.inr (.inl (some (91 + x))))] (am_mm D I J ρ) _
        refine am_e_ss 3 (q := (47, [(3, .inl (j : Int)), (2, .inl al), (1, .inl (i : Int)), (0, .inr (.inr (.inl (some 71))))], [.inl (j : Int), .inr (.inr (.inl (some 72))), .inr (.inr (.inl (some (91 + x))))], (am_mm D I J ρ))) rfl ?_
        refine am_e_iaload (m := 6) rfl rfl (by omega) (by omega) (by omega) ?_
        show am_E _ _ _ 48 [(3, .inl (j : Int)), (2, .inl al), (1, .inl (i : Int)), (0, .inr (.inr (.inl (some 71))))] [.inl ((I 72 j)), .inr (.inr (.inl (some (91 + x))))] (am_mm D I J ρ) _
        refine am_e_iaload (m := 6) rfl (am_k91 (by omega)) (by omega) (by omega) (by omega) ?_
        show am_E _ _ _ 49 [(3, .inl (j : Int)), (2, .inl al), (1, .inl (i : Int)), (0, .inr (.inr (.inl (some 71))))] [.inl ((I (91 + x) ((I 72 j)).toNat))] (am_mm D I J ρ) _
        refine am_e_if2 rfl ⟨by omega, by omega⟩ (fun (hw8 : (I (91 + x) ((I 72 j)).toNat) ≤ 0) => ?_) (fun (hw8 : ¬ ((I (91 + x) ((I 72 j)).toNat) ≤ 0)) => ?_)
        · show am_E _ _ _ 56 [(3, .inl (j : Int)), (2, .inl al), (1, .inl (i : Int)), (0, .inr (.inr (.inl (some 71))))] [] (am_mm D I J ρ) _
          refine am_e_ss 4 (q := (14, [(3, .inl ((j : Int) + 1)), (2, .inl 0), (1, .inl (i : Int)), (0, .inr (.inr (.inl (some 71))))], [], (am_mm D I J ρ))) rfl ?_
          have e9 : ((0 : Int) = 1 ∧ ∀ k, k < j + 1 → (sp_ob S).getD k 0 = (sp_ob S).getD i 0 ∨ 0 < I (91 + (sp_ob S).getD i 0) ((sp_ob S).getD k 0)) ∨ ((0 : Int) = 0 ∧ ∃ y ∈ sp_ob S, ¬ y = (sp_ob S).getD i 0 ∧ ¬ 0 < I (91 + (sp_ob S).getD i 0) y) := by
            refine Or.inr ⟨rfl, y, hym, ?_, ?_⟩
            · rw [← hxd]; exact hxy
            · rw [← hxd]; omega
          exact am_less (lv := [(3, .inl ((j + 1) : Int)), (2, .inl 0), (1, .inl (i : Int)), (0, .inr (.inr (.inl (some 71))))]) rfl (List.forall_mem_cons.mpr ⟨rfl, List.forall_mem_cons.mpr ⟨rfl, List.forall_mem_cons.mpr ⟨rfl, List.forall_mem_cons.mpr ⟨rfl, List.forall_mem_nil _⟩⟩⟩⟩) (c_pairs_l d (i := i) (j := j + 1) hok hord hvoi hv ho hil (by omega) e9)
        · show am_E _ _ _ 52 [(3, .inl (j : Int)), (2, .inl al), (1, .inl (i : Int)), (0, .inr (.inr (.inl (some 71))))] [] (am_mm D I J ρ) _
          refine am_e_ss 5 (q := (14, [(3, .inl ((j : Int) + 1)), (2, .inl 1), (1, .inl (i : Int)), (0, .inr (.inr (.inl (some 71))))], [], (am_mm D I J ρ))) rfl ?_
          have e9 : ((1 : Int) = 1 ∧ ∀ k, k < j + 1 → (sp_ob S).getD k 0 = (sp_ob S).getD i 0 ∨ 0 < I (91 + (sp_ob S).getD i 0) ((sp_ob S).getD k 0)) ∨ ((1 : Int) = 0 ∧ ∃ y ∈ sp_ob S, ¬ y = (sp_ob S).getD i 0 ∧ ¬ 0 < I (91 + (sp_ob S).getD i 0) y) := by
            refine Or.inl ⟨rfl, ?_⟩
            intro k hk
            by_cases e : k = j
            · subst e
              first
              | (left; congr 1; omega)
              | (right; rw [← hxd, ← hyd]; omega)
            · rcases hal with ⟨_, h⟩ | ⟨h, _⟩
              · exact h k (by omega)
              · omega
          exact am_less (lv := [(3, .inl ((j + 1) : Int)), (2, .inl 1), (1, .inl (i : Int)), (0, .inr (.inr (.inl (some 71))))]) rfl (List.forall_mem_cons.mpr ⟨rfl, List.forall_mem_cons.mpr ⟨rfl, List.forall_mem_cons.mpr ⟨rfl, List.forall_mem_cons.mpr ⟨rfl, List.forall_mem_nil _⟩⟩⟩⟩) (c_pairs_l d (i := i) (j := j + 1) hok hord hvoi hv ho hil (by omega) e9)
termination_by (8 * (7 - i) + (7 - j))
decreasing_by all_goals omega
theorem c_pairs {X : Nat × (Nat → Int)} {D : List (Nat × Nat)} {I J : Nat → Nat → Int} {ρ : Nat → Nat → Option Nat} (d : Nat) {S : Nat → Int} {B : Int} {VL : Nat → List Nat} (hok : r_ok S B) (hord : c_ords I S) (hvoi : c_voi I VL (S 19).toNat) (hv : sp_vcs S VL) (ho : ¬ sp_ops S = 0)  : am_E X (d + 1) 80 0 [(0, .inr (.inr (.inl (some 71))))] [] (am_mm D I J ρ) (fun r => r = (some (.inl ((sp_pairs S (sp_Vr VL) (sp_Zr VL)))), (am_mm D I J ρ))) := by
  have h19 := r_ok_19 hok
  have ob := sp_ops_b hok
  have obl := sp_ob_len (S := S)
  have hord0 := hord
  obtain ⟨h3, hob, hO⟩ := hord
  have hord := hord0
  refine am_e_ss 5 (q := (7, [(1, .inl 0), (0, .inr (.inr (.inl (some 71))))], [.inl ((I 71 3)), .inl 0], (am_mm D I J ρ))) rfl ?_
  refine am_e_icmp2 rfl ⟨by omega, by omega⟩ ⟨by omega, by omega⟩ (fun (hw1 : (I 71 3) ≤ 0) => ?_) (fun (hw1 : ¬ ((I 71 3) ≤ 0)) => ?_)
  · show am_E _ _ _ 81 [(1, .inl 0), (0, .inr (.inr (.inl (some 71))))] [] (am_mm D I J ρ) _
    refine am_e_ss 4 (q := (88, [(1, .inl 0), (0, .inr (.inr (.inl (some 71))))], [.inl (-5), .inr (.inr (.inl (some 88))), .inr (.inr (.inl (some 71)))], (am_mm D I J ρ))) rfl ?_
    refine am_e_virtual (Q := fun r => r = (some (.inl ((sp_mw S VL 1 (-5)))), (am_mm D I J ρ))) rfl rfl (Nat.le_of_ble_eq_true rfl) rfl rfl (Nat.le_of_ble_eq_true rfl) (Nat.le_of_ble_eq_true rfl) (c_mw_88 _ (but := (-5)) hok hord hvoi hv ⟨by omega, by omega⟩) ?_
    rintro r rfl
    show am_E _ _ _ 91 [(1, .inl 0), (0, .inr (.inr (.inl (some 71))))] [.inl ((sp_mw S VL 1 (-5)))] (am_mm D I J ρ) _
    refine am_e_ireturn rfl rfl ?_
    exfalso; omega
  · show am_E _ _ _ 10 [(1, .inl 0), (0, .inr (.inr (.inl (some 71))))] [] (am_mm D I J ρ) _
    refine am_e_ss 4 (q := (14, [(3, .inl 0), (2, .inl 1), (1, .inl 0), (0, .inr (.inr (.inl (some 71))))], [], (am_mm D I J ρ))) rfl ?_
    have ep : sp_pairs S (sp_Vr VL) (sp_Zr VL) = (sp_pgo (fun a b : Nat => I (91 + a) b) (sp_ob S) (sp_most S (sp_Vr VL) (sp_Zr VL) 1 (-1)) ((sp_ob S).drop 0)) := by
      unfold sp_pairs
      rw [sp_pairf_pgo (ld := (fun a b : Nat => I (91 + a) b)) hok hv (fun a b ha hb => hvoi.2.2.2 a b ha hb) _ _ rfl, sp_sfx_ob]
      rfl
    rw [ep]
    exact am_less (lv := [(3, .inl (0 : Int)), (2, .inl 1), (1, .inl (0 : Int)), (0, .inr (.inr (.inl (some 71))))]) rfl (List.forall_mem_cons.mpr ⟨rfl, List.forall_mem_cons.mpr ⟨rfl, List.forall_mem_cons.mpr ⟨rfl, List.forall_mem_cons.mpr ⟨rfl, List.forall_mem_nil _⟩⟩⟩⟩) (c_pairs_l d (i := 0) (j := 0) hok hord hvoi hv ho (by omega) (by omega) (Or.inl ⟨rfl, fun k hk => by omega⟩))
theorem sp_turnf_0 {S V Z O : Nat → Int} : ∀ k m pl, (∀ j, m ≤ j → j < m + k → ¬ S (7 + j) = 0) → sp_turnf S V Z O k m pl = sp_most S V Z 2 (-1) := by
  intro k
  induction k with
  | zero => intro m pl _; rfl
  | succ k ih =>
    intro m pl h
    unfold sp_turnf
    rw [if_neg (h m (by omega) (by omega)), ih (m + 1) pl (fun j h1 h2 => h j (by omega) (by omega))]
theorem sp_mos_0 {but : Int} {c : Nat → Int} (hc : ∀ b, b < 6 → c b = 0) : ∀ {L : List Nat} {s : Int}, (∀ b ∈ L, b < 6) → 0 ≤ s → s < 6 → L.foldl (sp_mos c but) s = s := by
  intro L
  induction L with
  | nil => intro s _ _ _; rfl
  | cons b L ih =>
    intro s h h0 h6
    have e : sp_mos c but s b = s := by
      unfold sp_mos
      rw [hc b (h b List.mem_cons_self), hc s.toNat (by omega)]
      exact if_neg (by omega)
    rw [List.foldl_cons, e]
    exact ih (fun x hx => h x (List.mem_cons_of_mem _ hx)) h0 h6
theorem sp_tls_0 {VL : Nat → List Nat} {way b : Int} : ∀ n, (∀ m, m < n → VL m = []) → sp_tls VL way b n = 0 := by
  intro n
  induction n with
  | zero => intro _; rfl
  | succ n ih =>
    intro h
    unfold sp_tls
    rw [ih (fun m hm => h m (by omega)), h n (by omega)]
    rfl
theorem sp_cnt_0 {p : Nat → Bool} : ∀ n, am_cnt p n = 0 → ∀ x, x < n → p x = false := by
  intro n h x hx
  cases e : p x with
  | false => rfl
  | true => have := am_cnt_pos e n hx; omega
/-- how many are here from m on -/
def sp_hfr (S : Nat → Int) : Nat → Nat → Int
  | 0, _ => 0
  | k + 1, m => (if S (7 + m) = 0 then 1 else 0) + sp_hfr S k (m + 1)
theorem sp_hfr_s {S : Nat → Int} {k m : Nat} : sp_hfr S (k + 1) m = (if S (7 + m) = 0 then 1 else 0) + sp_hfr S k (m + 1) := rfl
theorem sp_hfr_cnt {S : Nat → Int} : ∀ k m, am_cnt (fun x => decide (S (7 + x) = 0)) m + sp_hfr S k m = am_cnt (fun x => decide (S (7 + x) = 0)) (m + k) := by
  intro k
  induction k with
  | zero => intro m; exact Int.add_zero _
  | succ k ih =>
    intro m
    have h := ih (m + 1)
    rw [show m + 1 + k = m + (k + 1) by omega] at h
    rw [← h, sp_hfr_s]
    show _ = am_cnt (fun x => decide (S (7 + x) = 0)) m + (if decide (S (7 + m) = 0) = true then 1 else 0) + _
    by_cases e : S (7 + m) = 0
    · rw [if_pos e, if_pos (decide_eq_true e)]; omega
    · rw [if_neg e, if_neg (by simp [e])]; omega
theorem sp_hn_cnt {S : Nat → Int} {B : Int} (hok : r_ok S B) : am_pop (am_bits (sp_hp S) 6) = am_pop (sp_here S) ∧ am_pop (sp_here S) = sp_hfr S (S 19).toNat 0 ∧ sp_hfr S (S 19).toNat 0 = am_cnt (fun x => decide (S (7 + x) = 0)) (S 19).toNat := by
  have h19 := (r_ok_19 hok).1
  have h1 := sp_hfr_cnt (S := S) (S 19).toNat 0
  rw [Nat.zero_add] at h1
  have h2 : am_pop (sp_here S) = am_cnt (fun x => decide (S (7 + x) = 0)) (S 19).toNat := am_pop_bits _ _ (by omega)
  have h3 : am_cnt (fun x => decide (S (7 + x) = 0)) 0 = 0 := rfl
  exact ⟨by rw [sp_here_6 hok], by omega, by omega⟩
theorem c_countHere_2 {X : Nat × (Nat → Int)} {D : List (Nat × Nat)} {I J : Nat → Nat → Int} {ρ : Nat → Nat → Option Nat} (d : Nat) {p : Nat → Bool} (hp : I 2 1 = am_bits p 6) : am_E X (d + 1) 55 0 [(0, .inr (.inr (.inl (some 2))))] [] (am_mm D I J ρ) (fun r => r = (some (.inl ((am_pop (am_bits p 6)))), (am_mm D I J ρ))) := by
  have hb := am_bits_63 p
  refine am_e_ss 2 (q := (4, [(0, .inr (.inr (.inl (some 2))))], [.inl ((I 2 1))], (am_mm D I J ρ))) rfl ?_
  refine am_e_static (Q := fun r => r = (some (.inl ((am_pop (I 2 1)))), (am_mm D I J ρ))) rfl (Nat.le_of_ble_eq_true rfl) rfl (Nat.le_of_ble_eq_true rfl) (Nat.le_of_ble_eq_true rfl) (j_bitCount _ ⟨by omega, by omega⟩) ?_
  rintro r rfl
  show am_E _ _ _ 7 [(0, .inr (.inr (.inl (some 2))))] [.inl ((am_pop (I 2 1)))] (am_mm D I J ρ) _
  refine am_e_ireturn rfl rfl ?_
  rw [hp]
theorem c_turns_2_l {X : Nat × (Nat → Int)} {D : List (Nat × Nat)} {I J : Nat → Nat → Int} {ρ : Nat → Nat → Option Nat} (d : Nat) {S : Nat → Int} {B : Int} {VL : Nat → List Nat} (hok : r_ok S B) (hord : c_ords I S) (hvoi : c_voi I VL (S 19).toNat) (hv : sp_vcs S VL) (ho : ¬ sp_ops S = 0) (h71 : ρ 71 1 = some 2) (h12 : I 1 2 = S 19) (hr0 : I 2 0 = S 0) (hhr : I 2 1 = am_bits (sp_hp S) 6) {z pl : Int} {m k : Nat} (hk : (S 19) = (k : Int) + (m : Int)) (hz : z = (S 0 % am_pop (sp_here S)) - pl ∧ 0 ≤ z ∧ z ≤ 200) (hrem : z < sp_hfr S k m) : am_E X (d + 1) 81 31 [(3, .inl (m : Int)), (2, .inl z), (0, .inr (.inr (.inl (some 71))))] [] (am_mm D I J ρ) (fun r => r = (some (.inl ((sp_turnf S (sp_Vr VL) (sp_Zr VL) (fun i => sp_hd S (i / 6)) k m pl))), (am_mm D I J ρ))) := by
  have h19 := r_ok_19 hok
  have ob := sp_ops_b hok
  have obl := sp_ob_len (S := S)
  have hord0 := hord
  obtain ⟨h3, hob, hO⟩ := hord
  have hord := hord0
  refine am_e_ss 4 (q := (39, [(3, .inl (m : Int)), (2, .inl z), (0, .inr (.inr (.inl (some 71))))], [.inl ((I 1 2)), .inl (m : Int)], (am_mm D I J ρ))) rfl ?_
  refine am_e_icmp2 rfl ⟨by omega, by omega⟩ ⟨by omega, by omega⟩ (fun (hw1 : (I 1 2) ≤ (m : Int)) => ?_) (fun (hw1 : ¬ ((I 1 2) ≤ (m : Int))) => ?_)
  · show am_E _ _ _ 94 [(3, .inl (m : Int)), (2, .inl z), (0, .inr (.inr (.inl (some 71))))] [] (am_mm D I J ρ) _
    refine am_e_ss 4 (q := (100, [(3, .inl (m : Int)), (2, .inl z), (0, .inr (.inr (.inl (some 71))))], [.inl ((I 72 0))], (am_mm D I J ρ))) rfl ?_
    refine am_e_ireturn rfl rfl ?_
    exfalso
    have ek : k = 0 := by omega
    subst ek
    have : sp_hfr S 0 m = 0 := rfl
    omega
  · show am_E _ _ _ 42 [(3, .inl (m : Int)), (2, .inl z), (0, .inr (.inr (.inl (some 71))))] [] (am_mm D I J ρ) _
    refine am_e_ss 1 (q := (43, [(3, .inl (m : Int)), (2, .inl z), (0, .inr (.inr (.inl (some 71))))], [.inr (.inr (.inl (some 71)))], (am_mm D I J ρ))) rfl ?_
    refine am_e_getR (c := 10) (m := 14) (f := 1) (w := 2) rfl rfl rfl (by decide) (by decide) rfl rfl h71 ?_
    show am_E _ _ _ 46 [(3, .inl (m : Int)), (2, .inl z), (0, .inr (.inr (.inl (some 71))))] [.inr (.inr (.inl (some 2)))] (am_mm D I J ρ) _
    refine am_e_ss 1 (q := (47, [(3, .inl (m : Int)), (2, .inl z), (0, .inr (.inr (.inl (some 71))))], [.inl (m : Int), .inr (.inr (.inl (some 2)))], (am_mm D I J ρ))) rfl ?_
    refine am_e_virtual (Q := fun r => r = (some (.inl ((am_bi (sp_hp S m = true)))), (am_mm D I J ρ))) rfl rfl (Nat.le_of_ble_eq_true rfl) rfl rfl (Nat.le_of_ble_eq_true rfl) (Nat.le_of_ble_eq_true rfl) (c_isHere_2 _ (p := sp_hp S) hhr (by omega)) ?_
    rintro r rfl
    show am_E _ _ _ 50 [(3, .inl (m : Int)), (2, .inl z), (0, .inr (.inr (.inl (some 71))))] [.inl ((am_bi (sp_hp S m = true)))] (am_mm D I J ρ) _
    refine am_e_ifeq rfl (fun hw2 => ?_) (fun hw2 => ?_)
    · show am_E _ _ _ 88 [(3, .inl (m : Int)), (2, .inl z), (0, .inr (.inr (.inl (some 71))))] [] (am_mm D I J ρ) _
      refine am_e_ss 2 (q := (31, [(3, .inl ((m : Int) + 1)), (2, .inl z), (0, .inr (.inr (.inl (some 71))))], [], (am_mm D I J ρ))) rfl ?_
      have hh : ¬ S (7 + m) = 0 := fun h => absurd (sp_hp_t.mpr ⟨by omega, h⟩) (by assumption)
      obtain ⟨k', rfl⟩ : ∃ k', k = k' + 1 := ⟨k - 1, by omega⟩
      have et : (sp_turnf S (sp_Vr VL) (sp_Zr VL) (fun i => sp_hd S (i / 6)) (k' + 1) m pl) = (sp_turnf S (sp_Vr VL) (sp_Zr VL) (fun i => sp_hd S (i / 6)) k' (m + 1) pl) := if_neg hh
      rw [et]
      have ef : sp_hfr S (k' + 1) m = 0 + sp_hfr S k' (m + 1) := by show (if _ then _ else _) + _ = _; rw [if_neg hh]
      exact am_less (lv := [(3, .inl ((m + 1) : Int)), (2, .inl z), (0, .inr (.inr (.inl (some 71))))]) rfl (List.forall_mem_cons.mpr ⟨rfl, List.forall_mem_cons.mpr ⟨rfl, List.forall_mem_cons.mpr ⟨rfl, List.forall_mem_nil _⟩⟩⟩) (c_turns_2_l d (m := m + 1) (k := k') (pl := pl) hok hord hvoi hv ho h71 h12 hr0 hhr (by omega) (by omega) (by omega))
    · show am_E _ _ _ 53 [(3, .inl (m : Int)), (2, .inl z), (0, .inr (.inr (.inl (some 71))))] [] (am_mm D I J ρ) _
      refine am_e_ss 1 (q := (54, [(3, .inl (m : Int)), (2, .inl z), (0, .inr (.inr (.inl (some 71))))], [.inl z], (am_mm D I J ρ))) rfl ?_
      refine am_e_if2 rfl ⟨by omega, by omega⟩ (fun (hw3 : ¬ z = 0) => ?_) (fun (hw3 : ¬ (¬ z = 0)) => ?_)
      · show am_E _ _ _ 85 [(3, .inl (m : Int)), (2, .inl z), (0, .inr (.inr (.inl (some 71))))] [] (am_mm D I J ρ) _
        refine am_e_ss 3 (q := (31, [(3, .inl ((m : Int) + 1)), (2, .inl (z + (-1))), (0, .inr (.inr (.inl (some 71))))], [], (am_mm D I J ρ))) rfl ?_
        have hh : S (7 + m) = 0 := (sp_hp_t.mp (by assumption)).2
        obtain ⟨k', rfl⟩ : ∃ k', k = k' + 1 := ⟨k - 1, by omega⟩
        have et : (sp_turnf S (sp_Vr VL) (sp_Zr VL) (fun i => sp_hd S (i / 6)) (k' + 1) m pl) = (sp_turnf S (sp_Vr VL) (sp_Zr VL) (fun i => sp_hd S (i / 6)) k' (m + 1) (pl + 1)) := (if_pos hh).trans (if_neg (by omega))
        rw [et]
        have ef : sp_hfr S (k' + 1) m = 1 + sp_hfr S k' (m + 1) := by show (if _ then _ else _) + _ = _; rw [if_pos hh]
        exact am_less (lv := [(3, .inl ((m + 1) : Int)), (2, .inl ((z + (-1)))), (0, .inr (.inr (.inl (some 71))))]) rfl (List.forall_mem_cons.mpr ⟨rfl, List.forall_mem_cons.mpr ⟨rfl, List.forall_mem_cons.mpr ⟨rfl, List.forall_mem_nil _⟩⟩⟩) (c_turns_2_l d (m := m + 1) (k := k') (pl := pl + 1) hok hord hvoi hv ho h71 h12 hr0 hhr (by omega) (by omega) (by omega))
      · show am_E _ _ _ 57 [(3, .inl (m : Int)), (2, .inl z), (0, .inr (.inr (.inl (some 71))))] [] (am_mm D I J ρ) _
        refine am_e_ss 2 (q := (59, [(3, .inl (m : Int)), (2, .inl z), (0, .inr (.inr (.inl (some 71))))], [.inl (m : Int), .inr (.inr (.inl (some 71)))], (am_mm D I J ρ))) rfl ?_
        refine am_e_virtual (Q := fun r => r = (some (.inl ((am_bi (sp_spk VL (S 19).toNat m = true)))), (am_mm D I J ρ))) rfl rfl (Nat.le_of_ble_eq_true rfl) rfl rfl (Nat.le_of_ble_eq_true rfl) (Nat.le_of_ble_eq_true rfl) (c_speaks _ (p := sp_spk VL (S 19).toNat) hvoi.1 (by omega)) ?_
        rintro r rfl
        show am_E _ _ _ 62 [(3, .inl (m : Int)), (2, .inl z), (0, .inr (.inr (.inl (some 71))))] [.inl ((am_bi (sp_spk VL (S 19).toNat m = true)))] (am_mm D I J ρ) _
        refine am_e_ifeq rfl (fun hw4 => ?_) (fun hw4 => ?_)
        · show am_E _ _ _ 76 [(3, .inl (m : Int)), (2, .inl z), (0, .inr (.inr (.inl (some 71))))] [] (am_mm D I J ρ) _
          refine am_e_ss 3 (q := (81, [(3, .inl (m : Int)), (2, .inl z), (0, .inr (.inr (.inl (some 71))))], [.inl (m : Int), .inr (.inr (.inl (some 73)))], (am_mm D I J ρ))) rfl ?_
          refine am_e_aaload (m := 6) (c := 23) rfl rfl (by decide) (by omega) (by omega) (by omega) ?_
          rw [show ((am_mm D I J ρ)).2.2.2 73 ((m : Int)).toNat = some (74 + m) from (am_r73 (ρ := ρ) (by omega))]
          show am_E _ _ _ 82 [(3, .inl (m : Int)), (2, .inl z), (0, .inr (.inr (.inl (some 71))))] [.inr (.inr (.inl (some (74 + m))))] (am_mm D I J ρ) _
          refine am_e_ss 1 (q := (83, [(3, .inl (m : Int)), (2, .inl z), (0, .inr (.inr (.inl (some 71))))], [.inl 0, .inr (.inr (.inl (some (74 + m))))], (am_mm D I J ρ))) rfl ?_
          refine am_e_iaload (m := 6) rfl (am_k74 (by omega)) (by omega) (by omega) (by omega) ?_
          show am_E _ _ _ 84 [(3, .inl (m : Int)), (2, .inl z), (0, .inr (.inr (.inl (some 71))))] [.inl ((I (74 + m) 0))] (am_mm D I J ρ) _
          refine am_e_ireturn rfl rfl ?_
          have hh : S (7 + m) = 0 := (sp_hp_t.mp (by assumption)).2
          obtain ⟨k', rfl⟩ : ∃ k', k = k' + 1 := ⟨k - 1, by omega⟩
          have et : (sp_turnf S (sp_Vr VL) (sp_Zr VL) (fun i => sp_hd S (i / 6)) (k' + 1) m pl) = (if 0 < sp_Zr VL m then sp_Vr VL (6 * m) else sp_hd S (6 * m / 6)) := (if_pos hh).trans (if_pos (by omega))
          rw [et]
          have hsp : VL m = [] := by
            cases hL : VL m with
            | nil => rfl
            | cons a r => exact absurd (show sp_spk VL (S 19).toNat m = true by unfold sp_spk; rw [hL]; simp; omega) (by assumption)
          rw [if_neg (show ¬ 0 < sp_Zr VL m by (show ¬ 0 < ((VL m).length : Int)); rw [hsp]; simp), show 6 * m / 6 = m by omega]
          have hol := sp_ord_len (S := S) (m := m)
          have hrd := hO m (by omega)
          unfold sp_hd
          cases hL : sp_ord S m with
          | nil => rw [hL] at hol; exact absurd hol.symm ho
          | cons a r => rw [hL] at hrd; rw [am_rowl_h hrd]; rfl
        · show am_E _ _ _ 65 [(3, .inl (m : Int)), (2, .inl z), (0, .inr (.inr (.inl (some 71))))] [] (am_mm D I J ρ) _
          refine am_e_ss 3 (q := (70, [(3, .inl (m : Int)), (2, .inl z), (0, .inr (.inr (.inl (some 71))))], [.inl (m : Int), .inr (.inr (.inl (some 80)))], (am_mm D I J ρ))) rfl ?_
          refine am_e_aaload (m := 6) (c := 23) rfl rfl (by decide) (by omega) (by omega) (by omega) ?_
          rw [show ((am_mm D I J ρ)).2.2.2 80 ((m : Int)).toNat = some (81 + m) from (am_r80 (ρ := ρ) (by omega))]
          show am_E _ _ _ 71 [(3, .inl (m : Int)), (2, .inl z), (0, .inr (.inr (.inl (some 71))))] [.inr (.inr (.inl (some (81 + m))))] (am_mm D I J ρ) _
          refine am_e_ss 1 (q := (72, [(3, .inl (m : Int)), (2, .inl z), (0, .inr (.inr (.inl (some 71))))], [.inl 0, .inr (.inr (.inl (some (81 + m))))], (am_mm D I J ρ))) rfl ?_
          refine am_e_iaload (m := 6) rfl (am_k81 (by omega)) (by omega) (by omega) (by omega) ?_
          show am_E _ _ _ 73 [(3, .inl (m : Int)), (2, .inl z), (0, .inr (.inr (.inl (some 71))))] [.inl ((I (81 + m) 0))] (am_mm D I J ρ) _
          refine am_e_ss 1 (q := (84, [(3, .inl (m : Int)), (2, .inl z), (0, .inr (.inr (.inl (some 71))))], [.inl ((I (81 + m) 0))], (am_mm D I J ρ))) rfl ?_
          refine am_e_ireturn rfl rfl ?_
          have hh : S (7 + m) = 0 := (sp_hp_t.mp (by assumption)).2
          obtain ⟨k', rfl⟩ : ∃ k', k = k' + 1 := ⟨k - 1, by omega⟩
          have et : (sp_turnf S (sp_Vr VL) (sp_Zr VL) (fun i => sp_hd S (i / 6)) (k' + 1) m pl) = (if 0 < sp_Zr VL m then sp_Vr VL (6 * m) else sp_hd S (6 * m / 6)) := (if_pos hh).trans (if_pos (by omega))
          rw [et]
          have hsp : ¬ VL m = [] := by
            intro e
            have h : sp_spk VL (S 19).toNat m = true := by assumption
            unfold sp_spk at h
            simp [e] at h
          have hlen : 0 < (VL m).length := List.length_pos_iff.mpr hsp
          rw [if_pos (show 0 < sp_Zr VL m by (show 0 < ((VL m).length : Int)); omega)]
          have hrw := am_rowl_d (hvoi.2.1 m (by omega) hsp) hlen
          unfold sp_Vr
          rw [show 6 * m / 6 = m by omega, show 6 * m % 6 = 0 by omega, ← hrw]
termination_by k
decreasing_by all_goals omega
theorem c_turns_2 {X : Nat × (Nat → Int)} {D : List (Nat × Nat)} {I J : Nat → Nat → Int} {ρ : Nat → Nat → Option Nat} (d : Nat) {S : Nat → Int} {B : Int} {VL : Nat → List Nat} (hok : r_ok S B) (hord : c_ords I S) (hvoi : c_voi I VL (S 19).toNat) (hv : sp_vcs S VL) (ho : ¬ sp_ops S = 0) (h71 : ρ 71 1 = some 2) (h12 : I 1 2 = S 19) (hr0 : I 2 0 = S 0) (hhr : I 2 1 = am_bits (sp_hp S) 6)  : am_E X (d + 2) 81 0 [(0, .inr (.inr (.inl (some 71))))] [] (am_mm D I J ρ) (fun r => r = (some (.inl ((sp_turns S (sp_Vr VL) (sp_Zr VL) (fun i => sp_hd S (i / 6))))), (am_mm D I J ρ))) := by
  have h19 := r_ok_19 hok
  have ob := sp_ops_b hok
  have obl := sp_ob_len (S := S)
  have hord0 := hord
  obtain ⟨h3, hob, hO⟩ := hord
  have hord := hord0
  have hcn := sp_hn_cnt hok
  have hcb := am_cnt_b (fun x => decide (S (7 + x) = 0)) (S 19).toNat
  have o0 : 0 ≤ S 0 ∧ S 0 ≤ 200 := by
    obtain ⟨o0, _⟩ := hok
    exact o0
  refine am_e_ss 1 (q := (1, [(0, .inr (.inr (.inl (some 71))))], [.inr (.inr (.inl (some 71)))], (am_mm D I J ρ))) rfl ?_
  refine am_e_getR (c := 10) (m := 14) (f := 1) (w := 2) rfl rfl rfl (by decide) (by decide) rfl rfl h71 ?_
  show am_E _ _ _ 4 [(0, .inr (.inr (.inl (some 71))))] [.inr (.inr (.inl (some 2)))] (am_mm D I J ρ) _
  refine am_e_virtual (Q := fun r => r = (some (.inl ((am_pop (am_bits (sp_hp S) 6)))), (am_mm D I J ρ))) rfl rfl (Nat.le_of_ble_eq_true rfl) rfl rfl (Nat.le_of_ble_eq_true rfl) (Nat.le_of_ble_eq_true rfl) (c_countHere_2 _ hhr) ?_
  rintro r rfl
  show am_E _ _ _ 7 [(0, .inr (.inr (.inl (some 71))))] [.inl ((am_pop (am_bits (sp_hp S) 6)))] (am_mm D I J ρ) _
  refine am_e_ss 2 (q := (9, [(1, .inl ((am_pop (am_bits (sp_hp S) 6)))), (0, .inr (.inr (.inl (some 71))))], [.inl ((am_pop (am_bits (sp_hp S) 6)))], (am_mm D I J ρ))) rfl ?_
  refine am_e_if2 rfl ⟨by omega, by omega⟩ (fun (hw1 : 0 < (am_pop (am_bits (sp_hp S) 6))) => ?_) (fun (hw1 : ¬ (0 < (am_pop (am_bits (sp_hp S) 6)))) => ?_)
  · show am_E _ _ _ 19 [(1, .inl ((am_pop (am_bits (sp_hp S) 6)))), (0, .inr (.inr (.inl (some 71))))] [] (am_mm D I J ρ) _
    refine am_e_ss 1 (q := (20, [(1, .inl ((am_pop (am_bits (sp_hp S) 6)))), (0, .inr (.inr (.inl (some 71))))], [.inr (.inr (.inl (some 71)))], (am_mm D I J ρ))) rfl ?_
    refine am_e_getR (c := 10) (m := 14) (f := 1) (w := 2) rfl rfl rfl (by decide) (by decide) rfl rfl h71 ?_
    show am_E _ _ _ 23 [(1, .inl ((am_pop (am_bits (sp_hp S) 6)))), (0, .inr (.inr (.inl (some 71))))] [.inr (.inr (.inl (some 2)))] (am_mm D I J ρ) _
    refine am_e_ss 2 (q := (27, [(1, .inl ((am_pop (am_bits (sp_hp S) 6)))), (0, .inr (.inr (.inl (some 71))))], [.inl ((am_pop (am_bits (sp_hp S) 6))), .inl ((I 2 0))], (am_mm D I J ρ))) rfl ?_
    refine am_e_iremp rfl ⟨by omega, by omega⟩ ⟨by omega, by omega⟩ ?_
    show am_E _ _ _ 28 [(1, .inl ((am_pop (am_bits (sp_hp S) 6)))), (0, .inr (.inr (.inl (some 71))))] [.inl (((I 2 0) % (am_pop (am_bits (sp_hp S) 6))))] (am_mm D I J ρ) _
    refine am_e_ss 3 (q := (31, [(3, .inl 0), (2, .inl (((I 2 0) % (am_pop (am_bits (sp_hp S) 6))))), (1, .inl ((am_pop (am_bits (sp_hp S) 6)))), (0, .inr (.inr (.inl (some 71))))], [], (am_mm D I J ρ))) rfl ?_
    have hmd := Int.emod_nonneg (S 0) (show ¬ am_pop (sp_here S) = 0 by omega)
    have hmd2 := Int.emod_lt_of_pos (S 0) (show 0 < am_pop (sp_here S) by omega)
    have ez : ((I 2 0) % (am_pop (am_bits (sp_hp S) 6))) = (S 0 % am_pop (sp_here S)) := by rw [hcn.1, hr0]
    exact am_less (lv := [(3, .inl (0 : Int)), (2, .inl (((I 2 0) % (am_pop (am_bits (sp_hp S) 6))))), (0, .inr (.inr (.inl (some 71))))]) rfl (List.forall_mem_cons.mpr ⟨rfl, List.forall_mem_cons.mpr ⟨rfl, List.forall_mem_cons.mpr ⟨rfl, List.forall_mem_nil _⟩⟩⟩) (c_turns_2_l (d + 1) (m := 0) (k := (S 19).toNat) (pl := 0) hok hord hvoi hv ho h71 h12 hr0 hhr (by omega) (by omega) (by omega))
  · show am_E _ _ _ 12 [(1, .inl ((am_pop (am_bits (sp_hp S) 6)))), (0, .inr (.inr (.inl (some 71))))] [] (am_mm D I J ρ) _
    refine am_e_ss 4 (q := (18, [(1, .inl ((am_pop (am_bits (sp_hp S) 6)))), (0, .inr (.inr (.inl (some 71))))], [.inl ((I 72 0))], (am_mm D I J ρ))) rfl ?_
    refine am_e_ireturn rfl rfl ?_
    have hc0 : am_cnt (fun x => decide (S (7 + x) = 0)) (S 19).toNat = 0 := by omega
    have hgo : ∀ j, j < (S 19).toNat → ¬ S (7 + j) = 0 := by
      intro j hj h
      have := sp_cnt_0 _ hc0 j hj
      simp [h] at this
    have et : sp_turns S (sp_Vr VL) (sp_Zr VL) (fun i => sp_hd S (i / 6)) = sp_most S (sp_Vr VL) (sp_Zr VL) 2 (-1) := sp_turnf_0 _ _ _ (fun j h1 h2 => hgo j (by omega))
    rw [et, ← (sp_mw_0 (way := 2) (but := -5) hok hv ho (by omega)).2.1]
    unfold sp_mw sp_mo
    have hil : 0 < (sp_ob S).length := by omega
    obtain ⟨a, r, hL⟩ : ∃ a r, sp_ob S = a :: r := by
      cases hL : sp_ob S with
      | nil => rw [hL] at hil; simp at hil
      | cons a r => exact ⟨a, r, rfl⟩
    have h6 := sp_ob_6 hok
    rw [hL] at hob h6
    have ha := h6 a List.mem_cons_self
    rw [am_rowl_h hob, hL, List.foldl_cons, show sp_mos (fun b : Nat => sp_tls VL 2 b (S 19).toNat) (-5) (-5) a = (a : Int) from if_pos ⟨by omega, by omega⟩, sp_mos_0 (fun b _ => sp_tls_0 _ (fun m hm => (hv m hm).2 (hgo m hm))) (fun x hx => h6 x (List.mem_cons_of_mem _ hx)) (by omega) (by omega)]
theorem c_pick_2 {X : Nat × (Nat → Int)} {D : List (Nat × Nat)} {I J : Nat → Nat → Int} {ρ : Nat → Nat → Option Nat} (d : Nat) {S : Nat → Int} {B way : Int} {VL : Nat → List Nat} (hok : r_ok S B) (hord : c_ords I S) (hvoi : ¬ sp_ops S = 0 → c_voi I VL (S 19).toNat) (hv : sp_vcs S VL) (hway : 0 ≤ way ∧ way ≤ 5) (h71 : ρ 71 1 = some 2) (h12 : I 1 2 = S 19) (hr0 : I 2 0 = S 0) (hhr : I 2 1 = am_bits (sp_hp S) 6)  : am_E X (d + 3) 78 0 [(0, .inr (.inr (.inl (some 71)))), (1, .inl way)] [] (am_mm D I J ρ) (fun r => r = (some (.inl ((sp_cho S VL way))), (am_mm D I J ρ))) := by
  have h3 := hord.1
  have ob := sp_ops_b hok
  refine am_e_ss 2 (q := (4, [(0, .inr (.inr (.inl (some 71)))), (1, .inl way)], [.inl ((I 71 3))], (am_mm D I J ρ))) rfl ?_
  refine am_e_if2 rfl ⟨by omega, by omega⟩ (fun (hw1 : ¬ (I 71 3) = 0) => ?_) (fun (hw1 : ¬ (¬ (I 71 3) = 0)) => ?_)
  · show am_E _ _ _ 10 [(0, .inr (.inr (.inl (some 71)))), (1, .inl way)] [] (am_mm D I J ρ) _
    have ho : ¬ sp_ops S = 0 := by omega
    have hvoi := hvoi ho
    refine am_e_ss 1 (q := (11, [(0, .inr (.inr (.inl (some 71)))), (1, .inl way)], [.inl way], (am_mm D I J ρ))) rfl ?_
    rcases (show way < 0 ∨ way = 0 ∨ way = 1 ∨ way = 2 ∨ way = 3 ∨ way = 4 ∨ 4 < way by omega) with hw2 | hw2 | hw2 | hw2 | hw2 | hw2 | hw2
    · refine am_e_tabOut (t := 87) rfl ⟨by omega, by omega⟩ (by omega) rfl ?_
      refine am_e_ss 1 (q := (88, [(0, .inr (.inr (.inl (some 71)))), (1, .inl way)], [.inr (.inr (.inl (some 71)))], (am_mm D I J ρ))) rfl ?_
      refine am_e_virtual (Q := fun r => r = (some (.inl ((sp_turns S (sp_Vr VL) (sp_Zr VL) (fun i => sp_hd S (i / 6))))), (am_mm D I J ρ))) rfl rfl (Nat.le_of_ble_eq_true rfl) rfl rfl (Nat.le_of_ble_eq_true rfl) (Nat.le_of_ble_eq_true rfl) (c_turns_2 _ hok hord hvoi hv ho h71 h12 hr0 hhr) ?_
      rintro r rfl
      show am_E _ _ _ 91 [(0, .inr (.inr (.inl (some 71)))), (1, .inl way)] [.inl ((sp_turns S (sp_Vr VL) (sp_Zr VL) (fun i => sp_hd S (i / 6))))] (am_mm D I J ρ) _
      refine am_e_ireturn rfl rfl ?_
      rw [show sp_cho S VL way = (sp_turns S (sp_Vr VL) (sp_Zr VL) (fun i => sp_hd S (i / 6))) by (unfold sp_cho sp_choose; rw [if_neg ho]; (repeat' split) <;> first | rfl | (exfalso; omega))]
    · refine am_e_tabIn (t := 44) (off := 33) rfl ⟨by omega, by omega⟩ (by omega) (by rw [hw2]; rfl) rfl ?_
      refine am_e_ss 4 (q := (51, [(0, .inr (.inr (.inl (some 71)))), (1, .inl way)], [.inl (-5), .inr (.inr (.inl (some 87))), .inr (.inr (.inl (some 71)))], (am_mm D I J ρ))) rfl ?_
      refine am_e_virtual (Q := fun r => r = (some (.inl ((sp_mw S VL 0 (-5)))), (am_mm D I J ρ))) rfl rfl (Nat.le_of_ble_eq_true rfl) rfl rfl (Nat.le_of_ble_eq_true rfl) (Nat.le_of_ble_eq_true rfl) (c_mw_87 _ (but := (-5)) hok hord hvoi hv ⟨by omega, by omega⟩) ?_
      rintro r rfl
      show am_E _ _ _ 54 [(0, .inr (.inr (.inl (some 71)))), (1, .inl way)] [.inl ((sp_mw S VL 0 (-5)))] (am_mm D I J ρ) _
      refine am_e_ireturn rfl rfl ?_
      rw [(sp_mw_0 (but := -5) hok hv ho (by omega)).2.1]
      rw [show sp_cho S VL way = sp_most S (sp_Vr VL) (sp_Zr VL) 0 (-1) by (unfold sp_cho sp_choose; rw [if_neg ho, if_neg (by omega), if_neg (by omega), if_neg (by omega), show way = 0 by omega])]
    · refine am_e_tabIn (t := 55) (off := 44) rfl ⟨by omega, by omega⟩ (by omega) (by rw [hw2]; rfl) rfl ?_
      refine am_e_ss 4 (q := (62, [(0, .inr (.inr (.inl (some 71)))), (1, .inl way)], [.inl (-5), .inr (.inr (.inl (some 88))), .inr (.inr (.inl (some 71)))], (am_mm D I J ρ))) rfl ?_
      refine am_e_virtual (Q := fun r => r = (some (.inl ((sp_mw S VL 1 (-5)))), (am_mm D I J ρ))) rfl rfl (Nat.le_of_ble_eq_true rfl) rfl rfl (Nat.le_of_ble_eq_true rfl) (Nat.le_of_ble_eq_true rfl) (c_mw_88 _ (but := (-5)) hok hord hvoi hv ⟨by omega, by omega⟩) ?_
      rintro r rfl
      show am_E _ _ _ 65 [(0, .inr (.inr (.inl (some 71)))), (1, .inl way)] [.inl ((sp_mw S VL 1 (-5)))] (am_mm D I J ρ) _
      refine am_e_ireturn rfl rfl ?_
      rw [(sp_mw_0 (but := -5) hok hv ho (by omega)).2.1]
      rw [show sp_cho S VL way = sp_most S (sp_Vr VL) (sp_Zr VL) 1 (-1) by (unfold sp_cho sp_choose; rw [if_neg ho, if_neg (by omega), if_neg (by omega), if_neg (by omega), show way = 1 by omega])]
    · refine am_e_tabIn (t := 66) (off := 55) rfl ⟨by omega, by omega⟩ (by omega) (by rw [hw2]; rfl) rfl ?_
      refine am_e_ss 4 (q := (73, [(0, .inr (.inr (.inl (some 71)))), (1, .inl way)], [.inl (-5), .inr (.inr (.inl (some 89))), .inr (.inr (.inl (some 71)))], (am_mm D I J ρ))) rfl ?_
      refine am_e_virtual (Q := fun r => r = (some (.inl ((sp_mw S VL 2 (-5)))), (am_mm D I J ρ))) rfl rfl (Nat.le_of_ble_eq_true rfl) rfl rfl (Nat.le_of_ble_eq_true rfl) (Nat.le_of_ble_eq_true rfl) (c_mw_89 _ (but := (-5)) hok hord hvoi hv ⟨by omega, by omega⟩) ?_
      rintro r rfl
      show am_E _ _ _ 76 [(0, .inr (.inr (.inl (some 71)))), (1, .inl way)] [.inl ((sp_mw S VL 2 (-5)))] (am_mm D I J ρ) _
      refine am_e_ireturn rfl rfl ?_
      rw [(sp_mw_0 (but := -5) hok hv ho (by omega)).2.1]
      rw [show sp_cho S VL way = sp_most S (sp_Vr VL) (sp_Zr VL) 2 (-1) by (unfold sp_cho sp_choose; rw [if_neg ho, if_neg (by omega), if_neg (by omega), if_neg (by omega), show way = 2 by omega])]
    · refine am_e_tabIn (t := 77) (off := 66) rfl ⟨by omega, by omega⟩ (by omega) (by rw [hw2]; rfl) rfl ?_
      refine am_e_ss 1 (q := (78, [(0, .inr (.inr (.inl (some 71)))), (1, .inl way)], [.inr (.inr (.inl (some 71)))], (am_mm D I J ρ))) rfl ?_
      refine am_e_virtual (Q := fun r => r = (some (.inl ((sp_rounds S (sp_Vr VL) (sp_Zr VL)))), (am_mm D I J ρ))) rfl rfl (Nat.le_of_ble_eq_true rfl) rfl rfl (Nat.le_of_ble_eq_true rfl) (Nat.le_of_ble_eq_true rfl) (c_rounds _ hok hord hvoi hv ho) ?_
      rintro r rfl
      show am_E _ _ _ 81 [(0, .inr (.inr (.inl (some 71)))), (1, .inl way)] [.inl ((sp_rounds S (sp_Vr VL) (sp_Zr VL)))] (am_mm D I J ρ) _
      refine am_e_ireturn rfl rfl ?_
      rw [show sp_cho S VL way = (sp_rounds S (sp_Vr VL) (sp_Zr VL)) by (unfold sp_cho sp_choose; rw [if_neg ho]; (repeat' split) <;> first | rfl | (exfalso; omega))]
    · refine am_e_tabIn (t := 82) (off := 71) rfl ⟨by omega, by omega⟩ (by omega) (by rw [hw2]; rfl) rfl ?_
      refine am_e_ss 1 (q := (83, [(0, .inr (.inr (.inl (some 71)))), (1, .inl way)], [.inr (.inr (.inl (some 71)))], (am_mm D I J ρ))) rfl ?_
      refine am_e_virtual (Q := fun r => r = (some (.inl ((sp_pairs S (sp_Vr VL) (sp_Zr VL)))), (am_mm D I J ρ))) rfl rfl (Nat.le_of_ble_eq_true rfl) rfl rfl (Nat.le_of_ble_eq_true rfl) (Nat.le_of_ble_eq_true rfl) (c_pairs _ hok hord hvoi hv ho) ?_
      rintro r rfl
      show am_E _ _ _ 86 [(0, .inr (.inr (.inl (some 71)))), (1, .inl way)] [.inl ((sp_pairs S (sp_Vr VL) (sp_Zr VL)))] (am_mm D I J ρ) _
      refine am_e_ireturn rfl rfl ?_
      rw [show sp_cho S VL way = (sp_pairs S (sp_Vr VL) (sp_Zr VL)) by (unfold sp_cho sp_choose; rw [if_neg ho]; (repeat' split) <;> first | rfl | (exfalso; omega))]
    · refine am_e_tabOut (t := 87) rfl ⟨by omega, by omega⟩ (by omega) rfl ?_
      refine am_e_ss 1 (q := (88, [(0, .inr (.inr (.inl (some 71)))), (1, .inl way)], [.inr (.inr (.inl (some 71)))], (am_mm D I J ρ))) rfl ?_
      refine am_e_virtual (Q := fun r => r = (some (.inl ((sp_turns S (sp_Vr VL) (sp_Zr VL) (fun i => sp_hd S (i / 6))))), (am_mm D I J ρ))) rfl rfl (Nat.le_of_ble_eq_true rfl) rfl rfl (Nat.le_of_ble_eq_true rfl) (Nat.le_of_ble_eq_true rfl) (c_turns_2 _ hok hord hvoi hv ho h71 h12 hr0 hhr) ?_
      rintro r rfl
      show am_E _ _ _ 91 [(0, .inr (.inr (.inl (some 71)))), (1, .inl way)] [.inl ((sp_turns S (sp_Vr VL) (sp_Zr VL) (fun i => sp_hd S (i / 6))))] (am_mm D I J ρ) _
      refine am_e_ireturn rfl rfl ?_
      rw [show sp_cho S VL way = (sp_turns S (sp_Vr VL) (sp_Zr VL) (fun i => sp_hd S (i / 6))) by (unfold sp_cho sp_choose; rw [if_neg ho]; (repeat' split) <;> first | rfl | (exfalso; omega))]
  · show am_E _ _ _ 7 [(0, .inr (.inr (.inl (some 71)))), (1, .inl way)] [] (am_mm D I J ρ) _
    refine am_e_ss 1 (q := (9, [(0, .inr (.inr (.inl (some 71)))), (1, .inl way)], [.inl (-5)], (am_mm D I J ρ))) rfl ?_
    refine am_e_ireturn rfl rfl ?_
    rw [show sp_cho S VL way = -5 by (unfold sp_cho sp_choose; rw [if_pos (by omega)])]
theorem c_countHere_69 {X : Nat × (Nat → Int)} {D : List (Nat × Nat)} {I J : Nat → Nat → Int} {ρ : Nat → Nat → Option Nat} (d : Nat) {p : Nat → Bool} (hp : I 69 1 = am_bits p 6) : am_E X (d + 1) 55 0 [(0, .inr (.inr (.inl (some 69))))] [] (am_mm D I J ρ) (fun r => r = (some (.inl ((am_pop (am_bits p 6)))), (am_mm D I J ρ))) := by
  have hb := am_bits_63 p
  refine am_e_ss 2 (q := (4, [(0, .inr (.inr (.inl (some 69))))], [.inl ((I 69 1))], (am_mm D I J ρ))) rfl ?_
  refine am_e_static (Q := fun r => r = (some (.inl ((am_pop (I 69 1)))), (am_mm D I J ρ))) rfl (Nat.le_of_ble_eq_true rfl) rfl (Nat.le_of_ble_eq_true rfl) (Nat.le_of_ble_eq_true rfl) (j_bitCount _ ⟨by omega, by omega⟩) ?_
  rintro r rfl
  show am_E _ _ _ 7 [(0, .inr (.inr (.inl (some 69))))] [.inl ((am_pop (I 69 1)))] (am_mm D I J ρ) _
  refine am_e_ireturn rfl rfl ?_
  rw [hp]
theorem c_turns_69_l {X : Nat × (Nat → Int)} {D : List (Nat × Nat)} {I J : Nat → Nat → Int} {ρ : Nat → Nat → Option Nat} (d : Nat) {S : Nat → Int} {B : Int} {VL : Nat → List Nat} (hok : r_ok S B) (hord : c_ords I S) (hvoi : c_voi I VL (S 19).toNat) (hv : sp_vcs S VL) (ho : ¬ sp_ops S = 0) (h71 : ρ 71 1 = some 69) (h12 : I 1 2 = S 19) (hr0 : I 69 0 = S 0) (hhr : I 69 1 = am_bits (sp_hp S) 6) {z pl : Int} {m k : Nat} (hk : (S 19) = (k : Int) + (m : Int)) (hz : z = (S 0 % am_pop (sp_here S)) - pl ∧ 0 ≤ z ∧ z ≤ 200) (hrem : z < sp_hfr S k m) : am_E X (d + 1) 81 31 [(3, .inl (m : Int)), (2, .inl z), (0, .inr (.inr (.inl (some 71))))] [] (am_mm D I J ρ) (fun r => r = (some (.inl ((sp_turnf S (sp_Vr VL) (sp_Zr VL) (fun i => sp_hd S (i / 6)) k m pl))), (am_mm D I J ρ))) := by
  have h19 := r_ok_19 hok
  have ob := sp_ops_b hok
  have obl := sp_ob_len (S := S)
  have hord0 := hord
  obtain ⟨h3, hob, hO⟩ := hord
  have hord := hord0
  refine am_e_ss 4 (q := (39, [(3, .inl (m : Int)), (2, .inl z), (0, .inr (.inr (.inl (some 71))))], [.inl ((I 1 2)), .inl (m : Int)], (am_mm D I J ρ))) rfl ?_
  refine am_e_icmp2 rfl ⟨by omega, by omega⟩ ⟨by omega, by omega⟩ (fun (hw1 : (I 1 2) ≤ (m : Int)) => ?_) (fun (hw1 : ¬ ((I 1 2) ≤ (m : Int))) => ?_)
  · show am_E _ _ _ 94 [(3, .inl (m : Int)), (2, .inl z), (0, .inr (.inr (.inl (some 71))))] [] (am_mm D I J ρ) _
    refine am_e_ss 4 (q := (100, [(3, .inl (m : Int)), (2, .inl z), (0, .inr (.inr (.inl (some 71))))], [.inl ((I 72 0))], (am_mm D I J ρ))) rfl ?_
    refine am_e_ireturn rfl rfl ?_
    exfalso
    have ek : k = 0 := by omega
    subst ek
    have : sp_hfr S 0 m = 0 := rfl
    omega
  · show am_E _ _ _ 42 [(3, .inl (m : Int)), (2, .inl z), (0, .inr (.inr (.inl (some 71))))] [] (am_mm D I J ρ) _
    refine am_e_ss 1 (q := (43, [(3, .inl (m : Int)), (2, .inl z), (0, .inr (.inr (.inl (some 71))))], [.inr (.inr (.inl (some 71)))], (am_mm D I J ρ))) rfl ?_
    refine am_e_getR (c := 10) (m := 14) (f := 1) (w := 69) rfl rfl rfl (by decide) (by decide) rfl rfl h71 ?_
    show am_E _ _ _ 46 [(3, .inl (m : Int)), (2, .inl z), (0, .inr (.inr (.inl (some 71))))] [.inr (.inr (.inl (some 69)))] (am_mm D I J ρ) _
    refine am_e_ss 1 (q := (47, [(3, .inl (m : Int)), (2, .inl z), (0, .inr (.inr (.inl (some 71))))], [.inl (m : Int), .inr (.inr (.inl (some 69)))], (am_mm D I J ρ))) rfl ?_
    refine am_e_virtual (Q := fun r => r = (some (.inl ((am_bi (sp_hp S m = true)))), (am_mm D I J ρ))) rfl rfl (Nat.le_of_ble_eq_true rfl) rfl rfl (Nat.le_of_ble_eq_true rfl) (Nat.le_of_ble_eq_true rfl) (c_isHere_69 _ (p := sp_hp S) hhr (by omega)) ?_
    rintro r rfl
    show am_E _ _ _ 50 [(3, .inl (m : Int)), (2, .inl z), (0, .inr (.inr (.inl (some 71))))] [.inl ((am_bi (sp_hp S m = true)))] (am_mm D I J ρ) _
    refine am_e_ifeq rfl (fun hw2 => ?_) (fun hw2 => ?_)
    · show am_E _ _ _ 88 [(3, .inl (m : Int)), (2, .inl z), (0, .inr (.inr (.inl (some 71))))] [] (am_mm D I J ρ) _
      refine am_e_ss 2 (q := (31, [(3, .inl ((m : Int) + 1)), (2, .inl z), (0, .inr (.inr (.inl (some 71))))], [], (am_mm D I J ρ))) rfl ?_
      have hh : ¬ S (7 + m) = 0 := fun h => absurd (sp_hp_t.mpr ⟨by omega, h⟩) (by assumption)
      obtain ⟨k', rfl⟩ : ∃ k', k = k' + 1 := ⟨k - 1, by omega⟩
      have et : (sp_turnf S (sp_Vr VL) (sp_Zr VL) (fun i => sp_hd S (i / 6)) (k' + 1) m pl) = (sp_turnf S (sp_Vr VL) (sp_Zr VL) (fun i => sp_hd S (i / 6)) k' (m + 1) pl) := if_neg hh
      rw [et]
      have ef : sp_hfr S (k' + 1) m = 0 + sp_hfr S k' (m + 1) := by show (if _ then _ else _) + _ = _; rw [if_neg hh]
      exact am_less (lv := [(3, .inl ((m + 1) : Int)), (2, .inl z), (0, .inr (.inr (.inl (some 71))))]) rfl (List.forall_mem_cons.mpr ⟨rfl, List.forall_mem_cons.mpr ⟨rfl, List.forall_mem_cons.mpr ⟨rfl, List.forall_mem_nil _⟩⟩⟩) (c_turns_69_l d (m := m + 1) (k := k') (pl := pl) hok hord hvoi hv ho h71 h12 hr0 hhr (by omega) (by omega) (by omega))
    · show am_E _ _ _ 53 [(3, .inl (m : Int)), (2, .inl z), (0, .inr (.inr (.inl (some 71))))] [] (am_mm D I J ρ) _
      refine am_e_ss 1 (q := (54, [(3, .inl (m : Int)), (2, .inl z), (0, .inr (.inr (.inl (some 71))))], [.inl z], (am_mm D I J ρ))) rfl ?_
      refine am_e_if2 rfl ⟨by omega, by omega⟩ (fun (hw3 : ¬ z = 0) => ?_) (fun (hw3 : ¬ (¬ z = 0)) => ?_)
      · show am_E _ _ _ 85 [(3, .inl (m : Int)), (2, .inl z), (0, .inr (.inr (.inl (some 71))))] [] (am_mm D I J ρ) _
        refine am_e_ss 3 (q := (31, [(3, .inl ((m : Int) + 1)), (2, .inl (z + (-1))), (0, .inr (.inr (.inl (some 71))))], [], (am_mm D I J ρ))) rfl ?_
        have hh : S (7 + m) = 0 := (sp_hp_t.mp (by assumption)).2
        obtain ⟨k', rfl⟩ : ∃ k', k = k' + 1 := ⟨k - 1, by omega⟩
        have et : (sp_turnf S (sp_Vr VL) (sp_Zr VL) (fun i => sp_hd S (i / 6)) (k' + 1) m pl) = (sp_turnf S (sp_Vr VL) (sp_Zr VL) (fun i => sp_hd S (i / 6)) k' (m + 1) (pl + 1)) := (if_pos hh).trans (if_neg (by omega))
        rw [et]
        have ef : sp_hfr S (k' + 1) m = 1 + sp_hfr S k' (m + 1) := by show (if _ then _ else _) + _ = _; rw [if_pos hh]
        exact am_less (lv := [(3, .inl ((m + 1) : Int)), (2, .inl ((z + (-1)))), (0, .inr (.inr (.inl (some 71))))]) rfl (List.forall_mem_cons.mpr ⟨rfl, List.forall_mem_cons.mpr ⟨rfl, List.forall_mem_cons.mpr ⟨rfl, List.forall_mem_nil _⟩⟩⟩) (c_turns_69_l d (m := m + 1) (k := k') (pl := pl + 1) hok hord hvoi hv ho h71 h12 hr0 hhr (by omega) (by omega) (by omega))
      · show am_E _ _ _ 57 [(3, .inl (m : Int)), (2, .inl z), (0, .inr (.inr (.inl (some 71))))] [] (am_mm D I J ρ) _
        refine am_e_ss 2 (q := (59, [(3, .inl (m : Int)), (2, .inl z), (0, .inr (.inr (.inl (some 71))))], [.inl (m : Int), .inr (.inr (.inl (some 71)))], (am_mm D I J ρ))) rfl ?_
        refine am_e_virtual (Q := fun r => r = (some (.inl ((am_bi (sp_spk VL (S 19).toNat m = true)))), (am_mm D I J ρ))) rfl rfl (Nat.le_of_ble_eq_true rfl) rfl rfl (Nat.le_of_ble_eq_true rfl) (Nat.le_of_ble_eq_true rfl) (c_speaks _ (p := sp_spk VL (S 19).toNat) hvoi.1 (by omega)) ?_
        rintro r rfl
        show am_E _ _ _ 62 [(3, .inl (m : Int)), (2, .inl z), (0, .inr (.inr (.inl (some 71))))] [.inl ((am_bi (sp_spk VL (S 19).toNat m = true)))] (am_mm D I J ρ) _
        refine am_e_ifeq rfl (fun hw4 => ?_) (fun hw4 => ?_)
        · show am_E _ _ _ 76 [(3, .inl (m : Int)), (2, .inl z), (0, .inr (.inr (.inl (some 71))))] [] (am_mm D I J ρ) _
          refine am_e_ss 3 (q := (81, [(3, .inl (m : Int)), (2, .inl z), (0, .inr (.inr (.inl (some 71))))], [.inl (m : Int), .inr (.inr (.inl (some 73)))], (am_mm D I J ρ))) rfl ?_
          refine am_e_aaload (m := 6) (c := 23) rfl rfl (by decide) (by omega) (by omega) (by omega) ?_
          rw [show ((am_mm D I J ρ)).2.2.2 73 ((m : Int)).toNat = some (74 + m) from (am_r73 (ρ := ρ) (by omega))]
          show am_E _ _ _ 82 [(3, .inl (m : Int)), (2, .inl z), (0, .inr (.inr (.inl (some 71))))] [.inr (.inr (.inl (some (74 + m))))] (am_mm D I J ρ) _
          refine am_e_ss 1 (q := (83, [(3, .inl (m : Int)), (2, .inl z), (0, .inr (.inr (.inl (some 71))))], [.inl 0, .inr (.inr (.inl (some (74 + m))))], (am_mm D I J ρ))) rfl ?_
          refine am_e_iaload (m := 6) rfl (am_k74 (by omega)) (by omega) (by omega) (by omega) ?_
          show am_E _ _ _ 84 [(3, .inl (m : Int)), (2, .inl z), (0, .inr (.inr (.inl (some 71))))] [.inl ((I (74 + m) 0))] (am_mm D I J ρ) _
          refine am_e_ireturn rfl rfl ?_
          have hh : S (7 + m) = 0 := (sp_hp_t.mp (by assumption)).2
          obtain ⟨k', rfl⟩ : ∃ k', k = k' + 1 := ⟨k - 1, by omega⟩
          have et : (sp_turnf S (sp_Vr VL) (sp_Zr VL) (fun i => sp_hd S (i / 6)) (k' + 1) m pl) = (if 0 < sp_Zr VL m then sp_Vr VL (6 * m) else sp_hd S (6 * m / 6)) := (if_pos hh).trans (if_pos (by omega))
          rw [et]
          have hsp : VL m = [] := by
            cases hL : VL m with
            | nil => rfl
            | cons a r => exact absurd (show sp_spk VL (S 19).toNat m = true by unfold sp_spk; rw [hL]; simp; omega) (by assumption)
          rw [if_neg (show ¬ 0 < sp_Zr VL m by (show ¬ 0 < ((VL m).length : Int)); rw [hsp]; simp), show 6 * m / 6 = m by omega]
          have hol := sp_ord_len (S := S) (m := m)
          have hrd := hO m (by omega)
          unfold sp_hd
          cases hL : sp_ord S m with
          | nil => rw [hL] at hol; exact absurd hol.symm ho
          | cons a r => rw [hL] at hrd; rw [am_rowl_h hrd]; rfl
        · show am_E _ _ _ 65 [(3, .inl (m : Int)), (2, .inl z), (0, .inr (.inr (.inl (some 71))))] [] (am_mm D I J ρ) _
          refine am_e_ss 3 (q := (70, [(3, .inl (m : Int)), (2, .inl z), (0, .inr (.inr (.inl (some 71))))], [.inl (m : Int), .inr (.inr (.inl (some 80)))], (am_mm D I J ρ))) rfl ?_
          refine am_e_aaload (m := 6) (c := 23) rfl rfl (by decide) (by omega) (by omega) (by omega) ?_
          rw [show ((am_mm D I J ρ)).2.2.2 80 ((m : Int)).toNat = some (81 + m) from (am_r80 (ρ := ρ) (by omega))]
          show am_E _ _ _ 71 [(3, .inl (m : Int)), (2, .inl z), (0, .inr (.inr (.inl (some 71))))] [.inr (.inr (.inl (some (81 + m))))] (am_mm D I J ρ) _
          refine am_e_ss 1 (q := (72, [(3, .inl (m : Int)), (2, .inl z), (0, .inr (.inr (.inl (some 71))))], [.inl 0, .inr (.inr (.inl (some (81 + m))))], (am_mm D I J ρ))) rfl ?_
          refine am_e_iaload (m := 6) rfl (am_k81 (by omega)) (by omega) (by omega) (by omega) ?_
          show am_E _ _ _ 73 [(3, .inl (m : Int)), (2, .inl z), (0, .inr (.inr (.inl (some 71))))] [.inl ((I (81 + m) 0))] (am_mm D I J ρ) _
          refine am_e_ss 1 (q := (84, [(3, .inl (m : Int)), (2, .inl z), (0, .inr (.inr (.inl (some 71))))], [.inl ((I (81 + m) 0))], (am_mm D I J ρ))) rfl ?_
          refine am_e_ireturn rfl rfl ?_
          have hh : S (7 + m) = 0 := (sp_hp_t.mp (by assumption)).2
          obtain ⟨k', rfl⟩ : ∃ k', k = k' + 1 := ⟨k - 1, by omega⟩
          have et : (sp_turnf S (sp_Vr VL) (sp_Zr VL) (fun i => sp_hd S (i / 6)) (k' + 1) m pl) = (if 0 < sp_Zr VL m then sp_Vr VL (6 * m) else sp_hd S (6 * m / 6)) := (if_pos hh).trans (if_pos (by omega))
          rw [et]
          have hsp : ¬ VL m = [] := by
            intro e
            have h : sp_spk VL (S 19).toNat m = true := by assumption
            unfold sp_spk at h
            simp [e] at h
          have hlen : 0 < (VL m).length := List.length_pos_iff.mpr hsp
          rw [if_pos (show 0 < sp_Zr VL m by (show 0 < ((VL m).length : Int)); omega)]
          have hrw := am_rowl_d (hvoi.2.1 m (by omega) hsp) hlen
          unfold sp_Vr
          rw [show 6 * m / 6 = m by omega, show 6 * m % 6 = 0 by omega, ← hrw]
termination_by k
decreasing_by all_goals omega
theorem c_turns_69 {X : Nat × (Nat → Int)} {D : List (Nat × Nat)} {I J : Nat → Nat → Int} {ρ : Nat → Nat → Option Nat} (d : Nat) {S : Nat → Int} {B : Int} {VL : Nat → List Nat} (hok : r_ok S B) (hord : c_ords I S) (hvoi : c_voi I VL (S 19).toNat) (hv : sp_vcs S VL) (ho : ¬ sp_ops S = 0) (h71 : ρ 71 1 = some 69) (h12 : I 1 2 = S 19) (hr0 : I 69 0 = S 0) (hhr : I 69 1 = am_bits (sp_hp S) 6)  : am_E X (d + 2) 81 0 [(0, .inr (.inr (.inl (some 71))))] [] (am_mm D I J ρ) (fun r => r = (some (.inl ((sp_turns S (sp_Vr VL) (sp_Zr VL) (fun i => sp_hd S (i / 6))))), (am_mm D I J ρ))) := by
  have h19 := r_ok_19 hok
  have ob := sp_ops_b hok
  have obl := sp_ob_len (S := S)
  have hord0 := hord
  obtain ⟨h3, hob, hO⟩ := hord
  have hord := hord0
  have hcn := sp_hn_cnt hok
  have hcb := am_cnt_b (fun x => decide (S (7 + x) = 0)) (S 19).toNat
  have o0 : 0 ≤ S 0 ∧ S 0 ≤ 200 := by
    obtain ⟨o0, _⟩ := hok
    exact o0
  refine am_e_ss 1 (q := (1, [(0, .inr (.inr (.inl (some 71))))], [.inr (.inr (.inl (some 71)))], (am_mm D I J ρ))) rfl ?_
  refine am_e_getR (c := 10) (m := 14) (f := 1) (w := 69) rfl rfl rfl (by decide) (by decide) rfl rfl h71 ?_
  show am_E _ _ _ 4 [(0, .inr (.inr (.inl (some 71))))] [.inr (.inr (.inl (some 69)))] (am_mm D I J ρ) _
  refine am_e_virtual (Q := fun r => r = (some (.inl ((am_pop (am_bits (sp_hp S) 6)))), (am_mm D I J ρ))) rfl rfl (Nat.le_of_ble_eq_true rfl) rfl rfl (Nat.le_of_ble_eq_true rfl) (Nat.le_of_ble_eq_true rfl) (c_countHere_69 _ hhr) ?_
  rintro r rfl
  show am_E _ _ _ 7 [(0, .inr (.inr (.inl (some 71))))] [.inl ((am_pop (am_bits (sp_hp S) 6)))] (am_mm D I J ρ) _
  refine am_e_ss 2 (q := (9, [(1, .inl ((am_pop (am_bits (sp_hp S) 6)))), (0, .inr (.inr (.inl (some 71))))], [.inl ((am_pop (am_bits (sp_hp S) 6)))], (am_mm D I J ρ))) rfl ?_
  refine am_e_if2 rfl ⟨by omega, by omega⟩ (fun (hw1 : 0 < (am_pop (am_bits (sp_hp S) 6))) => ?_) (fun (hw1 : ¬ (0 < (am_pop (am_bits (sp_hp S) 6)))) => ?_)
  · show am_E _ _ _ 19 [(1, .inl ((am_pop (am_bits (sp_hp S) 6)))), (0, .inr (.inr (.inl (some 71))))] [] (am_mm D I J ρ) _
    refine am_e_ss 1 (q := (20, [(1, .inl ((am_pop (am_bits (sp_hp S) 6)))), (0, .inr (.inr (.inl (some 71))))], [.inr (.inr (.inl (some 71)))], (am_mm D I J ρ))) rfl ?_
    refine am_e_getR (c := 10) (m := 14) (f := 1) (w := 69) rfl rfl rfl (by decide) (by decide) rfl rfl h71 ?_
    show am_E _ _ _ 23 [(1, .inl ((am_pop (am_bits (sp_hp S) 6)))), (0, .inr (.inr (.inl (some 71))))] [.inr (.inr (.inl (some 69)))] (am_mm D I J ρ) _
    refine am_e_ss 2 (q := (27, [(1, .inl ((am_pop (am_bits (sp_hp S) 6)))), (0, .inr (.inr (.inl (some 71))))], [.inl ((am_pop (am_bits (sp_hp S) 6))), .inl ((I 69 0))], (am_mm D I J ρ))) rfl ?_
    refine am_e_iremp rfl ⟨by omega, by omega⟩ ⟨by omega, by omega⟩ ?_
    show am_E _ _ _ 28 [(1, .inl ((am_pop (am_bits (sp_hp S) 6)))), (0, .inr (.inr (.inl (some 71))))] [.inl (((I 69 0) % (am_pop (am_bits (sp_hp S) 6))))] (am_mm D I J ρ) _
    refine am_e_ss 3 (q := (31, [(3, .inl 0), (2, .inl (((I 69 0) % (am_pop (am_bits (sp_hp S) 6))))), (1, .inl ((am_pop (am_bits (sp_hp S) 6)))), (0, .inr (.inr (.inl (some 71))))], [], (am_mm D I J ρ))) rfl ?_
    have hmd := Int.emod_nonneg (S 0) (show ¬ am_pop (sp_here S) = 0 by omega)
    have hmd2 := Int.emod_lt_of_pos (S 0) (show 0 < am_pop (sp_here S) by omega)
    have ez : ((I 69 0) % (am_pop (am_bits (sp_hp S) 6))) = (S 0 % am_pop (sp_here S)) := by rw [hcn.1, hr0]
    exact am_less (lv := [(3, .inl (0 : Int)), (2, .inl (((I 69 0) % (am_pop (am_bits (sp_hp S) 6))))), (0, .inr (.inr (.inl (some 71))))]) rfl (List.forall_mem_cons.mpr ⟨rfl, List.forall_mem_cons.mpr ⟨rfl, List.forall_mem_cons.mpr ⟨rfl, List.forall_mem_nil _⟩⟩⟩) (c_turns_69_l (d + 1) (m := 0) (k := (S 19).toNat) (pl := 0) hok hord hvoi hv ho h71 h12 hr0 hhr (by omega) (by omega) (by omega))
  · show am_E _ _ _ 12 [(1, .inl ((am_pop (am_bits (sp_hp S) 6)))), (0, .inr (.inr (.inl (some 71))))] [] (am_mm D I J ρ) _
    refine am_e_ss 4 (q := (18, [(1, .inl ((am_pop (am_bits (sp_hp S) 6)))), (0, .inr (.inr (.inl (some 71))))], [.inl ((I 72 0))], (am_mm D I J ρ))) rfl ?_
    refine am_e_ireturn rfl rfl ?_
    have hc0 : am_cnt (fun x => decide (S (7 + x) = 0)) (S 19).toNat = 0 := by omega
    have hgo : ∀ j, j < (S 19).toNat → ¬ S (7 + j) = 0 := by
      intro j hj h
      have := sp_cnt_0 _ hc0 j hj
      simp [h] at this
    have et : sp_turns S (sp_Vr VL) (sp_Zr VL) (fun i => sp_hd S (i / 6)) = sp_most S (sp_Vr VL) (sp_Zr VL) 2 (-1) := sp_turnf_0 _ _ _ (fun j h1 h2 => hgo j (by omega))
    rw [et, ← (sp_mw_0 (way := 2) (but := -5) hok hv ho (by omega)).2.1]
    unfold sp_mw sp_mo
    have hil : 0 < (sp_ob S).length := by omega
    obtain ⟨a, r, hL⟩ : ∃ a r, sp_ob S = a :: r := by
      cases hL : sp_ob S with
      | nil => rw [hL] at hil; simp at hil
      | cons a r => exact ⟨a, r, rfl⟩
    have h6 := sp_ob_6 hok
    rw [hL] at hob h6
    have ha := h6 a List.mem_cons_self
    rw [am_rowl_h hob, hL, List.foldl_cons, show sp_mos (fun b : Nat => sp_tls VL 2 b (S 19).toNat) (-5) (-5) a = (a : Int) from if_pos ⟨by omega, by omega⟩, sp_mos_0 (fun b _ => sp_tls_0 _ (fun m hm => (hv m hm).2 (hgo m hm))) (fun x hx => h6 x (List.mem_cons_of_mem _ hx)) (by omega) (by omega)]
theorem c_pick_69 {X : Nat × (Nat → Int)} {D : List (Nat × Nat)} {I J : Nat → Nat → Int} {ρ : Nat → Nat → Option Nat} (d : Nat) {S : Nat → Int} {B way : Int} {VL : Nat → List Nat} (hok : r_ok S B) (hord : c_ords I S) (hvoi : ¬ sp_ops S = 0 → c_voi I VL (S 19).toNat) (hv : sp_vcs S VL) (hway : 0 ≤ way ∧ way ≤ 5) (h71 : ρ 71 1 = some 69) (h12 : I 1 2 = S 19) (hr0 : I 69 0 = S 0) (hhr : I 69 1 = am_bits (sp_hp S) 6)  : am_E X (d + 3) 78 0 [(0, .inr (.inr (.inl (some 71)))), (1, .inl way)] [] (am_mm D I J ρ) (fun r => r = (some (.inl ((sp_cho S VL way))), (am_mm D I J ρ))) := by
  have h3 := hord.1
  have ob := sp_ops_b hok
  refine am_e_ss 2 (q := (4, [(0, .inr (.inr (.inl (some 71)))), (1, .inl way)], [.inl ((I 71 3))], (am_mm D I J ρ))) rfl ?_
  refine am_e_if2 rfl ⟨by omega, by omega⟩ (fun (hw1 : ¬ (I 71 3) = 0) => ?_) (fun (hw1 : ¬ (¬ (I 71 3) = 0)) => ?_)
  · show am_E _ _ _ 10 [(0, .inr (.inr (.inl (some 71)))), (1, .inl way)] [] (am_mm D I J ρ) _
    have ho : ¬ sp_ops S = 0 := by omega
    have hvoi := hvoi ho
    refine am_e_ss 1 (q := (11, [(0, .inr (.inr (.inl (some 71)))), (1, .inl way)], [.inl way], (am_mm D I J ρ))) rfl ?_
    rcases (show way < 0 ∨ way = 0 ∨ way = 1 ∨ way = 2 ∨ way = 3 ∨ way = 4 ∨ 4 < way by omega) with hw2 | hw2 | hw2 | hw2 | hw2 | hw2 | hw2
    · refine am_e_tabOut (t := 87) rfl ⟨by omega, by omega⟩ (by omega) rfl ?_
      refine am_e_ss 1 (q := (88, [(0, .inr (.inr (.inl (some 71)))), (1, .inl way)], [.inr (.inr (.inl (some 71)))], (am_mm D I J ρ))) rfl ?_
      refine am_e_virtual (Q := fun r => r = (some (.inl ((sp_turns S (sp_Vr VL) (sp_Zr VL) (fun i => sp_hd S (i / 6))))), (am_mm D I J ρ))) rfl rfl (Nat.le_of_ble_eq_true rfl) rfl rfl (Nat.le_of_ble_eq_true rfl) (Nat.le_of_ble_eq_true rfl) (c_turns_69 _ hok hord hvoi hv ho h71 h12 hr0 hhr) ?_
      rintro r rfl
      show am_E _ _ _ 91 [(0, .inr (.inr (.inl (some 71)))), (1, .inl way)] [.inl ((sp_turns S (sp_Vr VL) (sp_Zr VL) (fun i => sp_hd S (i / 6))))] (am_mm D I J ρ) _
      refine am_e_ireturn rfl rfl ?_
      rw [show sp_cho S VL way = (sp_turns S (sp_Vr VL) (sp_Zr VL) (fun i => sp_hd S (i / 6))) by (unfold sp_cho sp_choose; rw [if_neg ho]; (repeat' split) <;> first | rfl | (exfalso; omega))]
    · refine am_e_tabIn (t := 44) (off := 33) rfl ⟨by omega, by omega⟩ (by omega) (by rw [hw2]; rfl) rfl ?_
      refine am_e_ss 4 (q := (51, [(0, .inr (.inr (.inl (some 71)))), (1, .inl way)], [.inl (-5), .inr (.inr (.inl (some 87))), .inr (.inr (.inl (some 71)))], (am_mm D I J ρ))) rfl ?_
      refine am_e_virtual (Q := fun r => r = (some (.inl ((sp_mw S VL 0 (-5)))), (am_mm D I J ρ))) rfl rfl (Nat.le_of_ble_eq_true rfl) rfl rfl (Nat.le_of_ble_eq_true rfl) (Nat.le_of_ble_eq_true rfl) (c_mw_87 _ (but := (-5)) hok hord hvoi hv ⟨by omega, by omega⟩) ?_
      rintro r rfl
      show am_E _ _ _ 54 [(0, .inr (.inr (.inl (some 71)))), (1, .inl way)] [.inl ((sp_mw S VL 0 (-5)))] (am_mm D I J ρ) _
      refine am_e_ireturn rfl rfl ?_
      rw [(sp_mw_0 (but := -5) hok hv ho (by omega)).2.1]
      rw [show sp_cho S VL way = sp_most S (sp_Vr VL) (sp_Zr VL) 0 (-1) by (unfold sp_cho sp_choose; rw [if_neg ho, if_neg (by omega), if_neg (by omega), if_neg (by omega), show way = 0 by omega])]
    · refine am_e_tabIn (t := 55) (off := 44) rfl ⟨by omega, by omega⟩ (by omega) (by rw [hw2]; rfl) rfl ?_
      refine am_e_ss 4 (q := (62, [(0, .inr (.inr (.inl (some 71)))), (1, .inl way)], [.inl (-5), .inr (.inr (.inl (some 88))), .inr (.inr (.inl (some 71)))], (am_mm D I J ρ))) rfl ?_
      refine am_e_virtual (Q := fun r => r = (some (.inl ((sp_mw S VL 1 (-5)))), (am_mm D I J ρ))) rfl rfl (Nat.le_of_ble_eq_true rfl) rfl rfl (Nat.le_of_ble_eq_true rfl) (Nat.le_of_ble_eq_true rfl) (c_mw_88 _ (but := (-5)) hok hord hvoi hv ⟨by omega, by omega⟩) ?_
      rintro r rfl
      show am_E _ _ _ 65 [(0, .inr (.inr (.inl (some 71)))), (1, .inl way)] [.inl ((sp_mw S VL 1 (-5)))] (am_mm D I J ρ) _
      refine am_e_ireturn rfl rfl ?_
      rw [(sp_mw_0 (but := -5) hok hv ho (by omega)).2.1]
      rw [show sp_cho S VL way = sp_most S (sp_Vr VL) (sp_Zr VL) 1 (-1) by (unfold sp_cho sp_choose; rw [if_neg ho, if_neg (by omega), if_neg (by omega), if_neg (by omega), show way = 1 by omega])]
    · refine am_e_tabIn (t := 66) (off := 55) rfl ⟨by omega, by omega⟩ (by omega) (by rw [hw2]; rfl) rfl ?_
      refine am_e_ss 4 (q := (73, [(0, .inr (.inr (.inl (some 71)))), (1, .inl way)], [.inl (-5), .inr (.inr (.inl (some 89))), .inr (.inr (.inl (some 71)))], (am_mm D I J ρ))) rfl ?_
      refine am_e_virtual (Q := fun r => r = (some (.inl ((sp_mw S VL 2 (-5)))), (am_mm D I J ρ))) rfl rfl (Nat.le_of_ble_eq_true rfl) rfl rfl (Nat.le_of_ble_eq_true rfl) (Nat.le_of_ble_eq_true rfl) (c_mw_89 _ (but := (-5)) hok hord hvoi hv ⟨by omega, by omega⟩) ?_
      rintro r rfl
      show am_E _ _ _ 76 [(0, .inr (.inr (.inl (some 71)))), (1, .inl way)] [.inl ((sp_mw S VL 2 (-5)))] (am_mm D I J ρ) _
      refine am_e_ireturn rfl rfl ?_
      rw [(sp_mw_0 (but := -5) hok hv ho (by omega)).2.1]
      rw [show sp_cho S VL way = sp_most S (sp_Vr VL) (sp_Zr VL) 2 (-1) by (unfold sp_cho sp_choose; rw [if_neg ho, if_neg (by omega), if_neg (by omega), if_neg (by omega), show way = 2 by omega])]
    · refine am_e_tabIn (t := 77) (off := 66) rfl ⟨by omega, by omega⟩ (by omega) (by rw [hw2]; rfl) rfl ?_
      refine am_e_ss 1 (q := (78, [(0, .inr (.inr (.inl (some 71)))), (1, .inl way)], [.inr (.inr (.inl (some 71)))], (am_mm D I J ρ))) rfl ?_
      refine am_e_virtual (Q := fun r => r = (some (.inl ((sp_rounds S (sp_Vr VL) (sp_Zr VL)))), (am_mm D I J ρ))) rfl rfl (Nat.le_of_ble_eq_true rfl) rfl rfl (Nat.le_of_ble_eq_true rfl) (Nat.le_of_ble_eq_true rfl) (c_rounds _ hok hord hvoi hv ho) ?_
      rintro r rfl
      show am_E _ _ _ 81 [(0, .inr (.inr (.inl (some 71)))), (1, .inl way)] [.inl ((sp_rounds S (sp_Vr VL) (sp_Zr VL)))] (am_mm D I J ρ) _
      refine am_e_ireturn rfl rfl ?_
      rw [show sp_cho S VL way = (sp_rounds S (sp_Vr VL) (sp_Zr VL)) by (unfold sp_cho sp_choose; rw [if_neg ho]; (repeat' split) <;> first | rfl | (exfalso; omega))]
    · refine am_e_tabIn (t := 82) (off := 71) rfl ⟨by omega, by omega⟩ (by omega) (by rw [hw2]; rfl) rfl ?_
      refine am_e_ss 1 (q := (83, [(0, .inr (.inr (.inl (some 71)))), (1, .inl way)], [.inr (.inr (.inl (some 71)))], (am_mm D I J ρ))) rfl ?_
      refine am_e_virtual (Q := fun r => r = (some (.inl ((sp_pairs S (sp_Vr VL) (sp_Zr VL)))), (am_mm D I J ρ))) rfl rfl (Nat.le_of_ble_eq_true rfl) rfl rfl (Nat.le_of_ble_eq_true rfl) (Nat.le_of_ble_eq_true rfl) (c_pairs _ hok hord hvoi hv ho) ?_
      rintro r rfl
      show am_E _ _ _ 86 [(0, .inr (.inr (.inl (some 71)))), (1, .inl way)] [.inl ((sp_pairs S (sp_Vr VL) (sp_Zr VL)))] (am_mm D I J ρ) _
      refine am_e_ireturn rfl rfl ?_
      rw [show sp_cho S VL way = (sp_pairs S (sp_Vr VL) (sp_Zr VL)) by (unfold sp_cho sp_choose; rw [if_neg ho]; (repeat' split) <;> first | rfl | (exfalso; omega))]
    · refine am_e_tabOut (t := 87) rfl ⟨by omega, by omega⟩ (by omega) rfl ?_
      refine am_e_ss 1 (q := (88, [(0, .inr (.inr (.inl (some 71)))), (1, .inl way)], [.inr (.inr (.inl (some 71)))], (am_mm D I J ρ))) rfl ?_
      refine am_e_virtual (Q := fun r => r = (some (.inl ((sp_turns S (sp_Vr VL) (sp_Zr VL) (fun i => sp_hd S (i / 6))))), (am_mm D I J ρ))) rfl rfl (Nat.le_of_ble_eq_true rfl) rfl rfl (Nat.le_of_ble_eq_true rfl) (Nat.le_of_ble_eq_true rfl) (c_turns_69 _ hok hord hvoi hv ho h71 h12 hr0 hhr) ?_
      rintro r rfl
      show am_E _ _ _ 91 [(0, .inr (.inr (.inl (some 71)))), (1, .inl way)] [.inl ((sp_turns S (sp_Vr VL) (sp_Zr VL) (fun i => sp_hd S (i / 6))))] (am_mm D I J ρ) _
      refine am_e_ireturn rfl rfl ?_
      rw [show sp_cho S VL way = (sp_turns S (sp_Vr VL) (sp_Zr VL) (fun i => sp_hd S (i / 6))) by (unfold sp_cho sp_choose; rw [if_neg ho]; (repeat' split) <;> first | rfl | (exfalso; omega))]
  · show am_E _ _ _ 7 [(0, .inr (.inr (.inl (some 71)))), (1, .inl way)] [] (am_mm D I J ρ) _
    refine am_e_ss 1 (q := (9, [(0, .inr (.inr (.inl (some 71)))), (1, .inl way)], [.inl (-5)], (am_mm D I J ρ))) rfl ?_
    refine am_e_ireturn rfl rfl ?_
    rw [show sp_cho S VL way = -5 by (unfold sp_cho sp_choose; rw [if_pos (by omega)])]
