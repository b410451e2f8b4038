/-! THE CLASS: rows of rows, what comes first, what is said -/
theorem am_r5 {ρ : Nat → Nat → Option Nat} {m : Nat} (h : m < 6) : am_Rf ρ 5 m = some (6 + m) := by
  have h : m = 0 ∨ m = 1 ∨ m = 2 ∨ m = 3 ∨ m = 4 ∨ m = 5 := by omega
  rcases h with rfl | rfl | rfl | rfl | rfl | rfl <;> rfl
theorem am_k6 {D : List (Nat × Nat)} {m : Nat} (h : m < 6) : (am_S ++ D)[6 + m]? = some (20, 4) := by
  have h : m = 0 ∨ m = 1 ∨ m = 2 ∨ m = 3 ∨ m = 4 ∨ m = 5 := by omega
  rcases h with rfl | rfl | rfl | rfl | rfl | rfl <;> rfl
theorem am_r19 {ρ : Nat → Nat → Option Nat} {m : Nat} (h : m < 6) : am_Rf ρ 19 m = some (20 + m) := by
  have h : m = 0 ∨ m = 1 ∨ m = 2 ∨ m = 3 ∨ m = 4 ∨ m = 5 := by omega
  rcases h with rfl | rfl | rfl | rfl | rfl | rfl <;> rfl
theorem am_k20 {D : List (Nat × Nat)} {m : Nat} (h : m < 6) : (am_S ++ D)[20 + m]? = some (20, 6) := by
  have h : m = 0 ∨ m = 1 ∨ m = 2 ∨ m = 3 ∨ m = 4 ∨ m = 5 := by omega
  rcases h with rfl | rfl | rfl | rfl | rfl | rfl <;> rfl
theorem am_r26 {ρ : Nat → Nat → Option Nat} {m : Nat} (h : m < 6) : am_Rf ρ 26 m = some (27 + m) := by
  have h : m = 0 ∨ m = 1 ∨ m = 2 ∨ m = 3 ∨ m = 4 ∨ m = 5 := by omega
  rcases h with rfl | rfl | rfl | rfl | rfl | rfl <;> rfl
theorem am_k27 {D : List (Nat × Nat)} {m : Nat} (h : m < 6) : (am_S ++ D)[27 + m]? = some (20, 6) := by
  have h : m = 0 ∨ m = 1 ∨ m = 2 ∨ m = 3 ∨ m = 4 ∨ m = 5 := by omega
  rcases h with rfl | rfl | rfl | rfl | rfl | rfl <;> rfl
theorem am_r73 {ρ : Nat → Nat → Option Nat} {m : Nat} (h : m < 6) : am_Rf ρ 73 m = some (74 + m) := by
  have h : m = 0 ∨ m = 1 ∨ m = 2 ∨ m = 3 ∨ m = 4 ∨ m = 5 := by omega
  rcases h with rfl | rfl | rfl | rfl | rfl | rfl <;> rfl
theorem am_k74 {D : List (Nat × Nat)} {m : Nat} (h : m < 6) : (am_S ++ D)[74 + m]? = some (20, 6) := by
  have h : m = 0 ∨ m = 1 ∨ m = 2 ∨ m = 3 ∨ m = 4 ∨ m = 5 := by omega
  rcases h with rfl | rfl | rfl | rfl | rfl | rfl <;> rfl
theorem am_r80 {ρ : Nat → Nat → Option Nat} {m : Nat} (h : m < 6) : am_Rf ρ 80 m = some (81 + m) := by
  have h : m = 0 ∨ m = 1 ∨ m = 2 ∨ m = 3 ∨ m = 4 ∨ m = 5 := by omega
  rcases h with rfl | rfl | rfl | rfl | rfl | rfl <;> rfl
theorem am_k81 {D : List (Nat × Nat)} {m : Nat} (h : m < 6) : (am_S ++ D)[81 + m]? = some (20, 6) := by
  have h : m = 0 ∨ m = 1 ∨ m = 2 ∨ m = 3 ∨ m = 4 ∨ m = 5 := by omega
  rcases h with rfl | rfl | rfl | rfl | rfl | rfl <;> rfl
theorem am_r90 {ρ : Nat → Nat → Option Nat} {m : Nat} (h : m < 6) : am_Rf ρ 90 m = some (91 + m) := by
  have h : m = 0 ∨ m = 1 ∨ m = 2 ∨ m = 3 ∨ m = 4 ∨ m = 5 := by omega
  rcases h with rfl | rfl | rfl | rfl | rfl | rfl <;> rfl
theorem am_k91 {D : List (Nat × Nat)} {m : Nat} (h : m < 6) : (am_S ++ D)[91 + m]? = some (20, 6) := by
  have h : m = 0 ∨ m = 1 ∨ m = 2 ∨ m = 3 ∨ m = 4 ∨ m = 5 := by omega
  rcases h with rfl | rfl | rfl | rfl | rfl | rfl <;> rfl
def sp_fvs (f : Nat → Int) (s : Int × Int) (b : Nat) : Int × Int := if s.2 < f b then ((b : Int), f b) else s
def sp_ff (S : Nat → Int) (b : Nat) : Int := sp_fc S (sp_hd S) b (S 19).toNat
def sp_fav (S : Nat → Int) : Int := ((sp_ob S).foldl (sp_fvs (sp_ff S)) (-5, -1)).1
theorem sp_fmk_f {S h : Nat → Int} : ∀ n, sp_fmk S h n = (sp_obk S n).foldl (sp_fvs (fun b => sp_fc S h b (S 19).toNat)) (-1, -1) := by
  intro n
  induction n with
  | zero => rfl
  | succ n ih =>
    unfold sp_fmk sp_obk
    by_cases e : S (13 + n) = 0
    · rw [if_pos e, List.foldl_append, ← ih]
      show _ = sp_fvs (fun b => sp_fc S h b (S 19).toNat) (sp_fmk S h n) n
      unfold sp_fvs
      by_cases e2 : (sp_fmk S h n).2 < sp_fc S h n (S 19).toNat
      · rw [if_pos ⟨e, e2⟩, if_pos e2]
      · rw [if_neg (fun h => e2 h.2), if_neg e2]
    · rw [if_neg e, if_neg (fun h => e h.1), ih]
theorem sp_ob_len {S : Nat → Int} : ((sp_ob S).length : Int) = sp_ops S := sp_obk_len _
theorem sp_ob_mem {S : Nat → Int} {x : Nat} : x ∈ sp_ob S ↔ x < (S 20).toNat ∧ S (13 + x) = 0 := sp_obk_mem _
theorem sp_fav_eq {S : Nat → Int} (ho : ¬ sp_ops S = 0) : sp_fav S = sp_first S := by
  unfold sp_fav sp_first sp_fom
  rw [sp_fmk_f]
  show _ = ((sp_ob S).foldl (sp_fvs (sp_ff S)) (-1, -1)).1
  have hl := sp_ob_len (S := S)
  cases hL : sp_ob S with
  | nil => rw [hL] at hl; exact absurd hl.symm ho
  | cons b L =>
    rw [List.foldl_cons, List.foldl_cons]
    have hb := sp_fc_b (S := S) (h := sp_hd S) (b := b) (S 19).toNat
    have e : ∀ z : Int, sp_fvs (sp_ff S) (z, -1) b = ((b : Int), sp_ff S b) := fun z => if_pos (by show (-1 : Int) < sp_fc S (sp_hd S) b (S 19).toNat; omega)
    rw [e, e]
theorem sp_fvs_b {f : Nat → Int} {c : Int} : ∀ {L : List Nat} {s : Int × Int}, (∀ b ∈ L, -1 ≤ f b ∧ f b ≤ c ∧ b < 6) → (-5 ≤ s.1 ∧ s.1 ≤ 5) → (-1 ≤ s.2 ∧ s.2 ≤ c) → (-5 ≤ (L.foldl (sp_fvs f) s).1 ∧ (L.foldl (sp_fvs f) s).1 ≤ 5) ∧ (-1 ≤ (L.foldl (sp_fvs f) s).2 ∧ (L.foldl (sp_fvs f) s).2 ≤ c) := by
  intro L
  induction L with
  | nil => intro s _ h1 h2; exact ⟨h1, h2⟩
  | cons b L ih =>
    intro s h h1 h2
    have hb := h b List.mem_cons_self
    rw [List.foldl_cons]
    refine ih (fun x hx => h x (List.mem_cons_of_mem _ hx)) ?_ ?_
    · unfold sp_fvs; split
      · show -5 ≤ (b : Int) ∧ (b : Int) ≤ 5; omega
      · exact h1
    · unfold sp_fvs; split
      · exact ⟨hb.1, hb.2.1⟩
      · exact h2
theorem c_fav_2_l {X : Nat × (Nat → Int)} {D : List (Nat × Nat)} {I J : Nat → Nat → Int} {ρ : Nat → Nat → Option Nat} (d : Nat) {S : Nat → Int} {B : Int} (hok : r_ok S B) (h71 : ρ 71 1 = some 2) (h12 : I 1 2 = S 19) (hhr : I 2 1 = am_bits (sp_hp S) 6) (h3 : I 71 3 = sp_ops S) (hop : am_rowl (I 72) 0 (sp_ob S)) (hO : ∀ m, m < (S 19).toNat → ¬ sp_ops S = 0 → I (74 + m) 0 = sp_hd S m) {c p q : Int} {i m : Nat} (hil : i < (sp_ob S).length) (hm : (m : Int) ≤ S 19) (hpq : (p, q) = (((sp_ob S).take i).foldl (sp_fvs (sp_ff S)) (-5, -1))) (hc : c = sp_fc S (sp_hd S) ((sp_ob S)[i]) m) : am_E X (d + 1) 69 21 [(5, .inl (m : Int)), (4, .inl c), (3, .inl (i : Int)), (2, .inl q), (1, .inl p), (0, .inr (.inr (.inl (some 71))))] [] (am_mm D I J ρ) (fun r => r = (some (.inl ((sp_fav S))), (am_mm D I J ρ))) := by
  have h19 := r_ok_19 hok
  have hlen := sp_ob_len (S := S)
  have ob := sp_ops_b hok
  have hxi := hop i _ (List.getElem?_eq_getElem hil)
  rw [Nat.zero_add] at hxi
  have hx6 := (sp_ob_mem.mp (List.getElem_mem hil)).1
  have fb := sp_fc_b (S := S) (h := sp_hd S) (b := (sp_ob S)[i]) m
  have pqb := sp_fvs_b (f := sp_ff S) (c := 6) (L := (sp_ob S).take i) (s := (-5, -1)) (fun b hb => by have h1 := sp_fc_b (S := S) (h := sp_hd S) (b := b) (S 19).toNat; have h2 := (sp_ob_mem.mp (List.mem_of_mem_take hb)).1; unfold sp_ff; omega) ⟨by show (-5 : Int) ≤ -5; omega, by show (-5 : Int) ≤ 5; omega⟩ ⟨by show (-1 : Int) ≤ -1; omega, by show (-1 : Int) ≤ 6; omega⟩
  rw [← hpq] at pqb
  have pb1 : -5 ≤ p ∧ p ≤ 5 := pqb.1
  have pb2 : -1 ≤ q ∧ q ≤ 6 := pqb.2
  refine am_e_ss 4 (q := (30, [(5, .inl (m : Int)), (4, .inl c), (3, .inl (i : Int)), (2, .inl q), (1, .inl p), (0, .inr (.inr (.inl (some 71))))], [.inl ((I 1 2)), .inl (m : Int)], (am_mm D I J ρ))) rfl ?_
  refine am_e_icmp2 rfl ⟨by omega, by omega⟩ ⟨by omega, by omega⟩ (fun (hw1 : (I 1 2) ≤ (m : Int)) => ?_) (fun (hw1 : ¬ ((I 1 2) ≤ (m : Int))) => ?_)
  · show am_E _ _ _ 72 [(5, .inl (m : Int)), (4, .inl c), (3, .inl (i : Int)), (2, .inl q), (1, .inl p), (0, .inr (.inr (.inl (some 71))))] [] (am_mm D I J ρ) _
    refine am_e_ss 2 (q := (75, [(5, .inl (m : Int)), (4, .inl c), (3, .inl (i : Int)), (2, .inl q), (1, .inl p), (0, .inr (.inr (.inl (some 71))))], [.inl q, .inl c], (am_mm D I J ρ))) rfl ?_
    refine am_e_icmp2 rfl ⟨by omega, by omega⟩ ⟨by omega, by omega⟩ (fun (hw2 : c ≤ q) => ?_) (fun (hw2 : ¬ (c ≤ q)) => ?_)
    · show am_E _ _ _ 88 [(5, .inl (m : Int)), (4, .inl c), (3, .inl (i : Int)), (2, .inl q), (1, .inl p), (0, .inr (.inr (.inl (some 71))))] [] (am_mm D I J ρ) _
      refine am_e_ss 5 (q := (12, [(3, .inl ((i : Int) + 1)), (5, .inl (m : Int)), (4, .inl c), (2, .inl q), (1, .inl p), (0, .inr (.inr (.inl (some 71))))], [.inl ((I 71 3)), .inl ((i : Int) + 1)], (am_mm D I J ρ))) rfl ?_
      refine am_e_icmp2 rfl ⟨by omega, by omega⟩ ⟨by omega, by omega⟩ (fun (hw3 : (I 71 3) ≤ ((i : Int) + 1)) => ?_) (fun (hw3 : ¬ ((I 71 3) ≤ ((i : Int) + 1))) => ?_)
      · show am_E _ _ _ 94 [(3, .inl ((i : Int) + 1)), (5, .inl (m : Int)), (4, .inl c), (2, .inl q), (1, .inl p), (0, .inr (.inr (.inl (some 71))))] [] (am_mm D I J ρ) _
        refine am_e_ss 1 (q := (95, [(3, .inl ((i : Int) + 1)), (5, .inl (m : Int)), (4, .inl c), (2, .inl q), (1, .inl p), (0, .inr (.inr (.inl (some 71))))], [.inl p], (am_mm D I J ρ))) rfl ?_
        refine am_e_ireturn rfl rfl ?_
        have e9 : (p, q) = ((sp_ob S).take (i + 1)).foldl (sp_fvs (sp_ff S)) (-5, -1) := by
          rw [List.take_succ, List.getElem?_eq_getElem hil, Option.toList_some, List.foldl_append, ← hpq]
          show _ = sp_fvs (sp_ff S) (p, q) ((sp_ob S)[i])
          unfold sp_fvs sp_ff
          rw [show (S 19).toNat = m by omega, ← hc]
          split
          · first | (rw [hxi]; done) | rfl | (rename_i h; have h : q < c := h; exfalso; omega)
          · first | rfl | (rename_i h; have h : ¬ q < c := h; exfalso; omega)
        rw [List.take_of_length_le (by omega)] at e9
        rw [show sp_fav S = p from (congrArg Prod.fst e9).symm]
      · show am_E _ _ _ 15 [(3, .inl ((i : Int) + 1)), (5, .inl (m : Int)), (4, .inl c), (2, .inl q), (1, .inl p), (0, .inr (.inr (.inl (some 71))))] [] (am_mm D I J ρ) _
        refine am_e_ss 4 (q := (21, [(5, .inl 0), (4, .inl 0), (3, .inl ((i : Int) + 1)), (2, .inl q), (1, .inl p), (0, .inr (.inr (.inl (some 71))))], [], (am_mm D I J ρ))) rfl ?_
        have e9 : (p, q) = ((sp_ob S).take (i + 1)).foldl (sp_fvs (sp_ff S)) (-5, -1) := by
          rw [List.take_succ, List.getElem?_eq_getElem hil, Option.toList_some, List.foldl_append, ← hpq]
          show _ = sp_fvs (sp_ff S) (p, q) ((sp_ob S)[i])
          unfold sp_fvs sp_ff
          rw [show (S 19).toNat = m by omega, ← hc]
          split
          · first | (rw [hxi]; done) | rfl | (rename_i h; have h : q < c := h; exfalso; omega)
          · first | rfl | (rename_i h; have h : ¬ q < c := h; exfalso; omega)
        exact am_less (lv := [(5, .inl (0 : Int)), (4, .inl 0), (3, .inl ((i + 1) : Int)), (2, .inl q), (1, .inl p), (0, .inr (.inr (.inl (some 71))))]) rfl (List.forall_mem_cons.mpr ⟨rfl, List.forall_mem_cons.mpr ⟨rfl, List.forall_mem_cons.mpr ⟨rfl, List.forall_mem_cons.mpr ⟨rfl, List.forall_mem_cons.mpr ⟨rfl, List.forall_mem_cons.mpr ⟨rfl, List.forall_mem_nil _⟩⟩⟩⟩⟩⟩) (c_fav_2_l d (i := i + 1) (m := 0) hok h71 h12 hhr h3 hop hO (by omega) (by omega) e9 rfl)
    · show am_E _ _ _ 78 [(5, .inl (m : Int)), (4, .inl c), (3, .inl (i : Int)), (2, .inl q), (1, .inl p), (0, .inr (.inr (.inl (some 71))))] [] (am_mm D I J ρ) _
      refine am_e_ss 5 (q := (86, [(2, .inl c), (5, .inl (m : Int)), (4, .inl c), (3, .inl (i : Int)), (1, .inl p), (0, .inr (.inr (.inl (some 71))))], [.inl (i : Int), .inr (.inr (.inl (some 72)))], (am_mm D I J ρ))) rfl ?_
      refine am_e_iaload (m := 6) rfl rfl (by omega) (by omega) (by omega) ?_
      show am_E _ _ _ 87 [(2, .inl c), (5, .inl (m : Int)), (4, .inl c), (3, .inl (i : Int)), (1, .inl p), (0, .inr (.inr (.inl (some 71))))] [.inl ((I 72 i))] (am_mm D I J ρ) _
      refine am_e_ss 6 (q := (12, [(3, .inl ((i : Int) + 1)), (1, .inl ((I 72 i))), (2, .inl c), (5, .inl (m : Int)), (4, .inl c), (0, .inr (.inr (.inl (some 71))))], [.inl ((I 71 3)), .inl ((i : Int) + 1)], (am_mm D I J ρ))) rfl ?_
      refine am_e_icmp2 rfl ⟨by omega, by omega⟩ ⟨by omega, by omega⟩ (fun (hw4 : (I 71 3) ≤ ((i : Int) + 1)) => ?_) (fun (hw4 : ¬ ((I 71 3) ≤ ((i : Int) + 1))) => ?_)
      · show am_E _ _ _ 94 [(3, .inl ((i : Int) + 1)), (1, .inl ((I 72 i))), (2, .inl c), (5, .inl (m : Int)), (4, .inl c), (0, .inr (.inr (.inl (some 71))))] [] (am_mm D I J ρ) _
        refine am_e_ss 1 (q := (95, [(3, .inl ((i : Int) + 1)), (1, .inl ((I 72 i))), (2, .inl c), (5, .inl (m : Int)), (4, .inl c), (0, .inr (.inr (.inl (some 71))))], [.inl ((I 72 i))], (am_mm D I J ρ))) rfl ?_
        refine am_e_ireturn rfl rfl ?_
        have e9 : ((I 72 i), c) = ((sp_ob S).take (i + 1)).foldl (sp_fvs (sp_ff S)) (-5, -1) := by
          rw [List.take_succ, List.getElem?_eq_getElem hil, Option.toList_some, List.foldl_append, ← hpq]
          show _ = sp_fvs (sp_ff S) (p, q) ((sp_ob S)[i])
          unfold sp_fvs sp_ff
          rw [show (S 19).toNat = m by omega, ← hc]
          split
          · first | (rw [hxi]; done) | rfl | (rename_i h; have h : q < c := h; exfalso; omega)
          · first | rfl | (rename_i h; have h : ¬ q < c := h; exfalso; omega)
        rw [List.take_of_length_le (by omega)] at e9
        rw [show sp_fav S = (I 72 i) from (congrArg Prod.fst e9).symm]
      · show am_E _ _ _ 15 [(3, .inl ((i : Int) + 1)), (1, .inl ((I 72 i))), (2, .inl c), (5, .inl (m : Int)), (4, .inl c), (0, .inr (.inr (.inl (some 71))))] [] (am_mm D I J ρ) _
        refine am_e_ss 4 (q := (21, [(5, .inl 0), (4, .inl 0), (3, .inl ((i : Int) + 1)), (1, .inl ((I 72 i))), (2, .inl c), (0, .inr (.inr (.inl (some 71))))], [], (am_mm D I J ρ))) rfl ?_
        have e9 : ((I 72 i), c) = ((sp_ob S).take (i + 1)).foldl (sp_fvs (sp_ff S)) (-5, -1) := by
          rw [List.take_succ, List.getElem?_eq_getElem hil, Option.toList_some, List.foldl_append, ← hpq]
          show _ = sp_fvs (sp_ff S) (p, q) ((sp_ob S)[i])
          unfold sp_fvs sp_ff
          rw [show (S 19).toNat = m by omega, ← hc]
          split
          · first | (rw [hxi]; done) | rfl | (rename_i h; have h : q < c := h; exfalso; omega)
          · first | rfl | (rename_i h; have h : ¬ q < c := h; exfalso; omega)
        exact am_less (lv := [(5, .inl (0 : Int)), (4, .inl 0), (3, .inl ((i + 1) : Int)), (2, .inl c), (1, .inl ((I 72 i))), (0, .inr (.inr (.inl (some 71))))]) rfl (List.forall_mem_cons.mpr ⟨rfl, List.forall_mem_cons.mpr ⟨rfl, List.forall_mem_cons.mpr ⟨rfl, List.forall_mem_cons.mpr ⟨rfl, List.forall_mem_cons.mpr ⟨rfl, List.forall_mem_cons.mpr ⟨rfl, List.forall_mem_nil _⟩⟩⟩⟩⟩⟩) (c_fav_2_l d (i := i + 1) (m := 0) hok h71 h12 hhr h3 hop hO (by omega) (by omega) e9 rfl)
  · show am_E _ _ _ 33 [(5, .inl (m : Int)), (4, .inl c), (3, .inl (i : Int)), (2, .inl q), (1, .inl p), (0, .inr (.inr (.inl (some 71))))] [] (am_mm D I J ρ) _
    refine am_e_ss 1 (q := (34, [(5, .inl (m : Int)), (4, .inl c), (3, .inl (i : Int)), (2, .inl q), (1, .inl p), (0, .inr (.inr (.inl (some 71))))], [.inr (.inr (.inl (some 71)))], (am_mm D I J ρ))) rfl ?_
    refine am_e_getR (c := 10) (m := 14) (f := 1) (w := 2) rfl rfl rfl (by decide) (by decide) rfl rfl h71 ?_
    show am_E _ _ _ 37 [(5, .inl (m : Int)), (4, .inl c), (3, .inl (i : Int)), (2, .inl q), (1, .inl p), (0, .inr (.inr (.inl (some 71))))] [.inr (.inr (.inl (some 2)))] (am_mm D I J ρ) _
    refine am_e_ss 1 (q := (39, [(5, .inl (m : Int)), (4, .inl c), (3, .inl (i : Int)), (2, .inl q), (1, .inl p), (0, .inr (.inr (.inl (some 71))))], [.inl (m : Int), .inr (.inr (.inl (some 2)))], (am_mm D I J ρ))) rfl ?_
    refine am_e_virtual (Q := fun r => r = (some (.inl ((am_bi (sp_hp S m = true)))), (am_mm D I J ρ))) rfl rfl (Nat.le_of_ble_eq_true rfl) rfl rfl (Nat.le_of_ble_eq_true rfl) (Nat.le_of_ble_eq_true rfl) (c_isHere_2 _ (p := sp_hp S) hhr (by omega)) ?_
    rintro r rfl
    show am_E _ _ _ 42 [(5, .inl (m : Int)), (4, .inl c), (3, .inl (i : Int)), (2, .inl q), (1, .inl p), (0, .inr (.inr (.inl (some 71))))] [.inl ((am_bi (sp_hp S m = true)))] (am_mm D I J ρ) _
    refine am_e_ifeq rfl (fun hw5 => ?_) (fun hw5 => ?_)
    · show am_E _ _ _ 66 [(5, .inl (m : Int)), (4, .inl c), (3, .inl (i : Int)), (2, .inl q), (1, .inl p), (0, .inr (.inr (.inl (some 71))))] [] (am_mm D I J ρ) _
      refine am_e_ss 2 (q := (21, [(5, .inl ((m : Int) + 1)), (4, .inl c), (3, .inl (i : Int)), (2, .inl q), (1, .inl p), (0, .inr (.inr (.inl (some 71))))], [], (am_mm D I J ρ))) rfl ?_
      have e9 : c = sp_fc S (sp_hd S) ((sp_ob S)[i]) (m + 1) := by
        unfold sp_fc
        rw [← hc]
        have hp := sp_hp_t (S := S) (m := m)
        by_cases hs7 : S (7 + m) = 0
        · have hs8 := hp.mpr ⟨by omega, hs7⟩
          split <;> first | omega | (exfalso; first | contradiction | omega)
        · have hs8 : ¬ sp_hp S m = true := fun h => hs7 (hp.mp h).2
          rw [if_neg (by omega)]
          first | omega | (exfalso; contradiction)
      exact am_less (lv := [(5, .inl ((m + 1) : Int)), (4, .inl c), (3, .inl (i : Int)), (2, .inl q), (1, .inl p), (0, .inr (.inr (.inl (some 71))))]) rfl (List.forall_mem_cons.mpr ⟨rfl, List.forall_mem_cons.mpr ⟨rfl, List.forall_mem_cons.mpr ⟨rfl, List.forall_mem_cons.mpr ⟨rfl, List.forall_mem_cons.mpr ⟨rfl, List.forall_mem_cons.mpr ⟨rfl, List.forall_mem_nil _⟩⟩⟩⟩⟩⟩) (c_fav_2_l d (i := i) (m := m + 1) hok h71 h12 hhr h3 hop hO hil (by omega) hpq e9)
    · show am_E _ _ _ 45 [(5, .inl (m : Int)), (4, .inl c), (3, .inl (i : Int)), (2, .inl q), (1, .inl p), (0, .inr (.inr (.inl (some 71))))] [] (am_mm D I J ρ) _
      have hOm := hO m (by omega) (by omega)
      have hdb := sp_hd_b hok m
      refine am_e_ss 3 (q := (51, [(5, .inl (m : Int)), (4, .inl c), (3, .inl (i : Int)), (2, .inl q), (1, .inl p), (0, .inr (.inr (.inl (some 71))))], [.inl (m : Int), .inr (.inr (.inl (some 73)))], (am_mm D I J ρ))) rfl ?_
      refine am_e_aaload (m := 6) (c := 23) rfl rfl (by decide) (by omega) (by omega) (by omega) ?_
      rw [show ((am_mm D I J ρ)).2.2.2 73 ((m : Int)).toNat = some (74 + m) from (am_r73 (ρ := ρ) (by omega))]
      show am_E _ _ _ 52 [(5, .inl (m : Int)), (4, .inl c), (3, .inl (i : Int)), (2, .inl q), (1, .inl p), (0, .inr (.inr (.inl (some 71))))] [.inr (.inr (.inl (some (74 + m))))] (am_mm D I J ρ) _
      refine am_e_ss 1 (q := (53, [(5, .inl (m : Int)), (4, .inl c), (3, .inl (i : Int)), (2, .inl q), (1, .inl p), (0, .inr (.inr (.inl (some 71))))], [.inl 0, .inr (.inr (.inl (some (74 + m))))], (am_mm D I J ρ))) rfl ?_
      refine am_e_iaload (m := 6) rfl (am_k74 (by omega)) (by omega) (by omega) (by omega) ?_
      show am_E _ _ _ 54 [(5, .inl (m : Int)), (4, .inl c), (3, .inl (i : Int)), (2, .inl q), (1, .inl p), (0, .inr (.inr (.inl (some 71))))] [.inl ((I (74 + m) 0))] (am_mm D I J ρ) _
      refine am_e_ss 3 (q := (59, [(5, .inl (m : Int)), (4, .inl c), (3, .inl (i : Int)), (2, .inl q), (1, .inl p), (0, .inr (.inr (.inl (some 71))))], [.inl (i : Int), .inr (.inr (.inl (some 72))), .inl ((I (74 + m) 0))], (am_mm D I J ρ))) rfl ?_
      refine am_e_iaload (m := 6) rfl rfl (by omega) (by omega) (by omega) ?_
      show am_E _ _ _ 60 [(5, .inl (m : Int)), (4, .inl c), (3, .inl (i : Int)), (2, .inl q), (1, .inl p), (0, .inr (.inr (.inl (some 71))))] [.inl ((I 72 i)), .inl ((I (74 + m) 0))] (am_mm D I J ρ) _
      refine am_e_icmp2 rfl ⟨by omega, by omega⟩ ⟨by omega, by omega⟩ (fun (hw6 : ¬ (I (74 + m) 0) = (I 72 i)) => ?_) (fun (hw6 : ¬ (¬ (I (74 + m) 0) = (I 72 i))) => ?_)
      · show am_E _ _ _ 66 [(5, .inl (m : Int)), (4, .inl c), (3, .inl (i : Int)), (2, .inl q), (1, .inl p), (0, .inr (.inr (.inl (some 71))))] [] (am_mm D I J ρ) _
        refine am_e_ss 2 (q := (21, [(5, .inl ((m : Int) + 1)), (4, .inl c), (3, .inl (i : Int)), (2, .inl q), (1, .inl p), (0, .inr (.inr (.inl (some 71))))], [], (am_mm D I J ρ))) rfl ?_
        have e9 : c = sp_fc S (sp_hd S) ((sp_ob S)[i]) (m + 1) := by
          unfold sp_fc
          rw [← hc]
          have hp := sp_hp_t (S := S) (m := m)
          by_cases hs7 : S (7 + m) = 0
          · have hs8 := hp.mpr ⟨by omega, hs7⟩
            split <;> first | omega | (exfalso; first | contradiction | omega)
          · have hs8 : ¬ sp_hp S m = true := fun h => hs7 (hp.mp h).2
            rw [if_neg (by omega)]
            first | omega | (exfalso; contradiction)
        exact am_less (lv := [(5, .inl ((m + 1) : Int)), (4, .inl c), (3, .inl (i : Int)), (2, .inl q), (1, .inl p), (0, .inr (.inr (.inl (some 71))))]) rfl (List.forall_mem_cons.mpr ⟨rfl, List.forall_mem_cons.mpr ⟨rfl, List.forall_mem_cons.mpr ⟨rfl, List.forall_mem_cons.mpr ⟨rfl, List.forall_mem_cons.mpr ⟨rfl, List.forall_mem_cons.mpr ⟨rfl, List.forall_mem_nil _⟩⟩⟩⟩⟩⟩) (c_fav_2_l d (i := i) (m := m + 1) hok h71 h12 hhr h3 hop hO hil (by omega) hpq e9)
      · show am_E _ _ _ 63 [(5, .inl (m : Int)), (4, .inl c), (3, .inl (i : Int)), (2, .inl q), (1, .inl p), (0, .inr (.inr (.inl (some 71))))] [] (am_mm D I J ρ) _
        refine am_e_ss 3 (q := (21, [(5, .inl ((m : Int) + 1)), (4, .inl (c + 1)), (3, .inl (i : Int)), (2, .inl q), (1, .inl p), (0, .inr (.inr (.inl (some 71))))], [], (am_mm D I J ρ))) rfl ?_
        have e9 : (c + 1) = sp_fc S (sp_hd S) ((sp_ob S)[i]) (m + 1) := by
          unfold sp_fc
          rw [← hc]
          have hp := sp_hp_t (S := S) (m := m)
          by_cases hs7 : S (7 + m) = 0
          · have hs8 := hp.mpr ⟨by omega, hs7⟩
            split <;> first | omega | (exfalso; first | contradiction | omega)
          · have hs8 : ¬ sp_hp S m = true := fun h => hs7 (hp.mp h).2
            rw [if_neg (by omega)]
            first | omega | (exfalso; contradiction)
        exact am_less (lv := [(5, .inl ((m + 1) : Int)), (4, .inl ((c + 1))), (3, .inl (i : Int)), (2, .inl q), (1, .inl p), (0, .inr (.inr (.inl (some 71))))]) rfl (List.forall_mem_cons.mpr ⟨rfl, List.forall_mem_cons.mpr ⟨rfl, List.forall_mem_cons.mpr ⟨rfl, List.forall_mem_cons.mpr ⟨rfl, List.forall_mem_cons.mpr ⟨rfl, List.forall_mem_cons.mpr ⟨rfl, List.forall_mem_nil _⟩⟩⟩⟩⟩⟩) (c_fav_2_l d (i := i) (m := m + 1) hok h71 h12 hhr h3 hop hO hil (by omega) hpq e9)
termination_by (8 * (7 - i) + (7 - m))
decreasing_by all_goals omega
theorem c_fav_2 {X : Nat × (Nat → Int)} {D : List (Nat × Nat)} {I J : Nat → Nat → Int} {ρ : Nat → Nat → Option Nat} (d : Nat) {S : Nat → Int} {B : Int} (hok : r_ok S B) (h71 : ρ 71 1 = some 2) (h12 : I 1 2 = S 19) (hhr : I 2 1 = am_bits (sp_hp S) 6) (h3 : I 71 3 = sp_ops S) (hop : am_rowl (I 72) 0 (sp_ob S)) (hO : ∀ m, m < (S 19).toNat → ¬ sp_ops S = 0 → I (74 + m) 0 = sp_hd S m)  : am_E X (d + 1) 69 0 [(0, .inr (.inr (.inl (some 71))))] [] (am_mm D I J ρ) (fun r => r = (some (.inl ((sp_fav S))), (am_mm D I J ρ))) := by
  have h19 := r_ok_19 hok
  have hlen := sp_ob_len (S := S)
  have ob := sp_ops_b hok
  refine am_e_ss 9 (q := (12, [(3, .inl 0), (2, .inl (-1)), (1, .inl (-5)), (0, .inr (.inr (.inl (some 71))))], [.inl ((I 71 3)), .inl 0], (am_mm D I J ρ))) rfl ?_
  refine am_e_icmp2 rfl ⟨by omega, by omega⟩ ⟨by omega, by omega⟩ (fun (hw1 : (I 71 3) ≤ 0) => ?_) (fun (hw1 : ¬ ((I 71 3) ≤ 0)) => ?_)
  · show am_E _ _ _ 94 [(3, .inl 0), (2, .inl (-1)), (1, .inl (-5)), (0, .inr (.inr (.inl (some 71))))] [] (am_mm D I J ρ) _
    refine am_e_ss 1 (q := (95, [(3, .inl 0), (2, .inl (-1)), (1, .inl (-5)), (0, .inr (.inr (.inl (some 71))))], [.inl (-5)], (am_mm D I J ρ))) rfl ?_
    refine am_e_ireturn rfl rfl ?_
    unfold sp_fav
    rw [List.eq_nil_of_length_eq_zero (show (sp_ob S).length = 0 by omega)]
    rfl
  · show am_E _ _ _ 15 [(3, .inl 0), (2, .inl (-1)), (1, .inl (-5)), (0, .inr (.inr (.inl (some 71))))] [] (am_mm D I J ρ) _
    refine am_e_ss 4 (q := (21, [(5, .inl 0), (4, .inl 0), (3, .inl 0), (2, .inl (-1)), (1, .inl (-5)), (0, .inr (.inr (.inl (some 71))))], [], (am_mm D I J ρ))) rfl ?_
    exact am_less (lv := [(5, .inl (0 : Int)), (4, .inl 0), (3, .inl (0 : Int)), (2, .inl ((-1))), (1, .inl ((-5))), (0, .inr (.inr (.inl (some 71))))]) rfl (List.forall_mem_cons.mpr ⟨rfl, List.forall_mem_cons.mpr ⟨rfl, List.forall_mem_cons.mpr ⟨rfl, List.forall_mem_cons.mpr ⟨rfl, List.forall_mem_cons.mpr ⟨rfl, List.forall_mem_cons.mpr ⟨rfl, List.forall_mem_nil _⟩⟩⟩⟩⟩⟩) (c_fav_2_l d (i := 0) (m := 0) hok h71 h12 hhr h3 hop hO (by omega) (by omega) rfl rfl)
theorem c_fav_69_l {X : Nat × (Nat → Int)} {D : List (Nat × Nat)} {I J : Nat → Nat → Int} {ρ : Nat → Nat → Option Nat} (d : Nat) {S : Nat → Int} {B : Int} (hok : r_ok S B) (h71 : ρ 71 1 = some 69) (h12 : I 1 2 = S 19) (hhr : I 69 1 = am_bits (sp_hp S) 6) (h3 : I 71 3 = sp_ops S) (hop : am_rowl (I 72) 0 (sp_ob S)) (hO : ∀ m, m < (S 19).toNat → ¬ sp_ops S = 0 → I (74 + m) 0 = sp_hd S m) {c p q : Int} {i m : Nat} (hil : i < (sp_ob S).length) (hm : (m : Int) ≤ S 19) (hpq : (p, q) = (((sp_ob S).take i).foldl (sp_fvs (sp_ff S)) (-5, -1))) (hc : c = sp_fc S (sp_hd S) ((sp_ob S)[i]) m) : am_E X (d + 1) 69 21 [(5, .inl (m : Int)), (4, .inl c), (3, .inl (i : Int)), (2, .inl q), (1, .inl p), (0, .inr (.inr (.inl (some 71))))] [] (am_mm D I J ρ) (fun r => r = (some (.inl ((sp_fav S))), (am_mm D I J ρ))) := by
  have h19 := r_ok_19 hok
  have hlen := sp_ob_len (S := S)
  have ob := sp_ops_b hok
  have hxi := hop i _ (List.getElem?_eq_getElem hil)
  rw [Nat.zero_add] at hxi
  have hx6 := (sp_ob_mem.mp (List.getElem_mem hil)).1
  have fb := sp_fc_b (S := S) (h := sp_hd S) (b := (sp_ob S)[i]) m
  have pqb := sp_fvs_b (f := sp_ff S) (c := 6) (L := (sp_ob S).take i) (s := (-5, -1)) (fun b hb => by have h1 := sp_fc_b (S := S) (h := sp_hd S) (b := b) (S 19).toNat; have h2 := (sp_ob_mem.mp (List.mem_of_mem_take hb)).1; unfold sp_ff; omega) ⟨by show (-5 : Int) ≤ -5; omega, by show (-5 : Int) ≤ 5; omega⟩ ⟨by show (-1 : Int) ≤ -1; omega, by show (-1 : Int) ≤ 6; omega⟩
  rw [← hpq] at pqb
  have pb1 : -5 ≤ p ∧ p ≤ 5 := pqb.1
  have pb2 : -1 ≤ q ∧ q ≤ 6 := pqb.2
  refine am_e_ss 4 (q := (30, [(5, .inl (m : Int)), (4, .inl c), (3, .inl (i : Int)), (2, .inl q), (1, .inl p), (0, .inr (.inr (.inl (some 71))))], [.inl ((I 1 2)), .inl (m : Int)], (am_mm D I J ρ))) rfl ?_
  refine am_e_icmp2 rfl ⟨by omega, by omega⟩ ⟨by omega, by omega⟩ (fun (hw1 : (I 1 2) ≤ (m : Int)) => ?_) (fun (hw1 : ¬ ((I 1 2) ≤ (m : Int))) => ?_)
  · show am_E _ _ _ 72 [(5, .inl (m : Int)), (4, .inl c), (3, .inl (i : Int)), (2, .inl q), (1, .inl p), (0, .inr (.inr (.inl (some 71))))] [] (am_mm D I J ρ) _
    refine am_e_ss 2 (q := (75, [(5, .inl (m : Int)), (4, .inl c), (3, .inl (i : Int)), (2, .inl q), (1, .inl p), (0, .inr (.inr (.inl (some 71))))], [.inl q, .inl c], (am_mm D I J ρ))) rfl ?_
    refine am_e_icmp2 rfl ⟨by omega, by omega⟩ ⟨by omega, by omega⟩ (fun (hw2 : c ≤ q) => ?_) (fun (hw2 : ¬ (c ≤ q)) => ?_)
    · show am_E _ _ _ 88 [(5, .inl (m : Int)), (4, .inl c), (3, .inl (i : Int)), (2, .inl q), (1, .inl p), (0, .inr (.inr (.inl (some 71))))] [] (am_mm D I J ρ) _
      refine am_e_ss 5 (q := (12, [(3, .inl ((i : Int) + 1)), (5, .inl (m : Int)), (4, .inl c), (2, .inl q), (1, .inl p), (0, .inr (.inr (.inl (some 71))))], [.inl ((I 71 3)), .inl ((i : Int) + 1)], (am_mm D I J ρ))) rfl ?_
      refine am_e_icmp2 rfl ⟨by omega, by omega⟩ ⟨by omega, by omega⟩ (fun (hw3 : (I 71 3) ≤ ((i : Int) + 1)) => ?_) (fun (hw3 : ¬ ((I 71 3) ≤ ((i : Int) + 1))) => ?_)
      · show am_E _ _ _ 94 [(3, .inl ((i : Int) + 1)), (5, .inl (m : Int)), (4, .inl c), (2, .inl q), (1, .inl p), (0, .inr (.inr (.inl (some 71))))] [] (am_mm D I J ρ) _
        refine am_e_ss 1 (q := (95, [(3, .inl ((i : Int) + 1)), (5, .inl (m : Int)), (4, .inl c), (2, .inl q), (1, .inl p), (0, .inr (.inr (.inl (some 71))))], [.inl p], (am_mm D I J ρ))) rfl ?_
        refine am_e_ireturn rfl rfl ?_
        have e9 : (p, q) = ((sp_ob S).take (i + 1)).foldl (sp_fvs (sp_ff S)) (-5, -1) := by
          rw [List.take_succ, List.getElem?_eq_getElem hil, Option.toList_some, List.foldl_append, ← hpq]
          show _ = sp_fvs (sp_ff S) (p, q) ((sp_ob S)[i])
          unfold sp_fvs sp_ff
          rw [show (S 19).toNat = m by omega, ← hc]
          split
          · first | (rw [hxi]; done) | rfl | (rename_i h; have h : q < c := h; exfalso; omega)
          · first | rfl | (rename_i h; have h : ¬ q < c := h; exfalso; omega)
        rw [List.take_of_length_le (by omega)] at e9
        rw [show sp_fav S = p from (congrArg Prod.fst e9).symm]
      · show am_E _ _ _ 15 [(3, .inl ((i : Int) + 1)), (5, .inl (m : Int)), (4, .inl c), (2, .inl q), (1, .inl p), (0, .inr (.inr (.inl (some 71))))] [] (am_mm D I J ρ) _
        refine am_e_ss 4 (q := (21, [(5, .inl 0), (4, .inl 0), (3, .inl ((i : Int) + 1)), (2, .inl q), (1, .inl p), (0, .inr (.inr (.inl (some 71))))], [], (am_mm D I J ρ))) rfl ?_
        have e9 : (p, q) = ((sp_ob S).take (i + 1)).foldl (sp_fvs (sp_ff S)) (-5, -1) := by
          rw [List.take_succ, List.getElem?_eq_getElem hil, Option.toList_some, List.foldl_append, ← hpq]
          show _ = sp_fvs (sp_ff S) (p, q) ((sp_ob S)[i])
          unfold sp_fvs sp_ff
          rw [show (S 19).toNat = m by omega, ← hc]
          split
          · first | (rw [hxi]; done) | rfl | (rename_i h; have h : q < c := h; exfalso; omega)
          · first | rfl | (rename_i h; have h : ¬ q < c := h; exfalso; omega)
        exact am_less (lv := [(5, .inl (0 : Int)), (4, .inl 0), (3, .inl ((i + 1) : Int)), (2, .inl q), (1, .inl p), (0, .inr (.inr (.inl (some 71))))]) rfl (List.forall_mem_cons.mpr ⟨rfl, List.forall_mem_cons.mpr ⟨rfl, List.forall_mem_cons.mpr ⟨rfl, List.forall_mem_cons.mpr ⟨rfl, List.forall_mem_cons.mpr ⟨rfl, List.forall_mem_cons.mpr ⟨rfl, List.forall_mem_nil _⟩⟩⟩⟩⟩⟩) (c_fav_69_l d (i := i + 1) (m := 0) hok h71 h12 hhr h3 hop hO (by omega) (by omega) e9 rfl)
    · show am_E _ _ _ 78 [(5, .inl (m : Int)), (4, .inl c), (3, .inl (i : Int)), (2, .inl q), (1, .inl p), (0, .inr (.inr (.inl (some 71))))] [] (am_mm D I J ρ) _
      refine am_e_ss 5 (q := (86, [(2, .inl c), (5, .inl (m : Int)), (4, .inl c), (3, .inl (i : Int)), (1, .inl p), (0, .inr (.inr (.inl (some 71))))], [.inl (i : Int), .inr (.inr (.inl (some 72)))], (am_mm D I J ρ))) rfl ?_
      refine am_e_iaload (m := 6) rfl rfl (by omega) (by omega) (by omega) ?_
      show am_E _ _ _ 87 [(2, .inl c), (5, .inl (m : Int)), (4, .inl c), (3, .inl (i : Int)), (1, .inl p), (0, .inr (.inr (.inl (some 71))))] [.inl ((I 72 i))] (am_mm D I J ρ) _
      refine am_e_ss 6 (q := (12, [(3, .inl ((i : Int) + 1)), (1, .inl ((I 72 i))), (2, .inl c), (5, .inl (m : Int)), (4, .inl c), (0, .inr (.inr (.inl (some 71))))], [.inl ((I 71 3)), .inl ((i : Int) + 1)], (am_mm D I J ρ))) rfl ?_
      refine am_e_icmp2 rfl ⟨by omega, by omega⟩ ⟨by omega, by omega⟩ (fun (hw4 : (I 71 3) ≤ ((i : Int) + 1)) => ?_) (fun (hw4 : ¬ ((I 71 3) ≤ ((i : Int) + 1))) => ?_)
      · show am_E _ _ _ 94 [(3, .inl ((i : Int) + 1)), (1, .inl ((I 72 i))), (2, .inl c), (5, .inl (m : Int)), (4, .inl c), (0, .inr (.inr (.inl (some 71))))] [] (am_mm D I J ρ) _
        refine am_e_ss 1 (q := (95, [(3, .inl ((i : Int) + 1)), (1, .inl ((I 72 i))), (2, .inl c), (5, .inl (m : Int)), (4, .inl c), (0, .inr (.inr (.inl (some 71))))], [.inl ((I 72 i))], (am_mm D I J ρ))) rfl ?_
        refine am_e_ireturn rfl rfl ?_
        have e9 : ((I 72 i), c) = ((sp_ob S).take (i + 1)).foldl (sp_fvs (sp_ff S)) (-5, -1) := by
          rw [List.take_succ, List.getElem?_eq_getElem hil, Option.toList_some, List.foldl_append, ← hpq]
          show _ = sp_fvs (sp_ff S) (p, q) ((sp_ob S)[i])
          unfold sp_fvs sp_ff
          rw [show (S 19).toNat = m by omega, ← hc]
          split
          · first | (rw [hxi]; done) | rfl | (rename_i h; have h : q < c := h; exfalso; omega)
          · first | rfl | (rename_i h; have h : ¬ q < c := h; exfalso; omega)
        rw [List.take_of_length_le (by omega)] at e9
        rw [show sp_fav S = (I 72 i) from (congrArg Prod.fst e9).symm]
      · show am_E _ _ _ 15 [(3, .inl ((i : Int) + 1)), (1, .inl ((I 72 i))), (2, .inl c), (5, .inl (m : Int)), (4, .inl c), (0, .inr (.inr (.inl (some 71))))] [] (am_mm D I J ρ) _
        refine am_e_ss 4 (q := (21, [(5, .inl 0), (4, .inl 0), (3, .inl ((i : Int) + 1)), (1, .inl ((I 72 i))), (2, .inl c), (0, .inr (.inr (.inl (some 71))))], [], (am_mm D I J ρ))) rfl ?_
        have e9 : ((I 72 i), c) = ((sp_ob S).take (i + 1)).foldl (sp_fvs (sp_ff S)) (-5, -1) := by
          rw [List.take_succ, List.getElem?_eq_getElem hil, Option.toList_some, List.foldl_append, ← hpq]
          show _ = sp_fvs (sp_ff S) (p, q) ((sp_ob S)[i])
          unfold sp_fvs sp_ff
          rw [show (S 19).toNat = m by omega, ← hc]
          split
          · first | (rw [hxi]; done) | rfl | (rename_i h; have h : q < c := h; exfalso; omega)
          · first | rfl | (rename_i h; have h : ¬ q < c := h; exfalso; omega)
        exact am_less (lv := [(5, .inl (0 : Int)), (4, .inl 0), (3, .inl ((i + 1) : Int)), (2, .inl c), (1, .inl ((I 72 i))), (0, .inr (.inr (.inl (some 71))))]) rfl (List.forall_mem_cons.mpr ⟨rfl, List.forall_mem_cons.mpr ⟨rfl, List.forall_mem_cons.mpr ⟨rfl, List.forall_mem_cons.mpr ⟨rfl, List.forall_mem_cons.mpr ⟨rfl, List.forall_mem_cons.mpr ⟨rfl, List.forall_mem_nil _⟩⟩⟩⟩⟩⟩) (c_fav_69_l d (i := i + 1) (m := 0) hok h71 h12 hhr h3 hop hO (by omega) (by omega) e9 rfl)
  · show am_E _ _ _ 33 [(5, .inl (m : Int)), (4, .inl c), (3, .inl (i : Int)), (2, .inl q), (1, .inl p), (0, .inr (.inr (.inl (some 71))))] [] (am_mm D I J ρ) _
    refine am_e_ss 1 (q := (34, [(5, .inl (m : Int)), (4, .inl c), (3, .inl (i : Int)), (2, .inl q), (1, .inl p), (0, .inr (.inr (.inl (some 71))))], [.inr (.inr (.inl (some 71)))], (am_mm D I J ρ))) rfl ?_
    refine am_e_getR (c := 10) (m := 14) (f := 1) (w := 69) rfl rfl rfl (by decide) (by decide) rfl rfl h71 ?_
    show am_E _ _ _ 37 [(5, .inl (m : Int)), (4, .inl c), (3, .inl (i : Int)), (2, .inl q), (1, .inl p), (0, .inr (.inr (.inl (some 71))))] [.inr (.inr (.inl (some 69)))] (am_mm D I J ρ) _
    refine am_e_ss 1 (q := (39, [(5, .inl (m : Int)), (4, .inl c), (3, .inl (i : Int)), (2, .inl q), (1, .inl p), (0, .inr (.inr (.inl (some 71))))], [.inl (m : Int), .inr (.inr (.inl (some 69)))], (am_mm D I J ρ))) rfl ?_
    refine am_e_virtual (Q := fun r => r = (some (.inl ((am_bi (sp_hp S m = true)))), (am_mm D I J ρ))) rfl rfl (Nat.le_of_ble_eq_true rfl) rfl rfl (Nat.le_of_ble_eq_true rfl) (Nat.le_of_ble_eq_true rfl) (c_isHere_69 _ (p := sp_hp S) hhr (by omega)) ?_
    rintro r rfl
    show am_E _ _ _ 42 [(5, .inl (m : Int)), (4, .inl c), (3, .inl (i : Int)), (2, .inl q), (1, .inl p), (0, .inr (.inr (.inl (some 71))))] [.inl ((am_bi (sp_hp S m = true)))] (am_mm D I J ρ) _
    refine am_e_ifeq rfl (fun hw5 => ?_) (fun hw5 => ?_)
    · show am_E _ _ _ 66 [(5, .inl (m : Int)), (4, .inl c), (3, .inl (i : Int)), (2, .inl q), (1, .inl p), (0, .inr (.inr (.inl (some 71))))] [] (am_mm D I J ρ) _
      refine am_e_ss 2 (q := (21, [(5, .inl ((m : Int) + 1)), (4, .inl c), (3, .inl (i : Int)), (2, .inl q), (1, .inl p), (0, .inr (.inr (.inl (some 71))))], [], (am_mm D I J ρ))) rfl ?_
      have e9 : c = sp_fc S (sp_hd S) ((sp_ob S)[i]) (m + 1) := by
        unfold sp_fc
        rw [← hc]
        have hp := sp_hp_t (S := S) (m := m)
        by_cases hs7 : S (7 + m) = 0
        · have hs8 := hp.mpr ⟨by omega, hs7⟩
          split <;> first | omega | (exfalso; first | contradiction | omega)
        · have hs8 : ¬ sp_hp S m = true := fun h => hs7 (hp.mp h).2
          rw [if_neg (by omega)]
          first | omega | (exfalso; contradiction)
      exact am_less (lv := [(5, .inl ((m + 1) : Int)), (4, .inl c), (3, .inl (i : Int)), (2, .inl q), (1, .inl p), (0, .inr (.inr (.inl (some 71))))]) rfl (List.forall_mem_cons.mpr ⟨rfl, List.forall_mem_cons.mpr ⟨rfl, List.forall_mem_cons.mpr ⟨rfl, List.forall_mem_cons.mpr ⟨rfl, List.forall_mem_cons.mpr ⟨rfl, List.forall_mem_cons.mpr ⟨rfl, List.forall_mem_nil _⟩⟩⟩⟩⟩⟩) (c_fav_69_l d (i := i) (m := m + 1) hok h71 h12 hhr h3 hop hO hil (by omega) hpq e9)
    · show am_E _ _ _ 45 [(5, .inl (m : Int)), (4, .inl c), (3, .inl (i : Int)), (2, .inl q), (1, .inl p), (0, .inr (.inr (.inl (some 71))))] [] (am_mm D I J ρ) _
      have hOm := hO m (by omega) (by omega)
      have hdb := sp_hd_b hok m
      refine am_e_ss 3 (q := (51, [(5, .inl (m : Int)), (4, .inl c), (3, .inl (i : Int)), (2, .inl q), (1, .inl p), (0, .inr (.inr (.inl (some 71))))], [.inl (m : Int), .inr (.inr (.inl (some 73)))], (am_mm D I J ρ))) rfl ?_
      refine am_e_aaload (m := 6) (c := 23) rfl rfl (by decide) (by omega) (by omega) (by omega) ?_
      rw [show ((am_mm D I J ρ)).2.2.2 73 ((m : Int)).toNat = some (74 + m) from (am_r73 (ρ := ρ) (by omega))]
      show am_E _ _ _ 52 [(5, .inl (m : Int)), (4, .inl c), (3, .inl (i : Int)), (2, .inl q), (1, .inl p), (0, .inr (.inr (.inl (some 71))))] [.inr (.inr (.inl (some (74 + m))))] (am_mm D I J ρ) _
      refine am_e_ss 1 (q := (53, [(5, .inl (m : Int)), (4, .inl c), (3, .inl (i : Int)), (2, .inl q), (1, .inl p), (0, .inr (.inr (.inl (some 71))))], [.inl 0, .inr (.inr (.inl (some (74 + m))))], (am_mm D I J ρ))) rfl ?_
      refine am_e_iaload (m := 6) rfl (am_k74 (by omega)) (by omega) (by omega) (by omega) ?_
      show am_E _ _ _ 54 [(5, .inl (m : Int)), (4, .inl c), (3, .inl (i : Int)), (2, .inl q), (1, .inl p), (0, .inr (.inr (.inl (some 71))))] [.inl ((I (74 + m) 0))] (am_mm D I J ρ) _
      refine am_e_ss 3 (q := (59, [(5, .inl (m : Int)), (4, .inl c), (3, .inl (i : Int)), (2, .inl q), (1, .inl p), (0, .inr (.inr (.inl (some 71))))], [.inl (i : Int), .inr (.inr (.inl (some 72))), .inl ((I (74 + m) 0))], (am_mm D I J ρ))) rfl ?_
      refine am_e_iaload (m := 6) rfl rfl (by omega) (by omega) (by omega) ?_
      show am_E _ _ _ 60 [(5, .inl (m : Int)), (4, .inl c), (3, .inl (i : Int)), (2, .inl q), (1, .inl p), (0, .inr (.inr (.inl (some 71))))] [.inl ((I 72 i)), .inl ((I (74 + m) 0))] (am_mm D I J ρ) _
      refine am_e_icmp2 rfl ⟨by omega, by omega⟩ ⟨by omega, by omega⟩ (fun (hw6 : ¬ (I (74 + m) 0) = (I 72 i)) => ?_) (fun (hw6 : ¬ (¬ (I (74 + m) 0) = (I 72 i))) => ?_)
      · show am_E _ _ _ 66 [(5, .inl (m : Int)), (4, .inl c), (3, .inl (i : Int)), (2, .inl q), (1, .inl p), (0, .inr (.inr (.inl (some 71))))] [] (am_mm D I J ρ) _
        refine am_e_ss 2 (q := (21, [(5, .inl ((m : Int) + 1)), (4, .inl c), (3, .inl (i : Int)), (2, .inl q), (1, .inl p), (0, .inr (.inr (.inl (some 71))))], [], (am_mm D I J ρ))) rfl ?_
        have e9 : c = sp_fc S (sp_hd S) ((sp_ob S)[i]) (m + 1) := by
          unfold sp_fc
          rw [← hc]
          have hp := sp_hp_t (S := S) (m := m)
          by_cases hs7 : S (7 + m) = 0
          · have hs8 := hp.mpr ⟨by omega, hs7⟩
            split <;> first | omega | (exfalso; first | contradiction | omega)
          · have hs8 : ¬ sp_hp S m = true := fun h => hs7 (hp.mp h).2
            rw [if_neg (by omega)]
            first | omega | (exfalso; contradiction)
        exact am_less (lv := [(5, .inl ((m + 1) : Int)), (4, .inl c), (3, .inl (i : Int)), (2, .inl q), (1, .inl p), (0, .inr (.inr (.inl (some 71))))]) rfl (List.forall_mem_cons.mpr ⟨rfl, List.forall_mem_cons.mpr ⟨rfl, List.forall_mem_cons.mpr ⟨rfl, List.forall_mem_cons.mpr ⟨rfl, List.forall_mem_cons.mpr ⟨rfl, List.forall_mem_cons.mpr ⟨rfl, List.forall_mem_nil _⟩⟩⟩⟩⟩⟩) (c_fav_69_l d (i := i) (m := m + 1) hok h71 h12 hhr h3 hop hO hil (by omega) hpq e9)
      · show am_E _ _ _ 63 [(5, .inl (m : Int)), (4, .inl c), (3, .inl (i : Int)), (2, .inl q), (1, .inl p), (0, .inr (.inr (.inl (some 71))))] [] (am_mm D I J ρ) _
        refine am_e_ss 3 (q := (21, [(5, .inl ((m : Int) + 1)), (4, .inl (c + 1)), (3, .inl (i : Int)), (2, .inl q), (1, .inl p), (0, .inr (.inr (.inl (some 71))))], [], (am_mm D I J ρ))) rfl ?_
        have e9 : (c + 1) = sp_fc S (sp_hd S) ((sp_ob S)[i]) (m + 1) := by
          unfold sp_fc
          rw [← hc]
          have hp := sp_hp_t (S := S) (m := m)
          by_cases hs7 : S (7 + m) = 0
          · have hs8 := hp.mpr ⟨by omega, hs7⟩
            split <;> first | omega | (exfalso; first | contradiction | omega)
          · have hs8 : ¬ sp_hp S m = true := fun h => hs7 (hp.mp h).2
            rw [if_neg (by omega)]
            first | omega | (exfalso; contradiction)
        exact am_less (lv := [(5, .inl ((m + 1) : Int)), (4, .inl ((c + 1))), (3, .inl (i : Int)), (2, .inl q), (1, .inl p), (0, .inr (.inr (.inl (some 71))))]) rfl (List.forall_mem_cons.mpr ⟨rfl, List.forall_mem_cons.mpr ⟨rfl, List.forall_mem_cons.mpr ⟨rfl, List.forall_mem_cons.mpr ⟨rfl, List.forall_mem_cons.mpr ⟨rfl, List.forall_mem_cons.mpr ⟨rfl, List.forall_mem_nil _⟩⟩⟩⟩⟩⟩) (c_fav_69_l d (i := i) (m := m + 1) hok h71 h12 hhr h3 hop hO hil (by omega) hpq e9)
termination_by (8 * (7 - i) + (7 - m))
decreasing_by all_goals omega
theorem c_fav_69 {X : Nat × (Nat → Int)} {D : List (Nat × Nat)} {I J : Nat → Nat → Int} {ρ : Nat → Nat → Option Nat} (d : Nat) {S : Nat → Int} {B : Int} (hok : r_ok S B) (h71 : ρ 71 1 = some 69) (h12 : I 1 2 = S 19) (hhr : I 69 1 = am_bits (sp_hp S) 6) (h3 : I 71 3 = sp_ops S) (hop : am_rowl (I 72) 0 (sp_ob S)) (hO : ∀ m, m < (S 19).toNat → ¬ sp_ops S = 0 → I (74 + m) 0 = sp_hd S m)  : am_E X (d + 1) 69 0 [(0, .inr (.inr (.inl (some 71))))] [] (am_mm D I J ρ) (fun r => r = (some (.inl ((sp_fav S))), (am_mm D I J ρ))) := by
  have h19 := r_ok_19 hok
  have hlen := sp_ob_len (S := S)
  have ob := sp_ops_b hok
  refine am_e_ss 9 (q := (12, [(3, .inl 0), (2, .inl (-1)), (1, .inl (-5)), (0, .inr (.inr (.inl (some 71))))], [.inl ((I 71 3)), .inl 0], (am_mm D I J ρ))) rfl ?_
  refine am_e_icmp2 rfl ⟨by omega, by omega⟩ ⟨by omega, by omega⟩ (fun (hw1 : (I 71 3) ≤ 0) => ?_) (fun (hw1 : ¬ ((I 71 3) ≤ 0)) => ?_)
  · show am_E _ _ _ 94 [(3, .inl 0), (2, .inl (-1)), (1, .inl (-5)), (0, .inr (.inr (.inl (some 71))))] [] (am_mm D I J ρ) _
    refine am_e_ss 1 (q := (95, [(3, .inl 0), (2, .inl (-1)), (1, .inl (-5)), (0, .inr (.inr (.inl (some 71))))], [.inl (-5)], (am_mm D I J ρ))) rfl ?_
    refine am_e_ireturn rfl rfl ?_
    unfold sp_fav
    rw [List.eq_nil_of_length_eq_zero (show (sp_ob S).length = 0 by omega)]
    rfl
  · show am_E _ _ _ 15 [(3, .inl 0), (2, .inl (-1)), (1, .inl (-5)), (0, .inr (.inr (.inl (some 71))))] [] (am_mm D I J ρ) _
    refine am_e_ss 4 (q := (21, [(5, .inl 0), (4, .inl 0), (3, .inl 0), (2, .inl (-1)), (1, .inl (-5)), (0, .inr (.inr (.inl (some 71))))], [], (am_mm D I J ρ))) rfl ?_
    exact am_less (lv := [(5, .inl (0 : Int)), (4, .inl 0), (3, .inl (0 : Int)), (2, .inl ((-1))), (1, .inl ((-5))), (0, .inr (.inr (.inl (some 71))))]) rfl (List.forall_mem_cons.mpr ⟨rfl, List.forall_mem_cons.mpr ⟨rfl, List.forall_mem_cons.mpr ⟨rfl, List.forall_mem_cons.mpr ⟨rfl, List.forall_mem_cons.mpr ⟨rfl, List.forall_mem_cons.mpr ⟨rfl, List.forall_mem_nil _⟩⟩⟩⟩⟩⟩) (c_fav_69_l d (i := 0) (m := 0) hok h71 h12 hhr h3 hop hO (by omega) (by omega) rfl rfl)
theorem c_speaks {X : Nat × (Nat → Int)} {D : List (Nat × Nat)} {I J : Nat → Nat → Int} {ρ : Nat → Nat → Option Nat} (d : Nat) {m : Nat} {p : Nat → Bool} (hp : I 71 6 = am_bits p 6) (hm : m < 6) : am_E X d 70 0 [(0, .inr (.inr (.inl (some 71)))), (1, .inl (m : Int))] [] (am_mm D I J ρ) (fun r => r = (some (.inl ((am_bi (p m = true)))), (am_mm D I J ρ))) := by
  have hb := am_bitk_of p m hm
  rw [← hp] at hb
  unfold am_bitk at hb
  have hb2 : (Int32.ofInt (Int32.ofInt (I 71 6) >>> (Int32.ofInt (m : Int) &&& 31)).toInt &&& Int32.ofInt 1).toInt = 0 ∨ (Int32.ofInt (Int32.ofInt (I 71 6) >>> (Int32.ofInt (m : Int) &&& 31)).toInt &&& Int32.ofInt 1).toInt = 1 := by rw [hb]; split <;> simp
  refine am_e_ss 6 (q := (8, [(0, .inr (.inr (.inl (some 71)))), (1, .inl (m : Int))], [.inl ((Int32.ofInt (Int32.ofInt (I 71 6) >>> (Int32.ofInt (m : Int) &&& 31)).toInt &&& Int32.ofInt 1).toInt)], (am_mm D I J ρ))) rfl ?_
  refine am_e_if2 rfl ⟨by omega, by omega⟩ (fun (hw1 : (Int32.ofInt (Int32.ofInt (I 71 6) >>> (Int32.ofInt (m : Int) &&& 31)).toInt &&& Int32.ofInt 1).toInt = 0) => ?_) (fun (hw1 : ¬ ((Int32.ofInt (Int32.ofInt (I 71 6) >>> (Int32.ofInt (m : Int) &&& 31)).toInt &&& Int32.ofInt 1).toInt = 0)) => ?_)
  · show am_E _ _ _ 15 [(0, .inr (.inr (.inl (some 71)))), (1, .inl (m : Int))] [] (am_mm D I J ρ) _
    refine am_e_ss 1 (q := (16, [(0, .inr (.inr (.inl (some 71)))), (1, .inl (m : Int))], [.inl 0], (am_mm D I J ρ))) rfl ?_
    refine am_e_ireturn rfl rfl ?_
    rw [show (am_bi (p m = true) : Int) = 0 from if_neg (by intro h; rw [h, if_pos rfl] at hb; omega)]
  · show am_E _ _ _ 11 [(0, .inr (.inr (.inl (some 71)))), (1, .inl (m : Int))] [] (am_mm D I J ρ) _
    refine am_e_ss 2 (q := (16, [(0, .inr (.inr (.inl (some 71)))), (1, .inl (m : Int))], [.inl 1], (am_mm D I J ρ))) rfl ?_
    refine am_e_ireturn rfl rfl ?_
    rw [show (am_bi (p m = true) : Int) = 1 from if_pos (by cases h : p m with | true => rfl | false => rw [h, if_neg (by decide)] at hb; omega)]
theorem c_vIsHere_2 {X : Nat × (Nat → Int)} {D : List (Nat × Nat)} {I J : Nat → Nat → Int} {ρ : Nat → Nat → Option Nat} (d : Nat) {S : Nat → Int} {B : Int} {v : Nat} (hok : r_ok S B) (h71 : ρ 71 1 = some 2) (h12 : I 1 2 = S 19) (hhr : I 2 1 = am_bits (sp_hp S) 6) (hv : v < 10) : am_E X (d + 1) 71 0 [(0, .inr (.inr (.inl (some 71)))), (1, .inl (v : Int))] [] (am_mm D I J ρ) (fun r => r = (some (.inl ((am_bi (v < (S 19).toNat ∧ S (7 + v) = 0)))), (am_mm D I J ρ))) := by
  have h19 := r_ok_19 hok
  refine am_e_ss 1 (q := (1, [(0, .inr (.inr (.inl (some 71)))), (1, .inl (v : Int))], [.inl (v : Int)], (am_mm D I J ρ))) rfl ?_
  refine am_e_if2 rfl ⟨by omega, by omega⟩ (fun (hw1 : (v : Int) < 0) => ?_) (fun (hw1 : ¬ ((v : Int) < 0)) => ?_)
  · show am_E _ _ _ 30 [(0, .inr (.inr (.inl (some 71)))), (1, .inl (v : Int))] [] (am_mm D I J ρ) _
    refine am_e_ss 1 (q := (31, [(0, .inr (.inr (.inl (some 71)))), (1, .inl (v : Int))], [.inl 0], (am_mm D I J ρ))) rfl ?_
    refine am_e_ireturn rfl rfl ?_
    have hp := sp_hp_t (S := S) (m := v)
    rw [show (am_bi (v < (S 19).toNat ∧ S (7 + v) = 0) : Int) = 0 from if_neg (by intro h; first | omega | exact absurd (hp.mpr h) (by assumption))]
  · show am_E _ _ _ 4 [(0, .inr (.inr (.inl (some 71)))), (1, .inl (v : Int))] [] (am_mm D I J ρ) _
    refine am_e_ss 4 (q := (12, [(0, .inr (.inr (.inl (some 71)))), (1, .inl (v : Int))], [.inl ((I 1 2)), .inl (v : Int)], (am_mm D I J ρ))) rfl ?_
    refine am_e_icmp2 rfl ⟨by omega, by omega⟩ ⟨by omega, by omega⟩ (fun (hw2 : (I 1 2) ≤ (v : Int)) => ?_) (fun (hw2 : ¬ ((I 1 2) ≤ (v : Int))) => ?_)
    · show am_E _ _ _ 30 [(0, .inr (.inr (.inl (some 71)))), (1, .inl (v : Int))] [] (am_mm D I J ρ) _
      refine am_e_ss 1 (q := (31, [(0, .inr (.inr (.inl (some 71)))), (1, .inl (v : Int))], [.inl 0], (am_mm D I J ρ))) rfl ?_
      refine am_e_ireturn rfl rfl ?_
      have hp := sp_hp_t (S := S) (m := v)
      rw [show (am_bi (v < (S 19).toNat ∧ S (7 + v) = 0) : Int) = 0 from if_neg (by intro h; first | omega | exact absurd (hp.mpr h) (by assumption))]
    · show am_E _ _ _ 15 [(0, .inr (.inr (.inl (some 71)))), (1, .inl (v : Int))] [] (am_mm D I J ρ) _
      refine am_e_ss 1 (q := (16, [(0, .inr (.inr (.inl (some 71)))), (1, .inl (v : Int))], [.inr (.inr (.inl (some 71)))], (am_mm D I J ρ))) rfl ?_
      refine am_e_getR (c := 10) (m := 14) (f := 1) (w := 2) rfl rfl rfl (by decide) (by decide) rfl rfl h71 ?_
      show am_E _ _ _ 19 [(0, .inr (.inr (.inl (some 71)))), (1, .inl (v : Int))] [.inr (.inr (.inl (some 2)))] (am_mm D I J ρ) _
      refine am_e_ss 1 (q := (20, [(0, .inr (.inr (.inl (some 71)))), (1, .inl (v : Int))], [.inl (v : Int), .inr (.inr (.inl (some 2)))], (am_mm D I J ρ))) rfl ?_
      refine am_e_virtual (Q := fun r => r = (some (.inl ((am_bi (sp_hp S v = true)))), (am_mm D I J ρ))) rfl rfl (Nat.le_of_ble_eq_true rfl) rfl rfl (Nat.le_of_ble_eq_true rfl) (Nat.le_of_ble_eq_true rfl) (c_isHere_2 _ (p := sp_hp S) hhr (by omega)) ?_
      rintro r rfl
      show am_E _ _ _ 23 [(0, .inr (.inr (.inl (some 71)))), (1, .inl (v : Int))] [.inl ((am_bi (sp_hp S v = true)))] (am_mm D I J ρ) _
      refine am_e_ifeq rfl (fun hw3 => ?_) (fun hw3 => ?_)
      · show am_E _ _ _ 30 [(0, .inr (.inr (.inl (some 71)))), (1, .inl (v : Int))] [] (am_mm D I J ρ) _
        refine am_e_ss 1 (q := (31, [(0, .inr (.inr (.inl (some 71)))), (1, .inl (v : Int))], [.inl 0], (am_mm D I J ρ))) rfl ?_
        refine am_e_ireturn rfl rfl ?_
        have hp := sp_hp_t (S := S) (m := v)
        rw [show (am_bi (v < (S 19).toNat ∧ S (7 + v) = 0) : Int) = 0 from if_neg (by intro h; first | omega | exact absurd (hp.mpr h) (by assumption))]
      · show am_E _ _ _ 26 [(0, .inr (.inr (.inl (some 71)))), (1, .inl (v : Int))] [] (am_mm D I J ρ) _
        refine am_e_ss 2 (q := (31, [(0, .inr (.inr (.inl (some 71)))), (1, .inl (v : Int))], [.inl 1], (am_mm D I J ρ))) rfl ?_
        refine am_e_ireturn rfl rfl ?_
        have hp := sp_hp_t (S := S) (m := v)
        rw [show (am_bi (v < (S 19).toNat ∧ S (7 + v) = 0) : Int) = 1 from if_pos (hp.mp (by assumption))]
theorem c_vIsHere_69 {X : Nat × (Nat → Int)} {D : List (Nat × Nat)} {I J : Nat → Nat → Int} {ρ : Nat → Nat → Option Nat} (d : Nat) {S : Nat → Int} {B : Int} {v : Nat} (hok : r_ok S B) (h71 : ρ 71 1 = some 69) (h12 : I 1 2 = S 19) (hhr : I 69 1 = am_bits (sp_hp S) 6) (hv : v < 10) : am_E X (d + 1) 71 0 [(0, .inr (.inr (.inl (some 71)))), (1, .inl (v : Int))] [] (am_mm D I J ρ) (fun r => r = (some (.inl ((am_bi (v < (S 19).toNat ∧ S (7 + v) = 0)))), (am_mm D I J ρ))) := by
  have h19 := r_ok_19 hok
  refine am_e_ss 1 (q := (1, [(0, .inr (.inr (.inl (some 71)))), (1, .inl (v : Int))], [.inl (v : Int)], (am_mm D I J ρ))) rfl ?_
  refine am_e_if2 rfl ⟨by omega, by omega⟩ (fun (hw1 : (v : Int) < 0) => ?_) (fun (hw1 : ¬ ((v : Int) < 0)) => ?_)
  · show am_E _ _ _ 30 [(0, .inr (.inr (.inl (some 71)))), (1, .inl (v : Int))] [] (am_mm D I J ρ) _
    refine am_e_ss 1 (q := (31, [(0, .inr (.inr (.inl (some 71)))), (1, .inl (v : Int))], [.inl 0], (am_mm D I J ρ))) rfl ?_
    refine am_e_ireturn rfl rfl ?_
    have hp := sp_hp_t (S := S) (m := v)
    rw [show (am_bi (v < (S 19).toNat ∧ S (7 + v) = 0) : Int) = 0 from if_neg (by intro h; first | omega | exact absurd (hp.mpr h) (by assumption))]
  · show am_E _ _ _ 4 [(0, .inr (.inr (.inl (some 71)))), (1, .inl (v : Int))] [] (am_mm D I J ρ) _
    refine am_e_ss 4 (q := (12, [(0, .inr (.inr (.inl (some 71)))), (1, .inl (v : Int))], [.inl ((I 1 2)), .inl (v : Int)], (am_mm D I J ρ))) rfl ?_
    refine am_e_icmp2 rfl ⟨by omega, by omega⟩ ⟨by omega, by omega⟩ (fun (hw2 : (I 1 2) ≤ (v : Int)) => ?_) (fun (hw2 : ¬ ((I 1 2) ≤ (v : Int))) => ?_)
    · show am_E _ _ _ 30 [(0, .inr (.inr (.inl (some 71)))), (1, .inl (v : Int))] [] (am_mm D I J ρ) _
      refine am_e_ss 1 (q := (31, [(0, .inr (.inr (.inl (some 71)))), (1, .inl (v : Int))], [.inl 0], (am_mm D I J ρ))) rfl ?_
      refine am_e_ireturn rfl rfl ?_
      have hp := sp_hp_t (S := S) (m := v)
      rw [show (am_bi (v < (S 19).toNat ∧ S (7 + v) = 0) : Int) = 0 from if_neg (by intro h; first | omega | exact absurd (hp.mpr h) (by assumption))]
    · show am_E _ _ _ 15 [(0, .inr (.inr (.inl (some 71)))), (1, .inl (v : Int))] [] (am_mm D I J ρ) _
      refine am_e_ss 1 (q := (16, [(0, .inr (.inr (.inl (some 71)))), (1, .inl (v : Int))], [.inr (.inr (.inl (some 71)))], (am_mm D I J ρ))) rfl ?_
      refine am_e_getR (c := 10) (m := 14) (f := 1) (w := 69) rfl rfl rfl (by decide) (by decide) rfl rfl h71 ?_
      show am_E _ _ _ 19 [(0, .inr (.inr (.inl (some 71)))), (1, .inl (v : Int))] [.inr (.inr (.inl (some 69)))] (am_mm D I J ρ) _
      refine am_e_ss 1 (q := (20, [(0, .inr (.inr (.inl (some 71)))), (1, .inl (v : Int))], [.inl (v : Int), .inr (.inr (.inl (some 69)))], (am_mm D I J ρ))) rfl ?_
      refine am_e_virtual (Q := fun r => r = (some (.inl ((am_bi (sp_hp S v = true)))), (am_mm D I J ρ))) rfl rfl (Nat.le_of_ble_eq_true rfl) rfl rfl (Nat.le_of_ble_eq_true rfl) (Nat.le_of_ble_eq_true rfl) (c_isHere_69 _ (p := sp_hp S) hhr (by omega)) ?_
      rintro r rfl
      show am_E _ _ _ 23 [(0, .inr (.inr (.inl (some 71)))), (1, .inl (v : Int))] [.inl ((am_bi (sp_hp S v = true)))] (am_mm D I J ρ) _
      refine am_e_ifeq rfl (fun hw3 => ?_) (fun hw3 => ?_)
      · show am_E _ _ _ 30 [(0, .inr (.inr (.inl (some 71)))), (1, .inl (v : Int))] [] (am_mm D I J ρ) _
        refine am_e_ss 1 (q := (31, [(0, .inr (.inr (.inl (some 71)))), (1, .inl (v : Int))], [.inl 0], (am_mm D I J ρ))) rfl ?_
        refine am_e_ireturn rfl rfl ?_
        have hp := sp_hp_t (S := S) (m := v)
        rw [show (am_bi (v < (S 19).toNat ∧ S (7 + v) = 0) : Int) = 0 from if_neg (by intro h; first | omega | exact absurd (hp.mpr h) (by assumption))]
      · show am_E _ _ _ 26 [(0, .inr (.inr (.inl (some 71)))), (1, .inl (v : Int))] [] (am_mm D I J ρ) _
        refine am_e_ss 2 (q := (31, [(0, .inr (.inr (.inl (some 71)))), (1, .inl (v : Int))], [.inl 1], (am_mm D I J ρ))) rfl ?_
        refine am_e_ireturn rfl rfl ?_
        have hp := sp_hp_t (S := S) (m := v)
        rw [show (am_bi (v < (S 19).toNat ∧ S (7 + v) = 0) : Int) = 1 from if_pos (hp.mp (by assumption))]
theorem c_putOrder {X : Nat × (Nat → Int)} {D : List (Nat × Nat)} {I J : Nat → Nat → Int} {ρ : Nat → Nat → Option Nat} (d : Nat) {a b : Nat} (ha : a < 6) (hb : b < 6) : am_E X (d + 1) 72 0 [(0, .inr (.inr (.inl (some 71)))), (1, .inl (a : Int)), (2, .inr (.inr (.inl (some (81 + b)))))] [] (am_mm D I J ρ) (fun r => r = (none, (am_mm D (am_cpg I (81 + b) 0 (74 + a) 0 6) J ρ))) := by
  refine am_e_ss 3 (q := (5, [(0, .inr (.inr (.inl (some 71)))), (1, .inl (a : Int)), (2, .inr (.inr (.inl (some (81 + b)))))], [.inl (a : Int), .inr (.inr (.inl (some 73)))], (am_mm D I J ρ))) rfl ?_
  refine am_e_aaload (m := 6) (c := 23) rfl rfl (by decide) (by omega) (by omega) (by omega) ?_
  rw [show ((am_mm D I J ρ)).2.2.2 73 ((a : Int)).toNat = some (74 + a) from (am_r73 (ρ := ρ) (by omega))]
  show am_E _ _ _ 6 [(0, .inr (.inr (.inl (some 71)))), (1, .inl (a : Int)), (2, .inr (.inr (.inl (some (81 + b)))))] [.inr (.inr (.inl (some (74 + a))))] (am_mm D I J ρ) _
  refine am_e_ss 4 (q := (11, [(0, .inr (.inr (.inl (some 71)))), (1, .inl (a : Int)), (2, .inr (.inr (.inl (some (81 + b)))))], [.inl 6, .inl 0, .inr (.inr (.inl (some (81 + b)))), .inl 0, .inr (.inr (.inl (some (74 + a))))], (am_mm D I J ρ))) rfl ?_
  refine am_e_cp (k := (81 + b)) (q := (74 + a)) (a := 6) (b := 6) (dp := 0) (sp := 0) (n' := 6) rfl rfl rfl (am_k81 (by omega)) (am_k74 (by omega)) (by decide) (by decide) (by decide) (Nat.le_of_ble_eq_true rfl) ?_
  show am_E _ _ _ 14 [(0, .inr (.inr (.inl (some 71)))), (1, .inl (a : Int)), (2, .inr (.inr (.inl (some (81 + b)))))] [] (am_mm D (am_cpg I (81 + b) 0 (74 + a) 0 6) J ρ) _
  refine am_e_return rfl rfl ?_
  rfl
def sp_bub (z : Int) : List Nat → List Nat
  | [] => []
  | [x] => [x]
  | x :: y :: r => if (x : Int) = z then y :: sp_bub z (x :: r) else x :: sp_bub z (y :: r)
termination_by L => L.length
theorem sp_bub_2 {z : Int} {x y : Nat} {r : List Nat} : sp_bub z (x :: y :: r) = if (x : Int) = z then y :: sp_bub z (x :: r) else x :: sp_bub z (y :: r) := by
  rw [sp_bub]
theorem sp_bub_s {z : Int} : ∀ L : List Nat, L.length ≤ 1 → sp_bub z L = L := by
  intro L hL
  match L, hL with
  | [], _ => rw [sp_bub]
  | [x], _ => rw [sp_bub]
  | x :: y :: r, h => exact absurd h (by simp)
theorem sp_bub_hd {z : Int} {x : Nat} (hx : (x : Int) = z) : ∀ r : List Nat, sp_bub z (x :: r) = r ++ [x] := by
  intro r
  induction r with
  | nil => rw [sp_bub]; rfl
  | cons y r ih => rw [sp_bub_2, if_pos hx, ih]; rfl
theorem sp_bub_say {z : Int} : ∀ {L : List Nat}, L.Nodup → sp_bub z L = sp_sayl L z := by
  intro L
  induction L with
  | nil => intro _; rw [sp_bub]; rfl
  | cons x r ih =>
    intro hn
    obtain ⟨h1, h2⟩ := List.nodup_cons.mp hn
    by_cases e : (x : Int) = z
    · rw [sp_bub_hd e]
      unfold sp_sayl
      have hf : r.filter (fun b : Nat => decide (¬ (b : Int) = z)) = r := by
        rw [List.filter_eq_self]
        intro a ha
        refine decide_eq_true ?_
        intro h
        exact h1 (by rw [show x = a by omega]; exact ha)
      rw [List.filter_cons_of_neg (by simp [e]), hf, if_pos (by simp), show z.toNat = x by omega]
    · have ih := ih h2
      have key : sp_bub z (x :: r) = x :: sp_bub z r := by
        cases r with
        | nil => rw [sp_bub_s [x] (by simp), sp_bub_s [] (by simp)]
        | cons y r => rw [sp_bub_2, if_neg e]
      rw [key, ih]
      unfold sp_sayl
      rw [List.filter_cons_of_pos (by simp [e]), List.length_cons, List.length_cons]
      by_cases h : (r.filter (fun b : Nat => decide (¬ (b : Int) = z))).length < r.length
      · rw [if_pos h, if_pos (by omega)]; rfl
      · rw [if_neg h, if_neg (by omega)]; rfl
theorem sp_sayl_no {L : List Nat} {z : Int} (h : ∀ x ∈ L, ¬ (x : Int) = z) : sp_sayl L z = L := by
  unfold sp_sayl
  have hf : L.filter (fun b : Nat => decide (¬ (b : Int) = z)) = L := by
    rw [List.filter_eq_self]
    intro a ha
    exact decide_eq_true (h a ha)
  rw [hf, if_neg (by omega), List.append_nil]
theorem am_rowl_app {R : Nat → Int} {o : Nat} {A B : List Nat} (h1 : am_rowl R o A) (h2 : am_rowl R (o + A.length) B) : am_rowl R o (A ++ B) := by
  intro k b hk
  rw [List.getElem?_append] at hk
  split at hk
  · exact h1 k b hk
  · have := h2 _ _ hk
    rw [← this]
    congr 1
    omega
theorem am_rowl_l {R : Nat → Int} {o : Nat} {A B : List Nat} (h : am_rowl R o (A ++ B)) : am_rowl R o A := by
  intro k b hk
  refine h k b ?_
  rw [List.getElem?_append, if_pos (am_get_lt hk)]
  exact hk
theorem am_rowl_r {R : Nat → Int} {o : Nat} {A B : List Nat} (h : am_rowl R o (A ++ B)) : am_rowl R (o + A.length) B := by
  intro k b hk
  have := h (A.length + k) b (by rw [List.getElem?_append, if_neg (by omega), Nat.add_sub_cancel_left]; exact hk)
  rw [← this]
  congr 1
  omega
theorem am_rowl_c {R : Nat → Int} {o x : Nat} {L : List Nat} (h : R o = (x : Int)) (h2 : am_rowl R (o + 1) L) : am_rowl R o (x :: L) := by
  intro k b hk
  cases k with
  | zero => rw [List.getElem?_cons_zero] at hk; injection hk with hk; rw [Nat.add_zero, h, hk]
  | succ k => rw [List.getElem?_cons_succ] at hk; rw [← h2 k b hk]; congr 1; omega
theorem am_rowl_h {R : Nat → Int} {o x : Nat} {L : List Nat} (h : am_rowl R o (x :: L)) : R o = (x : Int) := by
  have := h 0 x rfl
  rw [Nat.add_zero] at this
  exact this
theorem am_rowl_t {R : Nat → Int} {o x : Nat} {L : List Nat} (h : am_rowl R o (x :: L)) : am_rowl R (o + 1) L := by
  intro k b hk
  have := h (k + 1) b hk
  rw [← this]
  congr 1
  omega
theorem c_putLast_0_l {X : Nat × (Nat → Int)} {D : List (Nat × Nat)} {I J : Nat → Nat → Int} {ρ : Nat → Nat → Option Nat} (d : Nat) {z : Int} {L : List Nat} (hz : -10 ≤ z ∧ z ≤ 10) (h3 : I 71 3 = (L.length : Int)) (h6 : L.length ≤ 6) (hx6 : ∀ x ∈ L, x < 6) {k : Nat} {A C : List Nat} (hk : A.length = k) (hlen : A.length + C.length = L.length) (hx7 : ∀ x ∈ C, x < 6) (hrow : am_rowl (I 81) 0 (A ++ C)) (hfin : A ++ sp_bub z C = sp_bub z L) : am_E X d 73 2 [(3, .inl (k : Int)), (2, .inr (.inr (.inl (some 81)))), (1, .inl z), (0, .inr (.inr (.inl (some 71))))] [] (am_mm D I J ρ) (fun q => ∃ Q, q = (none, am_mm D (am_wp (fun c _ => Nat.beq c 81) I Q) J ρ) ∧ am_rowl (Q 81) 0 (sp_bub z L)) := by
  refine am_e_ss 5 (q := (9, [(3, .inl (k : Int)), (2, .inr (.inr (.inl (some 81)))), (1, .inl z), (0, .inr (.inr (.inl (some 71))))], [.inl ((I 71 3)), .inl ((k : Int) + 1)], (am_mm D I J ρ))) rfl ?_
  refine am_e_icmp2 rfl ⟨by omega, by omega⟩ ⟨by omega, by omega⟩ (fun (hw1 : (I 71 3) ≤ ((k : Int) + 1)) => ?_) (fun (hw1 : ¬ ((I 71 3) ≤ ((k : Int) + 1))) => ?_)
  · show am_E _ _ _ 39 [(3, .inl (k : Int)), (2, .inr (.inr (.inl (some 81)))), (1, .inl z), (0, .inr (.inr (.inl (some 71))))] [] (am_mm D I J ρ) _
    refine am_e_return rfl rfl ?_
    rw [sp_bub_s C (by omega)] at hfin
    rw [hfin] at hrow
    exact ⟨I, am_r_wp (fun c _ => Nat.beq c 81) am_k_id, hrow⟩
  · show am_E _ _ _ 12 [(3, .inl (k : Int)), (2, .inr (.inr (.inl (some 81)))), (1, .inl z), (0, .inr (.inr (.inl (some 71))))] [] (am_mm D I J ρ) _
    have hCx : ∃ x r, C = x :: r := by
      match C, hlen with
      | [], h => exact absurd h (by simp; omega)
      | x :: r, _ => exact ⟨x, r, rfl⟩
    obtain ⟨x0, r0, hC0⟩ := hCx
    have hrr : I 81 k = (x0 : Int) := by
      have hr2 := am_rowl_r hrow
      rw [Nat.zero_add, hk, hC0] at hr2
      exact am_rowl_h hr2
    have hx00 := hx7 x0 (by rw [hC0]; exact List.mem_cons_self)
    refine am_e_ss 2 (q := (14, [(3, .inl (k : Int)), (2, .inr (.inr (.inl (some 81)))), (1, .inl z), (0, .inr (.inr (.inl (some 71))))], [.inl (k : Int), .inr (.inr (.inl (some 81)))], (am_mm D I J ρ))) rfl ?_
    refine am_e_iaload (m := 6) rfl rfl (by omega) (by omega) (by omega) ?_
    show am_E _ _ _ 15 [(3, .inl (k : Int)), (2, .inr (.inr (.inl (some 81)))), (1, .inl z), (0, .inr (.inr (.inl (some 71))))] [.inl ((I 81 k))] (am_mm D I J ρ) _
    refine am_e_ss 1 (q := (16, [(3, .inl (k : Int)), (2, .inr (.inr (.inl (some 81)))), (1, .inl z), (0, .inr (.inr (.inl (some 71))))], [.inl z, .inl ((I 81 k))], (am_mm D I J ρ))) rfl ?_
    refine am_e_icmp2 rfl ⟨by omega, by omega⟩ ⟨by omega, by omega⟩ (fun (hw2 : ¬ (I 81 k) = z) => ?_) (fun (hw2 : ¬ (¬ (I 81 k) = z)) => ?_)
    · show am_E _ _ _ 33 [(3, .inl (k : Int)), (2, .inr (.inr (.inl (some 81)))), (1, .inl z), (0, .inr (.inr (.inl (some 71))))] [] (am_mm D I J ρ) _
      refine am_e_ss 2 (q := (2, [(3, .inl ((k : Int) + 1)), (2, .inr (.inr (.inl (some 81)))), (1, .inl z), (0, .inr (.inr (.inl (some 71))))], [], (am_mm D I J ρ))) rfl ?_
      obtain ⟨x, y, r, rfl⟩ : ∃ x y r, C = x :: y :: r := by
        match C, hlen with
        | [], h => exact absurd h (by simp; omega)
        | [x], h => exact absurd h (by simp; omega)
        | x :: y :: r, _ => exact ⟨x, y, r, rfl⟩
      have hr2 := am_rowl_r hrow
      rw [Nat.zero_add, hk] at hr2
      have hx0 := am_rowl_h hr2
      have hy0 := am_rowl_h (am_rowl_t hr2)
      rw [sp_bub_2] at hfin
      rw [List.length_cons, List.length_cons] at hlen
      rw [if_neg (by omega)] at hfin
      refine (am_less (lv := [(3, .inl ((k + 1) : Int)), (2, .inr (.inr (.inl (some 81)))), (1, .inl z), (0, .inr (.inr (.inl (some 71))))]) rfl (List.forall_mem_cons.mpr ⟨rfl, List.forall_mem_cons.mpr ⟨rfl, List.forall_mem_cons.mpr ⟨rfl, List.forall_mem_cons.mpr ⟨rfl, List.forall_mem_nil _⟩⟩⟩⟩) (c_putLast_0_l (I := I) d (A := A ++ [x]) (C := y :: r) (k := k + 1) hz h3 h6 hx6 (by rw [List.length_append, List.length_singleton, hk]) (by rw [List.length_append, List.length_singleton, List.length_cons]; omega) (fun a ha => hx7 a (List.mem_cons_of_mem _ ha)) (by rw [List.append_assoc]; exact hrow) (by rw [List.append_assoc]; exact hfin))).imp ?_
      rintro q ⟨Q9, rfl, h9⟩
      exact ⟨_, am_r_wp (fun c _ => Nat.beq c 81) (am_k_wp am_k_sub (am_k_id)), h9⟩
    · show am_E _ _ _ 19 [(3, .inl (k : Int)), (2, .inr (.inr (.inl (some 81)))), (1, .inl z), (0, .inr (.inr (.inl (some 71))))] [] (am_mm D I J ρ) _
      refine am_e_ss 6 (q := (25, [(3, .inl (k : Int)), (2, .inr (.inr (.inl (some 81)))), (1, .inl z), (0, .inr (.inr (.inl (some 71))))], [.inl ((k : Int) + 1), .inr (.inr (.inl (some 81))), .inl (k : Int), .inr (.inr (.inl (some 81)))], (am_mm D I J ρ))) rfl ?_
      refine am_e_iaload (m := 6) rfl rfl (by omega) (by omega) (by omega) ?_
      show am_E _ _ _ 26 [(3, .inl (k : Int)), (2, .inr (.inr (.inl (some 81)))), (1, .inl z), (0, .inr (.inr (.inl (some 71))))] [.inl ((I 81 (k + 1))), .inl (k : Int), .inr (.inr (.inl (some 81)))] (am_mm D I J ρ) _
      refine am_e_iastore (m := 6) rfl rfl (by omega) (by omega) (by omega) ?_
      show am_E _ _ _ 27 [(3, .inl (k : Int)), (2, .inr (.inr (.inl (some 81)))), (1, .inl z), (0, .inr (.inr (.inl (some 71))))] [] (am_mm D (am_up I 81 k (I 81 (k + 1))) J ρ) _
      refine am_e_ss 5 (q := (32, [(3, .inl (k : Int)), (2, .inr (.inr (.inl (some 81)))), (1, .inl z), (0, .inr (.inr (.inl (some 71))))], [.inl z, .inl ((k : Int) + 1), .inr (.inr (.inl (some 81)))], (am_mm D (am_up I 81 k (I 81 (k + 1))) J ρ))) rfl ?_
      refine am_e_iastore (m := 6) rfl rfl (by omega) (by omega) (by omega) ?_
      show am_E _ _ _ 33 [(3, .inl (k : Int)), (2, .inr (.inr (.inl (some 81)))), (1, .inl z), (0, .inr (.inr (.inl (some 71))))] [] (am_mm D (am_up (am_up I 81 k (I 81 (k + 1))) 81 (k + 1) z) J ρ) _
      refine am_e_ss 2 (q := (2, [(3, .inl ((k : Int) + 1)), (2, .inr (.inr (.inl (some 81)))), (1, .inl z), (0, .inr (.inr (.inl (some 71))))], [], (am_mm D (am_up (am_up I 81 k (I 81 (k + 1))) 81 (k + 1) z) J ρ))) rfl ?_
      obtain ⟨x, y, r, rfl⟩ : ∃ x y r, C = x :: y :: r := by
        match C, hlen with
        | [], h => exact absurd h (by simp; omega)
        | [x], h => exact absurd h (by simp; omega)
        | x :: y :: r, _ => exact ⟨x, y, r, rfl⟩
      have hr2 := am_rowl_r hrow
      rw [Nat.zero_add, hk] at hr2
      have hx0 := am_rowl_h hr2
      have hy0 := am_rowl_h (am_rowl_t hr2)
      rw [sp_bub_2] at hfin
      rw [List.length_cons, List.length_cons] at hlen
      rw [if_pos (by omega)] at hfin
      have e9 : am_rowl ((am_up (am_up I 81 k (I 81 (k + 1))) 81 (k + 1) z) 81) 0 ((A ++ [y]) ++ (x :: r)) := by
        refine am_rowl_app (am_rowl_snoc (am_rowl_cg (am_rowl_l hrow) (fun i hi => (am_up_ne2 (by omega)).trans (am_up_ne2 (by omega)))) ?_) ?_
        · rw [Nat.zero_add, hk]
          exact (am_up_ne2 (by omega)).trans (am_up_at2.trans hy0)
        · rw [List.length_append, List.length_singleton, Nat.zero_add, hk]
          refine am_rowl_c (am_up_at2.trans (by omega)) (am_rowl_cg (am_rowl_t (am_rowl_t hr2)) (fun i hi => (am_up_ne2 (by omega)).trans (am_up_ne2 (by omega))))
      refine (am_less (lv := [(3, .inl ((k + 1) : Int)), (2, .inr (.inr (.inl (some 81)))), (1, .inl z), (0, .inr (.inr (.inl (some 71))))]) rfl (List.forall_mem_cons.mpr ⟨rfl, List.forall_mem_cons.mpr ⟨rfl, List.forall_mem_cons.mpr ⟨rfl, List.forall_mem_cons.mpr ⟨rfl, List.forall_mem_nil _⟩⟩⟩⟩) (c_putLast_0_l (I := am_up (am_up I 81 k (I 81 (k + 1))) 81 (k + 1) z) d (A := A ++ [y]) (C := x :: r) (k := k + 1) hz h3 h6 hx6 (by rw [List.length_append, List.length_singleton, hk]) (by rw [List.length_append, List.length_singleton, List.length_cons]; omega) (fun a ha => hx7 a (by rcases List.mem_cons.mp ha with rfl | ha; exact List.mem_cons_self; exact List.mem_cons_of_mem _ (List.mem_cons_of_mem _ ha))) e9 (by rw [List.append_assoc]; exact hfin))).imp ?_
      rintro q ⟨Q9, rfl, h9⟩
      exact ⟨_, am_r_wp (fun c _ => Nat.beq c 81) (am_k_wp am_k_sub (am_k_up rfl (am_k_up rfl (am_k_id)))), h9⟩
termination_by (L.length - k)
decreasing_by all_goals omega
theorem c_putLast_0 {X : Nat × (Nat → Int)} {D : List (Nat × Nat)} {I J : Nat → Nat → Int} {ρ : Nat → Nat → Option Nat} (d : Nat) {z : Int} {L : List Nat} (hz : -10 ≤ z ∧ z ≤ 10) (h3 : I 71 3 = (L.length : Int)) (h6 : L.length ≤ 6) (hx6 : ∀ x ∈ L, x < 6) (hrow : am_rowl (I 81) 0 L)  : am_E X d 73 0 [(0, .inr (.inr (.inl (some 71)))), (1, .inl z), (2, .inr (.inr (.inl (some 81))))] [] (am_mm D I J ρ) (fun q => ∃ Q, q = (none, am_mm D (am_wp (fun c _ => Nat.beq c 81) I Q) J ρ) ∧ am_rowl (Q 81) 0 (sp_bub z L)) := by
  refine am_e_ss 2 (q := (2, [(3, .inl 0), (0, .inr (.inr (.inl (some 71)))), (1, .inl z), (2, .inr (.inr (.inl (some 81))))], [], (am_mm D I J ρ))) rfl ?_
  refine (am_less (lv := [(3, .inl (0 : Int)), (2, .inr (.inr (.inl (some 81)))), (1, .inl z), (0, .inr (.inr (.inl (some 71))))]) rfl (List.forall_mem_cons.mpr ⟨rfl, List.forall_mem_cons.mpr ⟨rfl, List.forall_mem_cons.mpr ⟨rfl, List.forall_mem_cons.mpr ⟨rfl, List.forall_mem_nil _⟩⟩⟩⟩) (c_putLast_0_l (I := I) d (A := []) (C := L) (k := 0) hz h3 h6 hx6 rfl (by simp) hx6 hrow rfl)).imp ?_
  rintro q ⟨Q9, rfl, h9⟩
  exact ⟨_, am_r_wp (fun c _ => Nat.beq c 81) (am_k_wp am_k_sub (am_k_id)), h9⟩
theorem c_putLast_1_l {X : Nat × (Nat → Int)} {D : List (Nat × Nat)} {I J : Nat → Nat → Int} {ρ : Nat → Nat → Option Nat} (d : Nat) {z : Int} {L : List Nat} (hz : -10 ≤ z ∧ z ≤ 10) (h3 : I 71 3 = (L.length : Int)) (h6 : L.length ≤ 6) (hx6 : ∀ x ∈ L, x < 6) {k : Nat} {A C : List Nat} (hk : A.length = k) (hlen : A.length + C.length = L.length) (hx7 : ∀ x ∈ C, x < 6) (hrow : am_rowl (I 82) 0 (A ++ C)) (hfin : A ++ sp_bub z C = sp_bub z L) : am_E X d 73 2 [(3, .inl (k : Int)), (2, .inr (.inr (.inl (some 82)))), (1, .inl z), (0, .inr (.inr (.inl (some 71))))] [] (am_mm D I J ρ) (fun q => ∃ Q, q = (none, am_mm D (am_wp (fun c _ => Nat.beq c 82) I Q) J ρ) ∧ am_rowl (Q 82) 0 (sp_bub z L)) := by
  refine am_e_ss 5 (q := (9, [(3, .inl (k : Int)), (2, .inr (.inr (.inl (some 82)))), (1, .inl z), (0, .inr (.inr (.inl (some 71))))], [.inl ((I 71 3)), .inl ((k : Int) + 1)], (am_mm D I J ρ))) rfl ?_
  refine am_e_icmp2 rfl ⟨by omega, by omega⟩ ⟨by omega, by omega⟩ (fun (hw1 : (I 71 3) ≤ ((k : Int) + 1)) => ?_) (fun (hw1 : ¬ ((I 71 3) ≤ ((k : Int) + 1))) => ?_)
  · show am_E _ _ _ 39 [(3, .inl (k : Int)), (2, .inr (.inr (.inl (some 82)))), (1, .inl z), (0, .inr (.inr (.inl (some 71))))] [] (am_mm D I J ρ) _
    refine am_e_return rfl rfl ?_
    rw [sp_bub_s C (by omega)] at hfin
    rw [hfin] at hrow
    exact ⟨I, am_r_wp (fun c _ => Nat.beq c 82) am_k_id, hrow⟩
  · show am_E _ _ _ 12 [(3, .inl (k : Int)), (2, .inr (.inr (.inl (some 82)))), (1, .inl z), (0, .inr (.inr (.inl (some 71))))] [] (am_mm D I J ρ) _
    have hCx : ∃ x r, C = x :: r := by
      match C, hlen with
      | [], h => exact absurd h (by simp; omega)
      | x :: r, _ => exact ⟨x, r, rfl⟩
    obtain ⟨x0, r0, hC0⟩ := hCx
    have hrr : I 82 k = (x0 : Int) := by
      have hr2 := am_rowl_r hrow
      rw [Nat.zero_add, hk, hC0] at hr2
      exact am_rowl_h hr2
    have hx00 := hx7 x0 (by rw [hC0]; exact List.mem_cons_self)
    refine am_e_ss 2 (q := (14, [(3, .inl (k : Int)), (2, .inr (.inr (.inl (some 82)))), (1, .inl z), (0, .inr (.inr (.inl (some 71))))], [.inl (k : Int), .inr (.inr (.inl (some 82)))], (am_mm D I J ρ))) rfl ?_
    refine am_e_iaload (m := 6) rfl rfl (by omega) (by omega) (by omega) ?_
    show am_E _ _ _ 15 [(3, .inl (k : Int)), (2, .inr (.inr (.inl (some 82)))), (1, .inl z), (0, .inr (.inr (.inl (some 71))))] [.inl ((I 82 k))] (am_mm D I J ρ) _
    refine am_e_ss 1 (q := (16, [(3, .inl (k : Int)), (2, .inr (.inr (.inl (some 82)))), (1, .inl z), (0, .inr (.inr (.inl (some 71))))], [.inl z, .inl ((I 82 k))], (am_mm D I J ρ))) rfl ?_
    refine am_e_icmp2 rfl ⟨by omega, by omega⟩ ⟨by omega, by omega⟩ (fun (hw2 : ¬ (I 82 k) = z) => ?_) (fun (hw2 : ¬ (¬ (I 82 k) = z)) => ?_)
    · show am_E _ _ _ 33 [(3, .inl (k : Int)), (2, .inr (.inr (.inl (some 82)))), (1, .inl z), (0, .inr (.inr (.inl (some 71))))] [] (am_mm D I J ρ) _
      refine am_e_ss 2 (q := (2, [(3, .inl ((k : Int) + 1)), (2, .inr (.inr (.inl (some 82)))), (1, .inl z), (0, .inr (.inr (.inl (some 71))))], [], (am_mm D I J ρ))) rfl ?_
      obtain ⟨x, y, r, rfl⟩ : ∃ x y r, C = x :: y :: r := by
        match C, hlen with
        | [], h => exact absurd h (by simp; omega)
        | [x], h => exact absurd h (by simp; omega)
        | x :: y :: r, _ => exact ⟨x, y, r, rfl⟩
      have hr2 := am_rowl_r hrow
      rw [Nat.zero_add, hk] at hr2
      have hx0 := am_rowl_h hr2
      have hy0 := am_rowl_h (am_rowl_t hr2)
      rw [sp_bub_2] at hfin
      rw [List.length_cons, List.length_cons] at hlen
      rw [if_neg (by omega)] at hfin
      refine (am_less (lv := [(3, .inl ((k + 1) : Int)), (2, .inr (.inr (.inl (some 82)))), (1, .inl z), (0, .inr (.inr (.inl (some 71))))]) rfl (List.forall_mem_cons.mpr ⟨rfl, List.forall_mem_cons.mpr ⟨rfl, List.forall_mem_cons.mpr ⟨rfl, List.forall_mem_cons.mpr ⟨rfl, List.forall_mem_nil _⟩⟩⟩⟩) (c_putLast_1_l (I := I) d (A := A ++ [x]) (C := y :: r) (k := k + 1) hz h3 h6 hx6 (by rw [List.length_append, List.length_singleton, hk]) (by rw [List.length_append, List.length_singleton, List.length_cons]; omega) (fun a ha => hx7 a (List.mem_cons_of_mem _ ha)) (by rw [List.append_assoc]; exact hrow) (by rw [List.append_assoc]; exact hfin))).imp ?_
      rintro q ⟨Q9, rfl, h9⟩
      exact ⟨_, am_r_wp (fun c _ => Nat.beq c 82) (am_k_wp am_k_sub (am_k_id)), h9⟩
    · show am_E _ _ _ 19 [(3, .inl (k : Int)), (2, .inr (.inr (.inl (some 82)))), (1, .inl z), (0, .inr (.inr (.inl (some 71))))] [] (am_mm D I J ρ) _
      refine am_e_ss 6 (q := (25, [(3, .inl (k : Int)), (2, .inr (.inr (.inl (some 82)))), (1, .inl z), (0, .inr (.inr (.inl (some 71))))], [.inl ((k : Int) + 1), .inr (.inr (.inl (some 82))), .inl (k : Int), .inr (.inr (.inl (some 82)))], (am_mm D I J ρ))) rfl ?_
      refine am_e_iaload (m := 6) rfl rfl (by omega) (by omega) (by omega) ?_
      show am_E _ _ _ 26 [(3, .inl (k : Int)), (2, .inr (.inr (.inl (some 82)))), (1, .inl z), (0, .inr (.inr (.inl (some 71))))] [.inl ((I 82 (k + 1))), .inl (k : Int), .inr (.inr (.inl (some 82)))] (am_mm D I J ρ) _
      refine am_e_iastore (m := 6) rfl rfl (by omega) (by omega) (by omega) ?_
      show am_E _ _ _ 27 [(3, .inl (k : Int)), (2, .inr (.inr (.inl (some 82)))), (1, .inl z), (0, .inr (.inr (.inl (some 71))))] [] (am_mm D (am_up I 82 k (I 82 (k + 1))) J ρ) _
      refine am_e_ss 5 (q := (32, [(3, .inl (k : Int)), (2, .inr (.inr (.inl (some 82)))), (1, .inl z), (0, .inr (.inr (.inl (some 71))))], [.inl z, .inl ((k : Int) + 1), .inr (.inr (.inl (some 82)))], (am_mm D (am_up I 82 k (I 82 (k + 1))) J ρ))) rfl ?_
      refine am_e_iastore (m := 6) rfl rfl (by omega) (by omega) (by omega) ?_
      show am_E _ _ _ 33 [(3, .inl (k : Int)), (2, .inr (.inr (.inl (some 82)))), (1, .inl z), (0, .inr (.inr (.inl (some 71))))] [] (am_mm D (am_up (am_up I 82 k (I 82 (k + 1))) 82 (k + 1) z) J ρ) _
      refine am_e_ss 2 (q := (2, [(3, .inl ((k : Int) + 1)), (2, .inr (.inr (.inl (some 82)))), (1, .inl z), (0, .inr (.inr (.inl (some 71))))], [], (am_mm D (am_up (am_up I 82 k (I 82 (k + 1))) 82 (k + 1) z) J ρ))) rfl ?_
      obtain ⟨x, y, r, rfl⟩ : ∃ x y r, C = x :: y :: r := by
        match C, hlen with
        | [], h => exact absurd h (by simp; omega)
        | [x], h => exact absurd h (by simp; omega)
        | x :: y :: r, _ => exact ⟨x, y, r, rfl⟩
      have hr2 := am_rowl_r hrow
      rw [Nat.zero_add, hk] at hr2
      have hx0 := am_rowl_h hr2
      have hy0 := am_rowl_h (am_rowl_t hr2)
      rw [sp_bub_2] at hfin
      rw [List.length_cons, List.length_cons] at hlen
      rw [if_pos (by omega)] at hfin
      have e9 : am_rowl ((am_up (am_up I 82 k (I 82 (k + 1))) 82 (k + 1) z) 82) 0 ((A ++ [y]) ++ (x :: r)) := by
        refine am_rowl_app (am_rowl_snoc (am_rowl_cg (am_rowl_l hrow) (fun i hi => (am_up_ne2 (by omega)).trans (am_up_ne2 (by omega)))) ?_) ?_
        · rw [Nat.zero_add, hk]
          exact (am_up_ne2 (by omega)).trans (am_up_at2.trans hy0)
        · rw [List.length_append, List.length_singleton, Nat.zero_add, hk]
          refine am_rowl_c (am_up_at2.trans (by omega)) (am_rowl_cg (am_rowl_t (am_rowl_t hr2)) (fun i hi => (am_up_ne2 (by omega)).trans (am_up_ne2 (by omega))))
      refine (am_less (lv := [(3, .inl ((k + 1) : Int)), (2, .inr (.inr (.inl (some 82)))), (1, .inl z), (0, .inr (.inr (.inl (some 71))))]) rfl (List.forall_mem_cons.mpr ⟨rfl, List.forall_mem_cons.mpr ⟨rfl, List.forall_mem_cons.mpr ⟨rfl, List.forall_mem_cons.mpr ⟨rfl, List.forall_mem_nil _⟩⟩⟩⟩) (c_putLast_1_l (I := am_up (am_up I 82 k (I 82 (k + 1))) 82 (k + 1) z) d (A := A ++ [y]) (C := x :: r) (k := k + 1) hz h3 h6 hx6 (by rw [List.length_append, List.length_singleton, hk]) (by rw [List.length_append, List.length_singleton, List.length_cons]; omega) (fun a ha => hx7 a (by rcases List.mem_cons.mp ha with rfl | ha; exact List.mem_cons_self; exact List.mem_cons_of_mem _ (List.mem_cons_of_mem _ ha))) e9 (by rw [List.append_assoc]; exact hfin))).imp ?_
      rintro q ⟨Q9, rfl, h9⟩
      exact ⟨_, am_r_wp (fun c _ => Nat.beq c 82) (am_k_wp am_k_sub (am_k_up rfl (am_k_up rfl (am_k_id)))), h9⟩
termination_by (L.length - k)
decreasing_by all_goals omega
theorem c_putLast_1 {X : Nat × (Nat → Int)} {D : List (Nat × Nat)} {I J : Nat → Nat → Int} {ρ : Nat → Nat → Option Nat} (d : Nat) {z : Int} {L : List Nat} (hz : -10 ≤ z ∧ z ≤ 10) (h3 : I 71 3 = (L.length : Int)) (h6 : L.length ≤ 6) (hx6 : ∀ x ∈ L, x < 6) (hrow : am_rowl (I 82) 0 L)  : am_E X d 73 0 [(0, .inr (.inr (.inl (some 71)))), (1, .inl z), (2, .inr (.inr (.inl (some 82))))] [] (am_mm D I J ρ) (fun q => ∃ Q, q = (none, am_mm D (am_wp (fun c _ => Nat.beq c 82) I Q) J ρ) ∧ am_rowl (Q 82) 0 (sp_bub z L)) := by
  refine am_e_ss 2 (q := (2, [(3, .inl 0), (0, .inr (.inr (.inl (some 71)))), (1, .inl z), (2, .inr (.inr (.inl (some 82))))], [], (am_mm D I J ρ))) rfl ?_
  refine (am_less (lv := [(3, .inl (0 : Int)), (2, .inr (.inr (.inl (some 82)))), (1, .inl z), (0, .inr (.inr (.inl (some 71))))]) rfl (List.forall_mem_cons.mpr ⟨rfl, List.forall_mem_cons.mpr ⟨rfl, List.forall_mem_cons.mpr ⟨rfl, List.forall_mem_cons.mpr ⟨rfl, List.forall_mem_nil _⟩⟩⟩⟩) (c_putLast_1_l (I := I) d (A := []) (C := L) (k := 0) hz h3 h6 hx6 rfl (by simp) hx6 hrow rfl)).imp ?_
  rintro q ⟨Q9, rfl, h9⟩
  exact ⟨_, am_r_wp (fun c _ => Nat.beq c 82) (am_k_wp am_k_sub (am_k_id)), h9⟩
theorem c_putLast_2_l {X : Nat × (Nat → Int)} {D : List (Nat × Nat)} {I J : Nat → Nat → Int} {ρ : Nat → Nat → Option Nat} (d : Nat) {z : Int} {L : List Nat} (hz : -10 ≤ z ∧ z ≤ 10) (h3 : I 71 3 = (L.length : Int)) (h6 : L.length ≤ 6) (hx6 : ∀ x ∈ L, x < 6) {k : Nat} {A C : List Nat} (hk : A.length = k) (hlen : A.length + C.length = L.length) (hx7 : ∀ x ∈ C, x < 6) (hrow : am_rowl (I 83) 0 (A ++ C)) (hfin : A ++ sp_bub z C = sp_bub z L) : am_E X d 73 2 [(3, .inl (k : Int)), (2, .inr (.inr (.inl (some 83)))), (1, .inl z), (0, .inr (.inr (.inl (some 71))))] [] (am_mm D I J ρ) (fun q => ∃ Q, q = (none, am_mm D (am_wp (fun c _ => Nat.beq c 83) I Q) J ρ) ∧ am_rowl (Q 83) 0 (sp_bub z L)) := by
  refine am_e_ss 5 (q := (9, [(3, .inl (k : Int)), (2, .inr (.inr (.inl (some 83)))), (1, .inl z), (0, .inr (.inr (.inl (some 71))))], [.inl ((I 71 3)), .inl ((k : Int) + 1)], (am_mm D I J ρ))) rfl ?_
  refine am_e_icmp2 rfl ⟨by omega, by omega⟩ ⟨by omega, by omega⟩ (fun (hw1 : (I 71 3) ≤ ((k : Int) + 1)) => ?_) (fun (hw1 : ¬ ((I 71 3) ≤ ((k : Int) + 1))) => ?_)
  · show am_E _ _ _ 39 [(3, .inl (k : Int)), (2, .inr (.inr (.inl (some 83)))), (1, .inl z), (0, .inr (.inr (.inl (some 71))))] [] (am_mm D I J ρ) _
    refine am_e_return rfl rfl ?_
    rw [sp_bub_s C (by omega)] at hfin
    rw [hfin] at hrow
    exact ⟨I, am_r_wp (fun c _ => Nat.beq c 83) am_k_id, hrow⟩
  · show am_E _ _ _ 12 [(3, .inl (k : Int)), (2, .inr (.inr (.inl (some 83)))), (1, .inl z), (0, .inr (.inr (.inl (some 71))))] [] (am_mm D I J ρ) _
    have hCx : ∃ x r, C = x :: r := by
      match C, hlen with
      | [], h => exact absurd h (by simp; omega)
      | x :: r, _ => exact ⟨x, r, rfl⟩
    obtain ⟨x0, r0, hC0⟩ := hCx
    have hrr : I 83 k = (x0 : Int) := by
      have hr2 := am_rowl_r hrow
      rw [Nat.zero_add, hk, hC0] at hr2
      exact am_rowl_h hr2
    have hx00 := hx7 x0 (by rw [hC0]; exact List.mem_cons_self)
    refine am_e_ss 2 (q := (14, [(3, .inl (k : Int)), (2, .inr (.inr (.inl (some 83)))), (1, .inl z), (0, .inr (.inr (.inl (some 71))))], [.inl (k : Int), .inr (.inr (.inl (some 83)))], (am_mm D I J ρ))) rfl ?_
    refine am_e_iaload (m := 6) rfl rfl (by omega) (by omega) (by omega) ?_
    show am_E _ _ _ 15 [(3, .inl (k : Int)), (2, .inr (.inr (.inl (some 83)))), (1, .inl z), (0, .inr (.inr (.inl (some 71))))] [.inl ((I 83 k))] (am_mm D I J ρ) _
    refine am_e_ss 1 (q := (16, [(3, .inl (k : Int)), (2, .inr (.inr (.inl (some 83)))), (1, .inl z), (0, .inr (.inr (.inl (some 71))))], [.inl z, .inl ((I 83 k))], (am_mm D I J ρ))) rfl ?_
    refine am_e_icmp2 rfl ⟨by omega, by omega⟩ ⟨by omega, by omega⟩ (fun (hw2 : ¬ (I 83 k) = z) => ?_) (fun (hw2 : ¬ (¬ (I 83 k) = z)) => ?_)
    · show am_E _ _ _ 33 [(3, .inl (k : Int)), (2, .inr (.inr (.inl (some 83)))), (1, .inl z), (0, .inr (.inr (.inl (some 71))))] [] (am_mm D I J ρ) _
      refine am_e_ss 2 (q := (2, [(3, .inl ((k : Int) + 1)), (2, .inr (.inr (.inl (some 83)))), (1, .inl z), (0, .inr (.inr (.inl (some 71))))], [], (am_mm D I J ρ))) rfl ?_
      obtain ⟨x, y, r, rfl⟩ : ∃ x y r, C = x :: y :: r := by
        match C, hlen with
        | [], h => exact absurd h (by simp; omega)
        | [x], h => exact absurd h (by simp; omega)
        | x :: y :: r, _ => exact ⟨x, y, r, rfl⟩
      have hr2 := am_rowl_r hrow
      rw [Nat.zero_add, hk] at hr2
      have hx0 := am_rowl_h hr2
      have hy0 := am_rowl_h (am_rowl_t hr2)
      rw [sp_bub_2] at hfin
      rw [List.length_cons, List.length_cons] at hlen
      rw [if_neg (by omega)] at hfin
      refine (am_less (lv := [(3, .inl ((k + 1) : Int)), (2, .inr (.inr (.inl (some 83)))), (1, .inl z), (0, .inr (.inr (.inl (some 71))))]) rfl (List.forall_mem_cons.mpr ⟨rfl, List.forall_mem_cons.mpr ⟨rfl, List.forall_mem_cons.mpr ⟨rfl, List.forall_mem_cons.mpr ⟨rfl, List.forall_mem_nil _⟩⟩⟩⟩) (c_putLast_2_l (I := I) d (A := A ++ [x]) (C := y :: r) (k := k + 1) hz h3 h6 hx6 (by rw [List.length_append, List.length_singleton, hk]) (by rw [List.length_append, List.length_singleton, List.length_cons]; omega) (fun a ha => hx7 a (List.mem_cons_of_mem _ ha)) (by rw [List.append_assoc]; exact hrow) (by rw [List.append_assoc]; exact hfin))).imp ?_
      rintro q ⟨Q9, rfl, h9⟩
      exact ⟨_, am_r_wp (fun c _ => Nat.beq c 83) (am_k_wp am_k_sub (am_k_id)), h9⟩
    · show am_E _ _ _ 19 [(3, .inl (k : Int)), (2, .inr (.inr (.inl (some 83)))), (1, .inl z), (0, .inr (.inr (.inl (some 71))))] [] (am_mm D I J ρ) _
      refine am_e_ss 6 (q := (25, [(3, .inl (k : Int)), (2, .inr (.inr (.inl (some 83)))), (1, .inl z), (0, .inr (.inr (.inl (some 71))))], [.inl ((k : Int) + 1), .inr (.inr (.inl (some 83))), .inl (k : Int), .inr (.inr (.inl (some 83)))], (am_mm D I J ρ))) rfl ?_
      refine am_e_iaload (m := 6) rfl rfl (by omega) (by omega) (by omega) ?_
      show am_E _ _ _ 26 [(3, .inl (k : Int)), (2, .inr (.inr (.inl (some 83)))), (1, .inl z), (0, .inr (.inr (.inl (some 71))))] [.inl ((I 83 (k + 1))), .inl (k : Int), .inr (.inr (.inl (some 83)))] (am_mm D I J ρ) _
      refine am_e_iastore (m := 6) rfl rfl (by omega) (by omega) (by omega) ?_
      show am_E _ _ _ 27 [(3, .inl (k : Int)), (2, .inr (.inr (.inl (some 83)))), (1, .inl z), (0, .inr (.inr (.inl (some 71))))] [] (am_mm D (am_up I 83 k (I 83 (k + 1))) J ρ) _
      refine am_e_ss 5 (q := (32, [(3, .inl (k : Int)), (2, .inr (.inr (.inl (some 83)))), (1, .inl z), (0, .inr (.inr (.inl (some 71))))], [.inl z, .inl ((k : Int) + 1), .inr (.inr (.inl (some 83)))], (am_mm D (am_up I 83 k (I 83 (k + 1))) J ρ))) rfl ?_
      refine am_e_iastore (m := 6) rfl rfl (by omega) (by omega) (by omega) ?_
      show am_E _ _ _ 33 [(3, .inl (k : Int)), (2, .inr (.inr (.inl (some 83)))), (1, .inl z), (0, .inr (.inr (.inl (some 71))))] [] (am_mm D (am_up (am_up I 83 k (I 83 (k + 1))) 83 (k + 1) z) J ρ) _
      refine am_e_ss 2 (q := (2, [(3, .inl ((k : Int) + 1)), (2, .inr (.inr (.inl (some 83)))), (1, .inl z), (0, .inr (.inr (.inl (some 71))))], [], (am_mm D (am_up (am_up I 83 k (I 83 (k + 1))) 83 (k + 1) z) J ρ))) rfl ?_
      obtain ⟨x, y, r, rfl⟩ : ∃ x y r, C = x :: y :: r := by
        match C, hlen with
        | [], h => exact absurd h (by simp; omega)
        | [x], h => exact absurd h (by simp; omega)
        | x :: y :: r, _ => exact ⟨x, y, r, rfl⟩
      have hr2 := am_rowl_r hrow
      rw [Nat.zero_add, hk] at hr2
      have hx0 := am_rowl_h hr2
      have hy0 := am_rowl_h (am_rowl_t hr2)
      rw [sp_bub_2] at hfin
      rw [List.length_cons, List.length_cons] at hlen
      rw [if_pos (by omega)] at hfin
      have e9 : am_rowl ((am_up (am_up I 83 k (I 83 (k + 1))) 83 (k + 1) z) 83) 0 ((A ++ [y]) ++ (x :: r)) := by
        refine am_rowl_app (am_rowl_snoc (am_rowl_cg (am_rowl_l hrow) (fun i hi => (am_up_ne2 (by omega)).trans (am_up_ne2 (by omega)))) ?_) ?_
        · rw [Nat.zero_add, hk]
          exact (am_up_ne2 (by omega)).trans (am_up_at2.trans hy0)
        · rw [List.length_append, List.length_singleton, Nat.zero_add, hk]
          refine am_rowl_c (am_up_at2.trans (by omega)) (am_rowl_cg (am_rowl_t (am_rowl_t hr2)) (fun i hi => (am_up_ne2 (by omega)).trans (am_up_ne2 (by omega))))
      refine (am_less (lv := [(3, .inl ((k + 1) : Int)), (2, .inr (.inr (.inl (some 83)))), (1, .inl z), (0, .inr (.inr (.inl (some 71))))]) rfl (List.forall_mem_cons.mpr ⟨rfl, List.forall_mem_cons.mpr ⟨rfl, List.forall_mem_cons.mpr ⟨rfl, List.forall_mem_cons.mpr ⟨rfl, List.forall_mem_nil _⟩⟩⟩⟩) (c_putLast_2_l (I := am_up (am_up I 83 k (I 83 (k + 1))) 83 (k + 1) z) d (A := A ++ [y]) (C := x :: r) (k := k + 1) hz h3 h6 hx6 (by rw [List.length_append, List.length_singleton, hk]) (by rw [List.length_append, List.length_singleton, List.length_cons]; omega) (fun a ha => hx7 a (by rcases List.mem_cons.mp ha with rfl | ha; exact List.mem_cons_self; exact List.mem_cons_of_mem _ (List.mem_cons_of_mem _ ha))) e9 (by rw [List.append_assoc]; exact hfin))).imp ?_
      rintro q ⟨Q9, rfl, h9⟩
      exact ⟨_, am_r_wp (fun c _ => Nat.beq c 83) (am_k_wp am_k_sub (am_k_up rfl (am_k_up rfl (am_k_id)))), h9⟩
termination_by (L.length - k)
decreasing_by all_goals omega
theorem c_putLast_2 {X : Nat × (Nat → Int)} {D : List (Nat × Nat)} {I J : Nat → Nat → Int} {ρ : Nat → Nat → Option Nat} (d : Nat) {z : Int} {L : List Nat} (hz : -10 ≤ z ∧ z ≤ 10) (h3 : I 71 3 = (L.length : Int)) (h6 : L.length ≤ 6) (hx6 : ∀ x ∈ L, x < 6) (hrow : am_rowl (I 83) 0 L)  : am_E X d 73 0 [(0, .inr (.inr (.inl (some 71)))), (1, .inl z), (2, .inr (.inr (.inl (some 83))))] [] (am_mm D I J ρ) (fun q => ∃ Q, q = (none, am_mm D (am_wp (fun c _ => Nat.beq c 83) I Q) J ρ) ∧ am_rowl (Q 83) 0 (sp_bub z L)) := by
  refine am_e_ss 2 (q := (2, [(3, .inl 0), (0, .inr (.inr (.inl (some 71)))), (1, .inl z), (2, .inr (.inr (.inl (some 83))))], [], (am_mm D I J ρ))) rfl ?_
  refine (am_less (lv := [(3, .inl (0 : Int)), (2, .inr (.inr (.inl (some 83)))), (1, .inl z), (0, .inr (.inr (.inl (some 71))))]) rfl (List.forall_mem_cons.mpr ⟨rfl, List.forall_mem_cons.mpr ⟨rfl, List.forall_mem_cons.mpr ⟨rfl, List.forall_mem_cons.mpr ⟨rfl, List.forall_mem_nil _⟩⟩⟩⟩) (c_putLast_2_l (I := I) d (A := []) (C := L) (k := 0) hz h3 h6 hx6 rfl (by simp) hx6 hrow rfl)).imp ?_
  rintro q ⟨Q9, rfl, h9⟩
  exact ⟨_, am_r_wp (fun c _ => Nat.beq c 83) (am_k_wp am_k_sub (am_k_id)), h9⟩
theorem c_putLast_3_l {X : Nat × (Nat → Int)} {D : List (Nat × Nat)} {I J : Nat → Nat → Int} {ρ : Nat → Nat → Option Nat} (d : Nat) {z : Int} {L : List Nat} (hz : -10 ≤ z ∧ z ≤ 10) (h3 : I 71 3 = (L.length : Int)) (h6 : L.length ≤ 6) (hx6 : ∀ x ∈ L, x < 6) {k : Nat} {A C : List Nat} (hk : A.length = k) (hlen : A.length + C.length = L.length) (hx7 : ∀ x ∈ C, x < 6) (hrow : am_rowl (I 84) 0 (A ++ C)) (hfin : A ++ sp_bub z C = sp_bub z L) : am_E X d 73 2 [(3, .inl (k : Int)), (2, .inr (.inr (.inl (some 84)))), (1, .inl z), (0, .inr (.inr (.inl (some 71))))] [] (am_mm D I J ρ) (fun q => ∃ Q, q = (none, am_mm D (am_wp (fun c _ => Nat.beq c 84) I Q) J ρ) ∧ am_rowl (Q 84) 0 (sp_bub z L)) := by
  refine am_e_ss 5 (q := (9, [(3, .inl (k : Int)), (2, .inr (.inr (.inl (some 84)))), (1, .inl z), (0, .inr (.inr (.inl (some 71))))], [.inl ((I 71 3)), .inl ((k : Int) + 1)], (am_mm D I J ρ))) rfl ?_
  refine am_e_icmp2 rfl ⟨by omega, by omega⟩ ⟨by omega, by omega⟩ (fun (hw1 : (I 71 3) ≤ ((k : Int) + 1)) => ?_) (fun (hw1 : ¬ ((I 71 3) ≤ ((k : Int) + 1))) => ?_)
  · show am_E _ _ _ 39 [(3, .inl (k : Int)), (2, .inr (.inr (.inl (some 84)))), (1, .inl z), (0, .inr (.inr (.inl (some 71))))] [] (am_mm D I J ρ) _
    refine am_e_return rfl rfl ?_
    rw [sp_bub_s C (by omega)] at hfin
    rw [hfin] at hrow
    exact ⟨I, am_r_wp (fun c _ => Nat.beq c 84) am_k_id, hrow⟩
  · show am_E _ _ _ 12 [(3, .inl (k : Int)), (2, .inr (.inr (.inl (some 84)))), (1, .inl z), (0, .inr (.inr (.inl (some 71))))] [] (am_mm D I J ρ) _
    have hCx : ∃ x r, C = x :: r := by
      match C, hlen with
      | [], h => exact absurd h (by simp; omega)
      | x :: r, _ => exact ⟨x, r, rfl⟩
    obtain ⟨x0, r0, hC0⟩ := hCx
    have hrr : I 84 k = (x0 : Int) := by
      have hr2 := am_rowl_r hrow
      rw [Nat.zero_add, hk, hC0] at hr2
      exact am_rowl_h hr2
    have hx00 := hx7 x0 (by rw [hC0]; exact List.mem_cons_self)
    refine am_e_ss 2 (q := (14, [(3, .inl (k : Int)), (2, .inr (.inr (.inl (some 84)))), (1, .inl z), (0, .inr (.inr (.inl (some 71))))], [.inl (k : Int), .inr (.inr (.inl (some 84)))], (am_mm D I J ρ))) rfl ?_
    refine am_e_iaload (m := 6) rfl rfl (by omega) (by omega) (by omega) ?_
    show am_E _ _ _ 15 [(3, .inl (k : Int)), (2, .inr (.inr (.inl (some 84)))), (1, .inl z), (0, .inr (.inr (.inl (some 71))))] [.inl ((I 84 k))] (am_mm D I J ρ) _
    refine am_e_ss 1 (q := (16, [(3, .inl (k : Int)), (2, .inr (.inr (.inl (some 84)))), (1, .inl z), (0, .inr (.inr (.inl (some 71))))], [.inl z, .inl ((I 84 k))], (am_mm D I J ρ))) rfl ?_
    refine am_e_icmp2 rfl ⟨by omega, by omega⟩ ⟨by omega, by omega⟩ (fun (hw2 : ¬ (I 84 k) = z) => ?_) (fun (hw2 : ¬ (¬ (I 84 k) = z)) => ?_)
    · show am_E _ _ _ 33 [(3, .inl (k : Int)), (2, .inr (.inr (.inl (some 84)))), (1, .inl z), (0, .inr (.inr (.inl (some 71))))] [] (am_mm D I J ρ) _
      refine am_e_ss 2 (q := (2, [(3, .inl ((k : Int) + 1)), (2, .inr (.inr (.inl (some 84)))), (1, .inl z), (0, .inr (.inr (.inl (some 71))))], [], (am_mm D I J ρ))) rfl ?_
      obtain ⟨x, y, r, rfl⟩ : ∃ x y r, C = x :: y :: r := by
        match C, hlen with
        | [], h => exact absurd h (by simp; omega)
        | [x], h => exact absurd h (by simp; omega)
        | x :: y :: r, _ => exact ⟨x, y, r, rfl⟩
      have hr2 := am_rowl_r hrow
      rw [Nat.zero_add, hk] at hr2
      have hx0 := am_rowl_h hr2
      have hy0 := am_rowl_h (am_rowl_t hr2)
      rw [sp_bub_2] at hfin
      rw [List.length_cons, List.length_cons] at hlen
      rw [if_neg (by omega)] at hfin
      refine (am_less (lv := [(3, .inl ((k + 1) : Int)), (2, .inr (.inr (.inl (some 84)))), (1, .inl z), (0, .inr (.inr (.inl (some 71))))]) rfl (List.forall_mem_cons.mpr ⟨rfl, List.forall_mem_cons.mpr ⟨rfl, List.forall_mem_cons.mpr ⟨rfl, List.forall_mem_cons.mpr ⟨rfl, List.forall_mem_nil _⟩⟩⟩⟩) (c_putLast_3_l (I := I) d (A := A ++ [x]) (C := y :: r) (k := k + 1) hz h3 h6 hx6 (by rw [List.length_append, List.length_singleton, hk]) (by rw [List.length_append, List.length_singleton, List.length_cons]; omega) (fun a ha => hx7 a (List.mem_cons_of_mem _ ha)) (by rw [List.append_assoc]; exact hrow) (by rw [List.append_assoc]; exact hfin))).imp ?_
      rintro q ⟨Q9, rfl, h9⟩
      exact ⟨_, am_r_wp (fun c _ => Nat.beq c 84) (am_k_wp am_k_sub (am_k_id)), h9⟩
    · show am_E _ _ _ 19 [(3, .inl (k : Int)), (2, .inr (.inr (.inl (some 84)))), (1, .inl z), (0, .inr (.inr (.inl (some 71))))] [] (am_mm D I J ρ) _
      refine am_e_ss 6 (q := (25, [(3, .inl (k : Int)), (2, .inr (.inr (.inl (some 84)))), (1, .inl z), (0, .inr (.inr (.inl (some 71))))], [.inl ((k : Int) + 1), .inr (.inr (.inl (some 84))), .inl (k : Int), .inr (.inr (.inl (some 84)))], (am_mm D I J ρ))) rfl ?_
      refine am_e_iaload (m := 6) rfl rfl (by omega) (by omega) (by omega) ?_
      show am_E _ _ _ 26 [(3, .inl (k : Int)), (2, .inr (.inr (.inl (some 84)))), (1, .inl z), (0, .inr (.inr (.inl (some 71))))] [.inl ((I 84 (k + 1))), .inl (k : Int), .inr (.inr (.inl (some 84)))] (am_mm D I J ρ) _
      refine am_e_iastore (m := 6) rfl rfl (by omega) (by omega) (by omega) ?_
      show am_E _ _ _ 27 [(3, .inl (k : Int)), (2, .inr (.inr (.inl (some 84)))), (1, .inl z), (0, .inr (.inr (.inl (some 71))))] [] (am_mm D (am_up I 84 k (I 84 (k + 1))) J ρ) _
      refine am_e_ss 5 (q := (32, [(3, .inl (k : Int)), (2, .inr (.inr (.inl (some 84)))), (1, .inl z), (0, .inr (.inr (.inl (some 71))))], [.inl z, .inl ((k : Int) + 1), .inr (.inr (.inl (some 84)))], (am_mm D (am_up I 84 k (I 84 (k + 1))) J ρ))) rfl ?_
      refine am_e_iastore (m := 6) rfl rfl (by omega) (by omega) (by omega) ?_
      show am_E _ _ _ 33 [(3, .inl (k : Int)), (2, .inr (.inr (.inl (some 84)))), (1, .inl z), (0, .inr (.inr (.inl (some 71))))] [] (am_mm D (am_up (am_up I 84 k (I 84 (k + 1))) 84 (k + 1) z) J ρ) _
      refine am_e_ss 2 (q := (2, [(3, .inl ((k : Int) + 1)), (2, .inr (.inr (.inl (some 84)))), (1, .inl z), (0, .inr (.inr (.inl (some 71))))], [], (am_mm D (am_up (am_up I 84 k (I 84 (k + 1))) 84 (k + 1) z) J ρ))) rfl ?_
      obtain ⟨x, y, r, rfl⟩ : ∃ x y r, C = x :: y :: r := by
        match C, hlen with
        | [], h => exact absurd h (by simp; omega)
        | [x], h => exact absurd h (by simp; omega)
        | x :: y :: r, _ => exact ⟨x, y, r, rfl⟩
      have hr2 := am_rowl_r hrow
      rw [Nat.zero_add, hk] at hr2
      have hx0 := am_rowl_h hr2
      have hy0 := am_rowl_h (am_rowl_t hr2)
      rw [sp_bub_2] at hfin
      rw [List.length_cons, List.length_cons] at hlen
      rw [if_pos (by omega)] at hfin
      have e9 : am_rowl ((am_up (am_up I 84 k (I 84 (k + 1))) 84 (k + 1) z) 84) 0 ((A ++ [y]) ++ (x :: r)) := by
        refine am_rowl_app (am_rowl_snoc (am_rowl_cg (am_rowl_l hrow) (fun i hi => (am_up_ne2 (by omega)).trans (am_up_ne2 (by omega)))) ?_) ?_
        · rw [Nat.zero_add, hk]
          exact (am_up_ne2 (by omega)).trans (am_up_at2.trans hy0)
        · rw [List.length_append, List.length_singleton, Nat.zero_add, hk]
          refine am_rowl_c (am_up_at2.trans (by omega)) (am_rowl_cg (am_rowl_t (am_rowl_t hr2)) (fun i hi => (am_up_ne2 (by omega)).trans (am_up_ne2 (by omega))))
      refine (am_less (lv := [(3, .inl ((k + 1) : Int)), (2, .inr (.inr (.inl (some 84)))), (1, .inl z), (0, .inr (.inr (.inl (some 71))))]) rfl (List.forall_mem_cons.mpr ⟨rfl, List.forall_mem_cons.mpr ⟨rfl, List.forall_mem_cons.mpr ⟨rfl, List.forall_mem_cons.mpr ⟨rfl, List.forall_mem_nil _⟩⟩⟩⟩) (c_putLast_3_l (I := am_up (am_up I 84 k (I 84 (k + 1))) 84 (k + 1) z) d (A := A ++ [y]) (C := x :: r) (k := k + 1) hz h3 h6 hx6 (by rw [List.length_append, List.length_singleton, hk]) (by rw [List.length_append, List.length_singleton, List.length_cons]; omega) (fun a ha => hx7 a (by rcases List.mem_cons.mp ha with rfl | ha; exact List.mem_cons_self; exact List.mem_cons_of_mem _ (List.mem_cons_of_mem _ ha))) e9 (by rw [List.append_assoc]; exact hfin))).imp ?_
      rintro q ⟨Q9, rfl, h9⟩
      exact ⟨_, am_r_wp (fun c _ => Nat.beq c 84) (am_k_wp am_k_sub (am_k_up rfl (am_k_up rfl (am_k_id)))), h9⟩
termination_by (L.length - k)
decreasing_by all_goals omega
theorem c_putLast_3 {X : Nat × (Nat → Int)} {D : List (Nat × Nat)} {I J : Nat → Nat → Int} {ρ : Nat → Nat → Option Nat} (d : Nat) {z : Int} {L : List Nat} (hz : -10 ≤ z ∧ z ≤ 10) (h3 : I 71 3 = (L.length : Int)) (h6 : L.length ≤ 6) (hx6 : ∀ x ∈ L, x < 6) (hrow : am_rowl (I 84) 0 L)  : am_E X d 73 0 [(0, .inr (.inr (.inl (some 71)))), (1, .inl z), (2, .inr (.inr (.inl (some 84))))] [] (am_mm D I J ρ) (fun q => ∃ Q, q = (none, am_mm D (am_wp (fun c _ => Nat.beq c 84) I Q) J ρ) ∧ am_rowl (Q 84) 0 (sp_bub z L)) := by
  refine am_e_ss 2 (q := (2, [(3, .inl 0), (0, .inr (.inr (.inl (some 71)))), (1, .inl z), (2, .inr (.inr (.inl (some 84))))], [], (am_mm D I J ρ))) rfl ?_
  refine (am_less (lv := [(3, .inl (0 : Int)), (2, .inr (.inr (.inl (some 84)))), (1, .inl z), (0, .inr (.inr (.inl (some 71))))]) rfl (List.forall_mem_cons.mpr ⟨rfl, List.forall_mem_cons.mpr ⟨rfl, List.forall_mem_cons.mpr ⟨rfl, List.forall_mem_cons.mpr ⟨rfl, List.forall_mem_nil _⟩⟩⟩⟩) (c_putLast_3_l (I := I) d (A := []) (C := L) (k := 0) hz h3 h6 hx6 rfl (by simp) hx6 hrow rfl)).imp ?_
  rintro q ⟨Q9, rfl, h9⟩
  exact ⟨_, am_r_wp (fun c _ => Nat.beq c 84) (am_k_wp am_k_sub (am_k_id)), h9⟩
theorem c_putLast_4_l {X : Nat × (Nat → Int)} {D : List (Nat × Nat)} {I J : Nat → Nat → Int} {ρ : Nat → Nat → Option Nat} (d : Nat) {z : Int} {L : List Nat} (hz : -10 ≤ z ∧ z ≤ 10) (h3 : I 71 3 = (L.length : Int)) (h6 : L.length ≤ 6) (hx6 : ∀ x ∈ L, x < 6) {k : Nat} {A C : List Nat} (hk : A.length = k) (hlen : A.length + C.length = L.length) (hx7 : ∀ x ∈ C, x < 6) (hrow : am_rowl (I 85) 0 (A ++ C)) (hfin : A ++ sp_bub z C = sp_bub z L) : am_E X d 73 2 [(3, .inl (k : Int)), (2, .inr (.inr (.inl (some 85)))), (1, .inl z), (0, .inr (.inr (.inl (some 71))))] [] (am_mm D I J ρ) (fun q => ∃ Q, q = (none, am_mm D (am_wp (fun c _ => Nat.beq c 85) I Q) J ρ) ∧ am_rowl (Q 85) 0 (sp_bub z L)) := by
  refine am_e_ss 5 (q := (9, [(3, .inl (k : Int)), (2, .inr (.inr (.inl (some 85)))), (1, .inl z), (0, .inr (.inr (.inl (some 71))))], [.inl ((I 71 3)), .inl ((k : Int) + 1)], (am_mm D I J ρ))) rfl ?_
  refine am_e_icmp2 rfl ⟨by omega, by omega⟩ ⟨by omega, by omega⟩ (fun (hw1 : (I 71 3) ≤ ((k : Int) + 1)) => ?_) (fun (hw1 : ¬ ((I 71 3) ≤ ((k : Int) + 1))) => ?_)
  · show am_E _ _ _ 39 [(3, .inl (k : Int)), (2, .inr (.inr (.inl (some 85)))), (1, .inl z), (0, .inr (.inr (.inl (some 71))))] [] (am_mm D I J ρ) _
    refine am_e_return rfl rfl ?_
    rw [sp_bub_s C (by omega)] at hfin
    rw [hfin] at hrow
    exact ⟨I, am_r_wp (fun c _ => Nat.beq c 85) am_k_id, hrow⟩
  · show am_E _ _ _ 12 [(3, .inl (k : Int)), (2, .inr (.inr (.inl (some 85)))), (1, .inl z), (0, .inr (.inr (.inl (some 71))))] [] (am_mm D I J ρ) _
    have hCx : ∃ x r, C = x :: r := by
      match C, hlen with
      | [], h => exact absurd h (by simp; omega)
      | x :: r, _ => exact ⟨x, r, rfl⟩
    obtain ⟨x0, r0, hC0⟩ := hCx
    have hrr : I 85 k = (x0 : Int) := by
      have hr2 := am_rowl_r hrow
      rw [Nat.zero_add, hk, hC0] at hr2
      exact am_rowl_h hr2
    have hx00 := hx7 x0 (by rw [hC0]; exact List.mem_cons_self)
    refine am_e_ss 2 (q := (14, [(3, .inl (k : Int)), (2, .inr (.inr (.inl (some 85)))), (1, .inl z), (0, .inr (.inr (.inl (some 71))))], [.inl (k : Int), .inr (.inr (.inl (some 85)))], (am_mm D I J ρ))) rfl ?_
    refine am_e_iaload (m := 6) rfl rfl (by omega) (by omega) (by omega) ?_
    show am_E _ _ _ 15 [(3, .inl (k : Int)), (2, .inr (.inr (.inl (some 85)))), (1, .inl z), (0, .inr (.inr (.inl (some 71))))] [.inl ((I 85 k))] (am_mm D I J ρ) _
    refine am_e_ss 1 (q := (16, [(3, .inl (k : Int)), (2, .inr (.inr (.inl (some 85)))), (1, .inl z), (0, .inr (.inr (.inl (some 71))))], [.inl z, .inl ((I 85 k))], (am_mm D I J ρ))) rfl ?_
    refine am_e_icmp2 rfl ⟨by omega, by omega⟩ ⟨by omega, by omega⟩ (fun (hw2 : ¬ (I 85 k) = z) => ?_) (fun (hw2 : ¬ (¬ (I 85 k) = z)) => ?_)
    · show am_E _ _ _ 33 [(3, .inl (k : Int)), (2, .inr (.inr (.inl (some 85)))), (1, .inl z), (0, .inr (.inr (.inl (some 71))))] [] (am_mm D I J ρ) _
      refine am_e_ss 2 (q := (2, [(3, .inl ((k : Int) + 1)), (2, .inr (.inr (.inl (some 85)))), (1, .inl z), (0, .inr (.inr (.inl (some 71))))], [], (am_mm D I J ρ))) rfl ?_
      obtain ⟨x, y, r, rfl⟩ : ∃ x y r, C = x :: y :: r := by
        match C, hlen with
        | [], h => exact absurd h (by simp; omega)
        | [x], h => exact absurd h (by simp; omega)
        | x :: y :: r, _ => exact ⟨x, y, r, rfl⟩
      have hr2 := am_rowl_r hrow
      rw [Nat.zero_add, hk] at hr2
      have hx0 := am_rowl_h hr2
      have hy0 := am_rowl_h (am_rowl_t hr2)
      rw [sp_bub_2] at hfin
      rw [List.length_cons, List.length_cons] at hlen
      rw [if_neg (by omega)] at hfin
      refine (am_less (lv := [(3, .inl ((k + 1) : Int)), (2, .inr (.inr (.inl (some 85)))), (1, .inl z), (0, .inr (.inr (.inl (some 71))))]) rfl (List.forall_mem_cons.mpr ⟨rfl, List.forall_mem_cons.mpr ⟨rfl, List.forall_mem_cons.mpr ⟨rfl, List.forall_mem_cons.mpr ⟨rfl, List.forall_mem_nil _⟩⟩⟩⟩) (c_putLast_4_l (I := I) d (A := A ++ [x]) (C := y :: r) (k := k + 1) hz h3 h6 hx6 (by rw [List.length_append, List.length_singleton, hk]) (by rw [List.length_append, List.length_singleton, List.length_cons]; omega) (fun a ha => hx7 a (List.mem_cons_of_mem _ ha)) (by rw [List.append_assoc]; exact hrow) (by rw [List.append_assoc]; exact hfin))).imp ?_
      rintro q ⟨Q9, rfl, h9⟩
      exact ⟨_, am_r_wp (fun c _ => Nat.beq c 85) (am_k_wp am_k_sub (am_k_id)), h9⟩
    · show am_E _ _ _ 19 [(3, .inl (k : Int)), (2, .inr (.inr (.inl (some 85)))), (1, .inl z), (0, .inr (.inr (.inl (some 71))))] [] (am_mm D I J ρ) _
      refine am_e_ss 6 (q := (25, [(3, .inl (k : Int)), (2, .inr (.inr (.inl (some 85)))), (1, .inl z), (0, .inr (.inr (.inl (some 71))))], [.inl ((k : Int) + 1), .inr (.inr (.inl (some 85))), .inl (k : Int), .inr (.inr (.inl (some 85)))], (am_mm D I J ρ))) rfl ?_
      refine am_e_iaload (m := 6) rfl rfl (by omega) (by omega) (by omega) ?_
      show am_E _ _ _ 26 [(3, .inl (k : Int)), (2, .inr (.inr (.inl (some 85)))), (1, .inl z), (0, .inr (.inr (.inl (some 71))))] [.inl ((I 85 (k + 1))), .inl (k : Int), .inr (.inr (.inl (some 85)))] (am_mm D I J ρ) _
      refine am_e_iastore (m := 6) rfl rfl (by omega) (by omega) (by omega) ?_
      show am_E _ _ _ 27 [(3, .inl (k : Int)), (2, .inr (.inr (.inl (some 85)))), (1, .inl z), (0, .inr (.inr (.inl (some 71))))] [] (am_mm D (am_up I 85 k (I 85 (k + 1))) J ρ) _
      refine am_e_ss 5 (q := (32, [(3, .inl (k : Int)), (2, .inr (.inr (.inl (some 85)))), (1, .inl z), (0, .inr (.inr (.inl (some 71))))], [.inl z, .inl ((k : Int) + 1), .inr (.inr (.inl (some 85)))], (am_mm D (am_up I 85 k (I 85 (k + 1))) J ρ))) rfl ?_
      refine am_e_iastore (m := 6) rfl rfl (by omega) (by omega) (by omega) ?_
      show am_E _ _ _ 33 [(3, .inl (k : Int)), (2, .inr (.inr (.inl (some 85)))), (1, .inl z), (0, .inr (.inr (.inl (some 71))))] [] (am_mm D (am_up (am_up I 85 k (I 85 (k + 1))) 85 (k + 1) z) J ρ) _
      refine am_e_ss 2 (q := (2, [(3, .inl ((k : Int) + 1)), (2, .inr (.inr (.inl (some 85)))), (1, .inl z), (0, .inr (.inr (.inl (some 71))))], [], (am_mm D (am_up (am_up I 85 k (I 85 (k + 1))) 85 (k + 1) z) J ρ))) rfl ?_
      obtain ⟨x, y, r, rfl⟩ : ∃ x y r, C = x :: y :: r := by
        match C, hlen with
        | [], h => exact absurd h (by simp; omega)
        | [x], h => exact absurd h (by simp; omega)
        | x :: y :: r, _ => exact ⟨x, y, r, rfl⟩
      have hr2 := am_rowl_r hrow
      rw [Nat.zero_add, hk] at hr2
      have hx0 := am_rowl_h hr2
      have hy0 := am_rowl_h (am_rowl_t hr2)
      rw [sp_bub_2] at hfin
      rw [List.length_cons, List.length_cons] at hlen
      rw [if_pos (by omega)] at hfin
      have e9 : am_rowl ((am_up (am_up I 85 k (I 85 (k + 1))) 85 (k + 1) z) 85) 0 ((A ++ [y]) ++ (x :: r)) := by
        refine am_rowl_app (am_rowl_snoc (am_rowl_cg (am_rowl_l hrow) (fun i hi => (am_up_ne2 (by omega)).trans (am_up_ne2 (by omega)))) ?_) ?_
        · rw [Nat.zero_add, hk]
          exact (am_up_ne2 (by omega)).trans (am_up_at2.trans hy0)
        · rw [List.length_append, List.length_singleton, Nat.zero_add, hk]
          refine am_rowl_c (am_up_at2.trans (by omega)) (am_rowl_cg (am_rowl_t (am_rowl_t hr2)) (fun i hi => (am_up_ne2 (by omega)).trans (am_up_ne2 (by omega))))
      refine (am_less (lv := [(3, .inl ((k + 1) : Int)), (2, .inr (.inr (.inl (some 85)))), (1, .inl z), (0, .inr (.inr (.inl (some 71))))]) rfl (List.forall_mem_cons.mpr ⟨rfl, List.forall_mem_cons.mpr ⟨rfl, List.forall_mem_cons.mpr ⟨rfl, List.forall_mem_cons.mpr ⟨rfl, List.forall_mem_nil _⟩⟩⟩⟩) (c_putLast_4_l (I := am_up (am_up I 85 k (I 85 (k + 1))) 85 (k + 1) z) d (A := A ++ [y]) (C := x :: r) (k := k + 1) hz h3 h6 hx6 (by rw [List.length_append, List.length_singleton, hk]) (by rw [List.length_append, List.length_singleton, List.length_cons]; omega) (fun a ha => hx7 a (by rcases List.mem_cons.mp ha with rfl | ha; exact List.mem_cons_self; exact List.mem_cons_of_mem _ (List.mem_cons_of_mem _ ha))) e9 (by rw [List.append_assoc]; exact hfin))).imp ?_
      rintro q ⟨Q9, rfl, h9⟩
      exact ⟨_, am_r_wp (fun c _ => Nat.beq c 85) (am_k_wp am_k_sub (am_k_up rfl (am_k_up rfl (am_k_id)))), h9⟩
termination_by (L.length - k)
decreasing_by all_goals omega
theorem c_putLast_4 {X : Nat × (Nat → Int)} {D : List (Nat × Nat)} {I J : Nat → Nat → Int} {ρ : Nat → Nat → Option Nat} (d : Nat) {z : Int} {L : List Nat} (hz : -10 ≤ z ∧ z ≤ 10) (h3 : I 71 3 = (L.length : Int)) (h6 : L.length ≤ 6) (hx6 : ∀ x ∈ L, x < 6) (hrow : am_rowl (I 85) 0 L)  : am_E X d 73 0 [(0, .inr (.inr (.inl (some 71)))), (1, .inl z), (2, .inr (.inr (.inl (some 85))))] [] (am_mm D I J ρ) (fun q => ∃ Q, q = (none, am_mm D (am_wp (fun c _ => Nat.beq c 85) I Q) J ρ) ∧ am_rowl (Q 85) 0 (sp_bub z L)) := by
  refine am_e_ss 2 (q := (2, [(3, .inl 0), (0, .inr (.inr (.inl (some 71)))), (1, .inl z), (2, .inr (.inr (.inl (some 85))))], [], (am_mm D I J ρ))) rfl ?_
  refine (am_less (lv := [(3, .inl (0 : Int)), (2, .inr (.inr (.inl (some 85)))), (1, .inl z), (0, .inr (.inr (.inl (some 71))))]) rfl (List.forall_mem_cons.mpr ⟨rfl, List.forall_mem_cons.mpr ⟨rfl, List.forall_mem_cons.mpr ⟨rfl, List.forall_mem_cons.mpr ⟨rfl, List.forall_mem_nil _⟩⟩⟩⟩) (c_putLast_4_l (I := I) d (A := []) (C := L) (k := 0) hz h3 h6 hx6 rfl (by simp) hx6 hrow rfl)).imp ?_
  rintro q ⟨Q9, rfl, h9⟩
  exact ⟨_, am_r_wp (fun c _ => Nat.beq c 85) (am_k_wp am_k_sub (am_k_id)), h9⟩
theorem c_putLast_5_l {X : Nat × (Nat → Int)} {D : List (Nat × Nat)} {I J : Nat → Nat → Int} {ρ : Nat → Nat → Option Nat} (d : Nat) {z : Int} {L : List Nat} (hz : -10 ≤ z ∧ z ≤ 10) (h3 : I 71 3 = (L.length : Int)) (h6 : L.length ≤ 6) (hx6 : ∀ x ∈ L, x < 6) {k : Nat} {A C : List Nat} (hk : A.length = k) (hlen : A.length + C.length = L.length) (hx7 : ∀ x ∈ C, x < 6) (hrow : am_rowl (I 86) 0 (A ++ C)) (hfin : A ++ sp_bub z C = sp_bub z L) : am_E X d 73 2 [(3, .inl (k : Int)), (2, .inr (.inr (.inl (some 86)))), (1, .inl z), (0, .inr (.inr (.inl (some 71))))] [] (am_mm D I J ρ) (fun q => ∃ Q, q = (none, am_mm D (am_wp (fun c _ => Nat.beq c 86) I Q) J ρ) ∧ am_rowl (Q 86) 0 (sp_bub z L)) := by
  refine am_e_ss 5 (q := (9, [(3, .inl (k : Int)), (2, .inr (.inr (.inl (some 86)))), (1, .inl z), (0, .inr (.inr (.inl (some 71))))], [.inl ((I 71 3)), .inl ((k : Int) + 1)], (am_mm D I J ρ))) rfl ?_
  refine am_e_icmp2 rfl ⟨by omega, by omega⟩ ⟨by omega, by omega⟩ (fun (hw1 : (I 71 3) ≤ ((k : Int) + 1)) => ?_) (fun (hw1 : ¬ ((I 71 3) ≤ ((k : Int) + 1))) => ?_)
  · show am_E _ _ _ 39 [(3, .inl (k : Int)), (2, .inr (.inr (.inl (some 86)))), (1, .inl z), (0, .inr (.inr (.inl (some 71))))] [] (am_mm D I J ρ) _
    refine am_e_return rfl rfl ?_
    rw [sp_bub_s C (by omega)] at hfin
    rw [hfin] at hrow
    exact ⟨I, am_r_wp (fun c _ => Nat.beq c 86) am_k_id, hrow⟩
  · show am_E _ _ _ 12 [(3, .inl (k : Int)), (2, .inr (.inr (.inl (some 86)))), (1, .inl z), (0, .inr (.inr (.inl (some 71))))] [] (am_mm D I J ρ) _
    have hCx : ∃ x r, C = x :: r := by
      match C, hlen with
      | [], h => exact absurd h (by simp; omega)
      | x :: r, _ => exact ⟨x, r, rfl⟩
    obtain ⟨x0, r0, hC0⟩ := hCx
    have hrr : I 86 k = (x0 : Int) := by
      have hr2 := am_rowl_r hrow
      rw [Nat.zero_add, hk, hC0] at hr2
      exact am_rowl_h hr2
    have hx00 := hx7 x0 (by rw [hC0]; exact List.mem_cons_self)
    refine am_e_ss 2 (q := (14, [(3, .inl (k : Int)), (2, .inr (.inr (.inl (some 86)))), (1, .inl z), (0, .inr (.inr (.inl (some 71))))], [.inl (k : Int), .inr (.inr (.inl (some 86)))], (am_mm D I J ρ))) rfl ?_
    refine am_e_iaload (m := 6) rfl rfl (by omega) (by omega) (by omega) ?_
    show am_E _ _ _ 15 [(3, .inl (k : Int)), (2, .inr (.inr (.inl (some 86)))), (1, .inl z), (0, .inr (.inr (.inl (some 71))))] [.inl ((I 86 k))] (am_mm D I J ρ) _
    refine am_e_ss 1 (q := (16, [(3, .inl (k : Int)), (2, .inr (.inr (.inl (some 86)))), (1, .inl z), (0, .inr (.inr (.inl (some 71))))], [.inl z, .inl ((I 86 k))], (am_mm D I J ρ))) rfl ?_
    refine am_e_icmp2 rfl ⟨by omega, by omega⟩ ⟨by omega, by omega⟩ (fun (hw2 : ¬ (I 86 k) = z) => ?_) (fun (hw2 : ¬ (¬ (I 86 k) = z)) => ?_)
    · show am_E _ _ _ 33 [(3, .inl (k : Int)), (2, .inr (.inr (.inl (some 86)))), (1, .inl z), (0, .inr (.inr (.inl (some 71))))] [] (am_mm D I J ρ) _
      refine am_e_ss 2 (q := (2, [(3, .inl ((k : Int) + 1)), (2, .inr (.inr (.inl (some 86)))), (1, .inl z), (0, .inr (.inr (.inl (some 71))))], [], (am_mm D I J ρ))) rfl ?_
      obtain ⟨x, y, r, rfl⟩ : ∃ x y r, C = x :: y :: r := by
        match C, hlen with
        | [], h => exact absurd h (by simp; omega)
        | [x], h => exact absurd h (by simp; omega)
        | x :: y :: r, _ => exact ⟨x, y, r, rfl⟩
      have hr2 := am_rowl_r hrow
      rw [Nat.zero_add, hk] at hr2
      have hx0 := am_rowl_h hr2
      have hy0 := am_rowl_h (am_rowl_t hr2)
      rw [sp_bub_2] at hfin
      rw [List.length_cons, List.length_cons] at hlen
      rw [if_neg (by omega)] at hfin
      refine (am_less (lv := [(3, .inl ((k + 1) : Int)), (2, .inr (.inr (.inl (some 86)))), (1, .inl z), (0, .inr (.inr (.inl (some 71))))]) rfl (List.forall_mem_cons.mpr ⟨rfl, List.forall_mem_cons.mpr ⟨rfl, List.forall_mem_cons.mpr ⟨rfl, List.forall_mem_cons.mpr ⟨rfl, List.forall_mem_nil _⟩⟩⟩⟩) (c_putLast_5_l (I := I) d (A := A ++ [x]) (C := y :: r) (k := k + 1) hz h3 h6 hx6 (by rw [List.length_append, List.length_singleton, hk]) (by rw [List.length_append, List.length_singleton, List.length_cons]; omega) (fun a ha => hx7 a (List.mem_cons_of_mem _ ha)) (by rw [List.append_assoc]; exact hrow) (by rw [List.append_assoc]; exact hfin))).imp ?_
      rintro q ⟨Q9, rfl, h9⟩
      exact ⟨_, am_r_wp (fun c _ => Nat.beq c 86) (am_k_wp am_k_sub (am_k_id)), h9⟩
    · show am_E _ _ _ 19 [(3, .inl (k : Int)), (2, .inr (.inr (.inl (some 86)))), (1, .inl z), (0, .inr (.inr (.inl (some 71))))] [] (am_mm D I J ρ) _
      refine am_e_ss 6 (q := (25, [(3, .inl (k : Int)), (2, .inr (.inr (.inl (some 86)))), (1, .inl z), (0, .inr (.inr (.inl (some 71))))], [.inl ((k : Int) + 1), .inr (.inr (.inl (some 86))), .inl (k : Int), .inr (.inr (.inl (some 86)))], (am_mm D I J ρ))) rfl ?_
      refine am_e_iaload (m := 6) rfl rfl (by omega) (by omega) (by omega) ?_
      show am_E _ _ _ 26 [(3, .inl (k : Int)), (2, .inr (.inr (.inl (some 86)))), (1, .inl z), (0, .inr (.inr (.inl (some 71))))] [.inl ((I 86 (k + 1))), .inl (k : Int), .inr (.inr (.inl (some 86)))] (am_mm D I J ρ) _
      refine am_e_iastore (m := 6) rfl rfl (by omega) (by omega) (by omega) ?_
      show am_E _ _ _ 27 [(3, .inl (k : Int)), (2, .inr (.inr (.inl (some 86)))), (1, .inl z), (0, .inr (.inr (.inl (some 71))))] [] (am_mm D (am_up I 86 k (I 86 (k + 1))) J ρ) _
      refine am_e_ss 5 (q := (32, [(3, .inl (k : Int)), (2, .inr (.inr (.inl (some 86)))), (1, .inl z), (0, .inr (.inr (.inl (some 71))))], [.inl z, .inl ((k : Int) + 1), .inr (.inr (.inl (some 86)))], (am_mm D (am_up I 86 k (I 86 (k + 1))) J ρ))) rfl ?_
      refine am_e_iastore (m := 6) rfl rfl (by omega) (by omega) (by omega) ?_
      show am_E _ _ _ 33 [(3, .inl (k : Int)), (2, .inr (.inr (.inl (some 86)))), (1, .inl z), (0, .inr (.inr (.inl (some 71))))] [] (am_mm D (am_up (am_up I 86 k (I 86 (k + 1))) 86 (k + 1) z) J ρ) _
      refine am_e_ss 2 (q := (2, [(3, .inl ((k : Int) + 1)), (2, .inr (.inr (.inl (some 86)))), (1, .inl z), (0, .inr (.inr (.inl (some 71))))], [], (am_mm D (am_up (am_up I 86 k (I 86 (k + 1))) 86 (k + 1) z) J ρ))) rfl ?_
      obtain ⟨x, y, r, rfl⟩ : ∃ x y r, C = x :: y :: r := by
        match C, hlen with
        | [], h => exact absurd h (by simp; omega)
        | [x], h => exact absurd h (by simp; omega)
        | x :: y :: r, _ => exact ⟨x, y, r, rfl⟩
      have hr2 := am_rowl_r hrow
      rw [Nat.zero_add, hk] at hr2
      have hx0 := am_rowl_h hr2
      have hy0 := am_rowl_h (am_rowl_t hr2)
      rw [sp_bub_2] at hfin
      rw [List.length_cons, List.length_cons] at hlen
      rw [if_pos (by omega)] at hfin
      have e9 : am_rowl ((am_up (am_up I 86 k (I 86 (k + 1))) 86 (k + 1) z) 86) 0 ((A ++ [y]) ++ (x :: r)) := by
        refine am_rowl_app (am_rowl_snoc (am_rowl_cg (am_rowl_l hrow) (fun i hi => (am_up_ne2 (by omega)).trans (am_up_ne2 (by omega)))) ?_) ?_
        · rw [Nat.zero_add, hk]
          exact (am_up_ne2 (by omega)).trans (am_up_at2.trans hy0)
        · rw [List.length_append, List.length_singleton, Nat.zero_add, hk]
          refine am_rowl_c (am_up_at2.trans (by omega)) (am_rowl_cg (am_rowl_t (am_rowl_t hr2)) (fun i hi => (am_up_ne2 (by omega)).trans (am_up_ne2 (by omega))))
      refine (am_less (lv := [(3, .inl ((k + 1) : Int)), (2, .inr (.inr (.inl (some 86)))), (1, .inl z), (0, .inr (.inr (.inl (some 71))))]) rfl (List.forall_mem_cons.mpr ⟨rfl, List.forall_mem_cons.mpr ⟨rfl, List.forall_mem_cons.mpr ⟨rfl, List.forall_mem_cons.mpr ⟨rfl, List.forall_mem_nil _⟩⟩⟩⟩) (c_putLast_5_l (I := am_up (am_up I 86 k (I 86 (k + 1))) 86 (k + 1) z) d (A := A ++ [y]) (C := x :: r) (k := k + 1) hz h3 h6 hx6 (by rw [List.length_append, List.length_singleton, hk]) (by rw [List.length_append, List.length_singleton, List.length_cons]; omega) (fun a ha => hx7 a (by rcases List.mem_cons.mp ha with rfl | ha; exact List.mem_cons_self; exact List.mem_cons_of_mem _ (List.mem_cons_of_mem _ ha))) e9 (by rw [List.append_assoc]; exact hfin))).imp ?_
      rintro q ⟨Q9, rfl, h9⟩
      exact ⟨_, am_r_wp (fun c _ => Nat.beq c 86) (am_k_wp am_k_sub (am_k_up rfl (am_k_up rfl (am_k_id)))), h9⟩
termination_by (L.length - k)
decreasing_by all_goals omega
theorem c_putLast_5 {X : Nat × (Nat → Int)} {D : List (Nat × Nat)} {I J : Nat → Nat → Int} {ρ : Nat → Nat → Option Nat} (d : Nat) {z : Int} {L : List Nat} (hz : -10 ≤ z ∧ z ≤ 10) (h3 : I 71 3 = (L.length : Int)) (h6 : L.length ≤ 6) (hx6 : ∀ x ∈ L, x < 6) (hrow : am_rowl (I 86) 0 L)  : am_E X d 73 0 [(0, .inr (.inr (.inl (some 71)))), (1, .inl z), (2, .inr (.inr (.inl (some 86))))] [] (am_mm D I J ρ) (fun q => ∃ Q, q = (none, am_mm D (am_wp (fun c _ => Nat.beq c 86) I Q) J ρ) ∧ am_rowl (Q 86) 0 (sp_bub z L)) := by
  refine am_e_ss 2 (q := (2, [(3, .inl 0), (0, .inr (.inr (.inl (some 71)))), (1, .inl z), (2, .inr (.inr (.inl (some 86))))], [], (am_mm D I J ρ))) rfl ?_
  refine (am_less (lv := [(3, .inl (0 : Int)), (2, .inr (.inr (.inl (some 86)))), (1, .inl z), (0, .inr (.inr (.inl (some 71))))]) rfl (List.forall_mem_cons.mpr ⟨rfl, List.forall_mem_cons.mpr ⟨rfl, List.forall_mem_cons.mpr ⟨rfl, List.forall_mem_cons.mpr ⟨rfl, List.forall_mem_nil _⟩⟩⟩⟩) (c_putLast_5_l (I := I) d (A := []) (C := L) (k := 0) hz h3 h6 hx6 rfl (by simp) hx6 hrow rfl)).imp ?_
  rintro q ⟨Q9, rfl, h9⟩
  exact ⟨_, am_r_wp (fun c _ => Nat.beq c 86) (am_k_wp am_k_sub (am_k_id)), h9⟩
