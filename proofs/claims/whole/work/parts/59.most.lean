/-! THE CLASS: the ways -/
def sp_mos (c : Nat → Int) (but : Int) (best : Int) (b : Nat) : Int := if ¬ (b : Int) = but ∧ (best < 0 ∨ c best.toNat < c b) then (b : Int) else best
def sp_mo (c : Nat → Int) (but : Int) (L : List Nat) : Int := L.foldl (sp_mos c but) (-5)
theorem sp_mo_b {c : Nat → Int} {but : Int} : ∀ {L : List Nat} {s : Int}, (∀ b ∈ L, b < 6) → (s = -5 ∨ (0 ≤ s ∧ s ≤ 5)) → (L.foldl (sp_mos c but) s = -5 ∨ (0 ≤ L.foldl (sp_mos c but) s ∧ L.foldl (sp_mos c but) s ≤ 5)) := by
  intro L
  induction L with
  | nil => intro s _ h; exact h
  | cons b L ih =>
    intro s h h1
    have hb := h b List.mem_cons_self
    rw [List.foldl_cons]
    refine ih (fun x hx => h x (List.mem_cons_of_mem _ hx)) ?_
    unfold sp_mos
    split
    · right; omega
    · exact h1
theorem sp_mo_mbk {S c : Nat → Int} {but : Int} : ∀ n, (∀ j, j < n → 0 ≤ c j) → ((sp_mbk S c but n).1 = -1 ∧ (sp_mbk S c but n).2 = -1 ∧ sp_mo c but (sp_obk S n) = -5) ∨ (0 ≤ (sp_mbk S c but n).1 ∧ (sp_mbk S c but n).2 = c (sp_mbk S c but n).1.toNat ∧ sp_mo c but (sp_obk S n) = (sp_mbk S c but n).1) := by
  intro n
  induction n with
  | zero => intro _; exact Or.inl ⟨rfl, rfl, rfl⟩
  | succ n ih =>
    intro hc
    have h := ih (fun j hj => hc j (by omega))
    have hcn := hc n (by omega)
    by_cases e : S (13 + n) = 0
    · have e1 : sp_mo c but (sp_obk S (n + 1)) = sp_mos c but (sp_mo c but (sp_obk S n)) n := by
        rw [sp_obk_s1 e]
        unfold sp_mo
        rw [List.foldl_append]
        rfl
      rw [e1]
      unfold sp_mbk sp_mos
      by_cases e2 : (n : Int) = but
      · rw [if_neg (fun h => h.2.1 e2), if_neg (fun h => h.1 e2)]; exact h
      · rcases h with ⟨h1, h2, h3⟩ | ⟨h1, h2, h3⟩
        · rw [if_pos ⟨e, e2, by omega⟩, h3, if_pos ⟨e2, by omega⟩]
          exact Or.inr ⟨by show (0 : Int) ≤ (n : Int); omega, rfl, rfl⟩
        · by_cases e3 : (sp_mbk S c but n).2 < c n
          · rw [if_pos ⟨e, e2, e3⟩, h3, if_pos ⟨e2, Or.inr (by rw [← h2]; exact e3)⟩]
            exact Or.inr ⟨by show (0 : Int) ≤ (n : Int); omega, rfl, rfl⟩
          · rw [if_neg (fun h => e3 h.2.2), h3, if_neg (fun h => by rcases h.2 with h4 | h4; omega; rw [← h2] at h4; exact e3 h4)]
            exact Or.inr ⟨h1, h2, rfl⟩
    · have e1 : sp_mbk S c but (n + 1) = sp_mbk S c but n := if_neg (fun h => e h.1)
      rw [e1, sp_obk_s0 e]
      exact h
theorem sp_mbk_but {S c : Nat → Int} {but but' : Int} (h : but < 0) (h' : but' < 0) : ∀ n, sp_mbk S c but n = sp_mbk S c but' n := by
  intro n
  induction n with
  | zero => rfl
  | succ n ih =>
    unfold sp_mbk
    rw [ih]
    by_cases e : S (13 + n) = 0 ∧ (sp_mbk S c but' n).2 < c n
    · rw [if_pos ⟨e.1, by omega, e.2⟩, if_pos ⟨e.1, by omega, e.2⟩]
    · rw [if_neg (fun h => e ⟨h.1, h.2.2⟩), if_neg (fun h => e ⟨h.1, h.2.2⟩)]
theorem sp_sc_l {VL : Nat → List Nat} {n m : Nat} {b way : Int} (hl : ∀ m, m < n → (VL m).length ≤ 6) (hm : m < n) : sp_sc (sp_Vr VL) (sp_Zr VL) b way m = sp_scl (VL m) b way := by
  have h := sp_rep_cn hl m hm
  unfold sp_sc sp_scl
  rw [sp_pin_l h.1 h.2, h.1]
  by_cases e : (VL m).length = 0
  · rw [if_pos e, if_pos (by omega)]
  · rw [if_neg e, if_neg (by omega)]
theorem sp_cof_tls {VL : Nat → List Nat} {n : Nat} {b way : Int} (hl : ∀ m, m < n → (VL m).length ≤ 6) : ∀ m, m ≤ n → sp_cof (sp_Vr VL) (sp_Zr VL) b way m = sp_tls VL way b m := by
  intro m
  induction m with
  | zero => intro _; rfl
  | succ m ih =>
    intro hm
    unfold sp_cof sp_tls
    rw [ih (by omega), sp_sc_l hl (by omega)]
/-- voices as they may be: those of who is gone are empty -/
def sp_vcs (S : Nat → Int) (VL : Nat → List Nat) : Prop := ∀ m, m < (S 19).toNat → sp_voice S (VL m) ∧ (¬ S (7 + m) = 0 → VL m = [])
theorem sp_vcs_l {S : Nat → Int} {VL : Nat → List Nat} {B : Int} (hok : r_ok S B) (hv : sp_vcs S VL) : ∀ m, m < (S 19).toNat → (VL m).length ≤ 6 := by
  intro m hm
  have := sp_ops_b hok
  rcases (hv m hm).1 with h | h
  · rw [h]; simp
  · have := h.2.1.1; omega
theorem sp_ahk_tla {S : Nat → Int} {VL : Nat → List Nat} {B : Int} {a b : Nat} (hok : r_ok S B) (hv : sp_vcs S VL) (ha : a < (S 20).toNat ∧ S (13 + a) = 0) (hb : b < (S 20).toNat ∧ S (13 + b) = 0) (hab : a ≠ b) : ∀ m, m ≤ (S 19).toNat → sp_ahk (sp_Vr VL) (sp_Zr VL) a b m = sp_tla VL a b m := by
  intro m
  induction m with
  | zero => intro _; rfl
  | succ m ih =>
    intro hm
    have hl := sp_vcs_l hok hv
    have h := sp_rep_cn hl m (by omega)
    unfold sp_ahk sp_tla
    rw [ih (by omega), sp_pin_l h.1 h.2, sp_pin_l h.1 h.2, h.1]
    congr 1
    rcases (hv m (by omega)).1 with e | ⟨hn, ⟨hlen, ho⟩, hm2⟩
    · rw [e]; rfl
    · have h6 := hl m (by omega)
      have pa := (sp_pl_in (b := a) h6).mpr ((hm2 a).mpr ha)
      have pb := (sp_pl_in (b := b) h6).mpr ((hm2 b).mpr hb)
      have ba := sp_pl_b (b := (a : Int)) h6
      have bb := sp_pl_b (b := (b : Int)) h6
      have hk := sp_pl_k (b := a) (k := (sp_pl (VL m) (a : Int)).toNat) h6 hn (by omega)
      have hk2 := sp_pl_k (b := b) (k := (sp_pl (VL m) (a : Int)).toNat) h6 hn (by omega)
      have hne : ¬ sp_pl (VL m) (a : Int) = sp_pl (VL m) (b : Int) := by
        intro e
        have h1 := hk.mp (by omega)
        have h2 := hk2.mp (by omega)
        omega
      rw [if_pos (by omega)]
      unfold sp_ahl
      (repeat' split) <;> first | rfl | (exfalso; omega)
theorem sp_tls_b {VL : Nat → List Nat} {way b : Int} : ∀ n, (∀ m, m < n → (VL m).length ≤ 6) → 0 ≤ sp_tls VL way b n ∧ sp_tls VL way b n ≤ 6 * (n : Int) := by
  intro n
  induction n with
  | zero => intro _; exact ⟨Int.le_refl _, Int.le_refl _⟩
  | succ n ih =>
    intro h
    have h1 := ih (fun m hm => h m (by omega))
    have h2 := h n (by omega)
    have h3 := sp_pl_b (b := b) h2
    have h4 : 0 ≤ sp_scl (VL n) b way ∧ sp_scl (VL n) b way ≤ 6 := by
      unfold sp_scl
      (repeat' split) <;> omega
    unfold sp_tls
    omega
theorem sp_tla_b {VL : Nat → List Nat} {a b : Int} : ∀ n : Nat, -(n : Int) ≤ sp_tla VL a b n ∧ sp_tla VL a b n ≤ (n : Int) := by
  intro n
  induction n with
  | zero => exact ⟨Int.le_refl _, Int.le_refl _⟩
  | succ n ih =>
    unfold sp_tla sp_ahl
    (repeat' split) <;> omega
/-- most of a kind of counts -/
def sp_mw (S : Nat → Int) (VL : Nat → List Nat) (way but : Int) : Int := sp_mo (fun b => sp_tls VL way b (S 19).toNat) but (sp_ob S)
theorem sp_mw_most {S : Nat → Int} {VL : Nat → List Nat} {B way but : Int} (hok : r_ok S B) (hv : sp_vcs S VL) : (sp_most S (sp_Vr VL) (sp_Zr VL) way but = -1 ∧ sp_mw S VL way but = -5) ∨ (0 ≤ sp_most S (sp_Vr VL) (sp_Zr VL) way but ∧ sp_mw S VL way but = sp_most S (sp_Vr VL) (sp_Zr VL) way but) := by
  have hl := sp_vcs_l hok hv
  have e : (fun b : Nat => sp_cof (sp_Vr VL) (sp_Zr VL) b way (S 19).toNat) = fun b : Nat => sp_tls VL way b (S 19).toNat := funext (fun b => sp_cof_tls hl _ (Nat.le_refl _))
  unfold sp_most sp_mw sp_ob
  rw [e]
  have h := sp_mo_mbk (S := S) (c := fun b : Nat => sp_tls VL way b (S 19).toNat) (but := but) (S 20).toNat (fun j _ => (sp_tls_b _ hl).1)
  rcases h with ⟨h1, _, h3⟩ | ⟨h1, _, h3⟩
  · exact Or.inl ⟨h1, h3⟩
  · exact Or.inr ⟨h1, h3⟩
theorem sp_most_but {S V Z : Nat → Int} {way but but' : Int} (h : but < 0) (h' : but' < 0) : sp_most S V Z way but = sp_most S V Z way but' := by
  unfold sp_most
  rw [sp_mbk_but h h']
theorem sp_vcs_vo {S : Nat → Int} {VL : Nat → List Nat} {B : Int} (hok : r_ok S B) (hv : sp_vcs S VL) : r_vl S VL := by
  intro m hm
  refine ⟨sp_vcs_l hok hv m hm, ?_⟩
  intro x hx
  rcases (hv m hm).1 with h | h
  · rw [h] at hx; simp at hx
  · exact ((h.2.2 x).mp hx).1
theorem sp_mw_0 {S : Nat → Int} {VL : Nat → List Nat} {B way but : Int} (hok : r_ok S B) (hv : sp_vcs S VL) (ho : ¬ sp_ops S = 0) (hb : but < 0) : 0 ≤ sp_mw S VL way but ∧ sp_mw S VL way but = sp_most S (sp_Vr VL) (sp_Zr VL) way (-1) ∧ sp_mw S VL way but < S 20 := by
  have hvo := r_vl_vo hok (sp_vcs_vo hok hv) (sp_rep_cn (sp_vcs_l hok hv))
  have hp := sp_most_pos (way := way) hvo ho
  have hlt := (sp_most_b (way := way) (but := -1) hok hvo).2
  have e := sp_most_but (S := S) (V := sp_Vr VL) (Z := sp_Zr VL) (way := way) hb (show (-1 : Int) < 0 by omega)
  rcases sp_mw_most (way := way) (but := but) hok hv with h | h <;> omega
theorem c_mostOf_87_l {X : Nat × (Nat → Int)} {D : List (Nat × Nat)} {I J : Nat → Nat → Int} {ρ : Nat → Nat → Option Nat} (d : Nat) {S : Nat → Int} {B but : Int} (hok : r_ok S B) (hbut : -10 ≤ but ∧ but ≤ 10) (h3 : I 71 3 = sp_ops S) (hob : am_rowl (I 72) 0 (sp_ob S)) (hc : ∀ b, b < 6 → 0 ≤ I 87 b ∧ I 87 b ≤ 100) {p : Int} {i : Nat} (hi : i ≤ (sp_ob S).length) (hp : p = ((sp_ob S).take i).foldl (sp_mos (I 87) but) (-5)) : am_E X d 77 6 [(4, .inl (i : Int)), (3, .inl p), (2, .inl but), (1, .inr (.inr (.inl (some 87)))), (0, .inr (.inr (.inl (some 71))))] [] (am_mm D I J ρ) (fun r => r = (some (.inl ((sp_mo (I 87) but (sp_ob S)))), (am_mm D I J ρ))) := by
  have h19 := r_ok_19 hok
  have ob := sp_ops_b hok
  have obl := sp_ob_len (S := S)
  have hpb := sp_mo_b (c := (I 87)) (but := but) (L := (sp_ob S).take i) (s := -5) (fun b hb => by have := (sp_ob_mem.mp (List.mem_of_mem_take hb)).1; omega) (Or.inl rfl)
  rw [← hp] at hpb
  refine am_e_ss 3 (q := (12, [(4, .inl (i : Int)), (3, .inl p), (2, .inl but), (1, .inr (.inr (.inl (some 87)))), (0, .inr (.inr (.inl (some 71))))], [.inl ((I 71 3)), .inl (i : Int)], (am_mm D I J ρ))) rfl ?_
  refine am_e_icmp2 rfl ⟨by omega, by omega⟩ ⟨by omega, by omega⟩ (fun (hw1 : (I 71 3) ≤ (i : Int)) => ?_) (fun (hw1 : ¬ ((I 71 3) ≤ (i : Int))) => ?_)
  · show am_E _ _ _ 53 [(4, .inl (i : Int)), (3, .inl p), (2, .inl but), (1, .inr (.inr (.inl (some 87)))), (0, .inr (.inr (.inl (some 71))))] [] (am_mm D I J ρ) _
    refine am_e_ss 1 (q := (54, [(4, .inl (i : Int)), (3, .inl p), (2, .inl but), (1, .inr (.inr (.inl (some 87)))), (0, .inr (.inr (.inl (some 71))))], [.inl p], (am_mm D I J ρ))) rfl ?_
    refine am_e_ireturn rfl rfl ?_
    rw [hp, List.take_of_length_le (by omega)]
    rfl
  · show am_E _ _ _ 15 [(4, .inl (i : Int)), (3, .inl p), (2, .inl but), (1, .inr (.inr (.inl (some 87)))), (0, .inr (.inr (.inl (some 71))))] [] (am_mm D I J ρ) _
    have hil : i < (sp_ob S).length := by omega
    have hxi := hob i _ (List.getElem?_eq_getElem hil)
    rw [Nat.zero_add] at hxi
    have hx6 := (sp_ob_mem.mp (List.getElem_mem hil)).1
    have hcx := hc (sp_ob S)[i] (by omega)
    have hcx2 : I 87 (I 72 i).toNat = I 87 (sp_ob S)[i] := by rw [hxi]; rfl
    have hcp := hc p.toNat (by omega)
    refine am_e_ss 3 (q := (21, [(4, .inl (i : Int)), (3, .inl p), (2, .inl but), (1, .inr (.inr (.inl (some 87)))), (0, .inr (.inr (.inl (some 71))))], [.inl (i : Int), .inr (.inr (.inl (some 72)))], (am_mm D I J ρ))) rfl ?_
    refine am_e_iaload (m := 6) rfl rfl (by omega) (by omega) (by omega) ?_
    show am_E _ _ _ 22 [(4, .inl (i : Int)), (3, .inl p), (2, .inl but), (1, .inr (.inr (.inl (some 87)))), (0, .inr (.inr (.inl (some 71))))] [.inl ((I 72 i))] (am_mm D I J ρ) _
    refine am_e_ss 3 (q := (27, [(5, .inl ((I 72 i))), (4, .inl (i : Int)), (3, .inl p), (2, .inl but), (1, .inr (.inr (.inl (some 87)))), (0, .inr (.inr (.inl (some 71))))], [.inl but, .inl ((I 72 i))], (am_mm D I J ρ))) rfl ?_
    refine am_e_icmp2 rfl ⟨by omega, by omega⟩ ⟨by omega, by omega⟩ (fun (hw2 : (I 72 i) = but) => ?_) (fun (hw2 : ¬ ((I 72 i) = but)) => ?_)
    · show am_E _ _ _ 47 [(5, .inl ((I 72 i))), (4, .inl (i : Int)), (3, .inl p), (2, .inl but), (1, .inr (.inr (.inl (some 87)))), (0, .inr (.inr (.inl (some 71))))] [] (am_mm D I J ρ) _
      refine am_e_ss 2 (q := (6, [(4, .inl ((i : Int) + 1)), (5, .inl ((I 72 i))), (3, .inl p), (2, .inl but), (1, .inr (.inr (.inl (some 87)))), (0, .inr (.inr (.inl (some 71))))], [], (am_mm D I J ρ))) rfl ?_
      have e9 : p = ((sp_ob S).take (i + 1)).foldl (sp_mos (I 87) but) (-5) := by
        rw [List.take_succ, List.getElem?_eq_getElem hil, Option.toList_some, List.foldl_append, ← hp]
        show _ = sp_mos (I 87) but p ((sp_ob S)[i])
        unfold sp_mos
        have hxe : I 87 (I 72 i).toNat = I 87 (sp_ob S)[i] := by rw [hxi]; rfl
        split
        · rename_i h; first | exact hxi | (exfalso; omega)
        · rename_i h; first | rfl | (exfalso; apply h; omega)
      exact am_less (lv := [(4, .inl ((i + 1) : Int)), (3, .inl p), (2, .inl but), (1, .inr (.inr (.inl (some 87)))), (0, .inr (.inr (.inl (some 71))))]) rfl (List.forall_mem_cons.mpr ⟨rfl, List.forall_mem_cons.mpr ⟨rfl, List.forall_mem_cons.mpr ⟨rfl, List.forall_mem_cons.mpr ⟨rfl, List.forall_mem_cons.mpr ⟨rfl, List.forall_mem_nil _⟩⟩⟩⟩⟩) (c_mostOf_87_l d (i := i + 1) hok hbut h3 hob hc (by omega) e9)
    · show am_E _ _ _ 30 [(5, .inl ((I 72 i))), (4, .inl (i : Int)), (3, .inl p), (2, .inl but), (1, .inr (.inr (.inl (some 87)))), (0, .inr (.inr (.inl (some 71))))] [] (am_mm D I J ρ) _
      refine am_e_ss 1 (q := (31, [(5, .inl ((I 72 i))), (4, .inl (i : Int)), (3, .inl p), (2, .inl but), (1, .inr (.inr (.inl (some 87)))), (0, .inr (.inr (.inl (some 71))))], [.inl p], (am_mm D I J ρ))) rfl ?_
      refine am_e_if2 rfl ⟨by omega, by omega⟩ (fun (hw3 : p < 0) => ?_) (fun (hw3 : ¬ (p < 0)) => ?_)
      · show am_E _ _ _ 44 [(5, .inl ((I 72 i))), (4, .inl (i : Int)), (3, .inl p), (2, .inl but), (1, .inr (.inr (.inl (some 87)))), (0, .inr (.inr (.inl (some 71))))] [] (am_mm D I J ρ) _
        refine am_e_ss 4 (q := (6, [(4, .inl ((i : Int) + 1)), (3, .inl ((I 72 i))), (5, .inl ((I 72 i))), (2, .inl but), (1, .inr (.inr (.inl (some 87)))), (0, .inr (.inr (.inl (some 71))))], [], (am_mm D I J ρ))) rfl ?_
        have e9 : (I 72 i) = ((sp_ob S).take (i + 1)).foldl (sp_mos (I 87) but) (-5) := by
          rw [List.take_succ, List.getElem?_eq_getElem hil, Option.toList_some, List.foldl_append, ← hp]
          show _ = sp_mos (I 87) but p ((sp_ob S)[i])
          unfold sp_mos
          have hxe : I 87 (I 72 i).toNat = I 87 (sp_ob S)[i] := by rw [hxi]; rfl
          split
          · rename_i h; first | exact hxi | (exfalso; omega)
          · rename_i h; first | rfl | (exfalso; apply h; omega)
        exact am_less (lv := [(4, .inl ((i + 1) : Int)), (3, .inl ((I 72 i))), (2, .inl but), (1, .inr (.inr (.inl (some 87)))), (0, .inr (.inr (.inl (some 71))))]) rfl (List.forall_mem_cons.mpr ⟨rfl, List.forall_mem_cons.mpr ⟨rfl, List.forall_mem_cons.mpr ⟨rfl, List.forall_mem_cons.mpr ⟨rfl, List.forall_mem_cons.mpr ⟨rfl, List.forall_mem_nil _⟩⟩⟩⟩⟩) (c_mostOf_87_l d (i := i + 1) hok hbut h3 hob hc (by omega) e9)
      · show am_E _ _ _ 34 [(5, .inl ((I 72 i))), (4, .inl (i : Int)), (3, .inl p), (2, .inl but), (1, .inr (.inr (.inl (some 87)))), (0, .inr (.inr (.inl (some 71))))] [] (am_mm D I J ρ) _
        refine am_e_ss 2 (q := (37, [(5, .inl ((I 72 i))), (4, .inl (i : Int)), (3, .inl p), (2, .inl but), (1, .inr (.inr (.inl (some 87)))), (0, .inr (.inr (.inl (some 71))))], [.inl ((I 72 i)), .inr (.inr (.inl (some 87)))], (am_mm D I J ρ))) rfl ?_
        refine am_e_iaload (m := 6) rfl rfl (by omega) (by omega) (by omega) ?_
        show am_E _ _ _ 38 [(5, .inl ((I 72 i))), (4, .inl (i : Int)), (3, .inl p), (2, .inl but), (1, .inr (.inr (.inl (some 87)))), (0, .inr (.inr (.inl (some 71))))] [.inl ((I 87 ((I 72 i)).toNat))] (am_mm D I J ρ) _
        refine am_e_ss 2 (q := (40, [(5, .inl ((I 72 i))), (4, .inl (i : Int)), (3, .inl p), (2, .inl but), (1, .inr (.inr (.inl (some 87)))), (0, .inr (.inr (.inl (some 71))))], [.inl p, .inr (.inr (.inl (some 87))), .inl ((I 87 ((I 72 i)).toNat))], (am_mm D I J ρ))) rfl ?_
        refine am_e_iaload (m := 6) rfl rfl (by omega) (by omega) (by omega) ?_
        show am_E _ _ _ 41 [(5, .inl ((I 72 i))), (4, .inl (i : Int)), (3, .inl p), (2, .inl but), (1, .inr (.inr (.inl (some 87)))), (0, .inr (.inr (.inl (some 71))))] [.inl ((I 87 (p).toNat)), .inl ((I 87 ((I 72 i)).toNat))] (am_mm D I J ρ) _
        refine am_e_icmp2 rfl ⟨by omega, by omega⟩ ⟨by omega, by omega⟩ (fun (hw4 : (I 87 ((I 72 i)).toNat) ≤ (I 87 (p).toNat)) => ?_) (fun (hw4 : ¬ ((I 87 ((I 72 i)).toNat) ≤ (I 87 (p).toNat))) => ?_)
        · show am_E _ _ _ 47 [(5, .inl ((I 72 i))), (4, .inl (i : Int)), (3, .inl p), (2, .inl but), (1, .inr (.inr (.inl (some 87)))), (0, .inr (.inr (.inl (some 71))))] [] (am_mm D I J ρ) _
          refine am_e_ss 2 (q := (6, [(4, .inl ((i : Int) + 1)), (5, .inl ((I 72 i))), (3, .inl p), (2, .inl but), (1, .inr (.inr (.inl (some 87)))), (0, .inr (.inr (.inl (some 71))))], [], (am_mm D I J ρ))) rfl ?_
          have e9 : p = ((sp_ob S).take (i + 1)).foldl (sp_mos (I 87) but) (-5) := by
            rw [List.take_succ, List.getElem?_eq_getElem hil, Option.toList_some, List.foldl_append, ← hp]
            show _ = sp_mos (I 87) but p ((sp_ob S)[i])
            unfold sp_mos
            have hxe : I 87 (I 72 i).toNat = I 87 (sp_ob S)[i] := by rw [hxi]; rfl
            split
            · rename_i h; first | exact hxi | (exfalso; omega)
            · rename_i h; first | rfl | (exfalso; apply h; omega)
          exact am_less (lv := [(4, .inl ((i + 1) : Int)), (3, .inl p), (2, .inl but), (1, .inr (.inr (.inl (some 87)))), (0, .inr (.inr (.inl (some 71))))]) rfl (List.forall_mem_cons.mpr ⟨rfl, List.forall_mem_cons.mpr ⟨rfl, List.forall_mem_cons.mpr ⟨rfl, List.forall_mem_cons.mpr ⟨rfl, List.forall_mem_cons.mpr ⟨rfl, List.forall_mem_nil _⟩⟩⟩⟩⟩) (c_mostOf_87_l d (i := i + 1) hok hbut h3 hob hc (by omega) e9)
        · show am_E _ _ _ 44 [(5, .inl ((I 72 i))), (4, .inl (i : Int)), (3, .inl p), (2, .inl but), (1, .inr (.inr (.inl (some 87)))), (0, .inr (.inr (.inl (some 71))))] [] (am_mm D I J ρ) _
          refine am_e_ss 4 (q := (6, [(4, .inl ((i : Int) + 1)), (3, .inl ((I 72 i))), (5, .inl ((I 72 i))), (2, .inl but), (1, .inr (.inr (.inl (some 87)))), (0, .inr (.inr (.inl (some 71))))], [], (am_mm D I J ρ))) rfl ?_
          have e9 : (I 72 i) = ((sp_ob S).take (i + 1)).foldl (sp_mos (I 87) but) (-5) := by
            rw [List.take_succ, List.getElem?_eq_getElem hil, Option.toList_some, List.foldl_append, ← hp]
            show _ = sp_mos (I 87) but p ((sp_ob S)[i])
            unfold sp_mos
            have hxe : I 87 (I 72 i).toNat = I 87 (sp_ob S)[i] := by rw [hxi]; rfl
            split
            · rename_i h; first | exact hxi | (exfalso; omega)
            · rename_i h; first | rfl | (exfalso; apply h; omega)
          exact am_less (lv := [(4, .inl ((i + 1) : Int)), (3, .inl ((I 72 i))), (2, .inl but), (1, .inr (.inr (.inl (some 87)))), (0, .inr (.inr (.inl (some 71))))]) rfl (List.forall_mem_cons.mpr ⟨rfl, List.forall_mem_cons.mpr ⟨rfl, List.forall_mem_cons.mpr ⟨rfl, List.forall_mem_cons.mpr ⟨rfl, List.forall_mem_cons.mpr ⟨rfl, List.forall_mem_nil _⟩⟩⟩⟩⟩) (c_mostOf_87_l d (i := i + 1) hok hbut h3 hob hc (by omega) e9)
termination_by (sp_ob S).length - i
decreasing_by all_goals omega
theorem c_mostOf_87 {X : Nat × (Nat → Int)} {D : List (Nat × Nat)} {I J : Nat → Nat → Int} {ρ : Nat → Nat → Option Nat} (d : Nat) {S : Nat → Int} {B but : Int} (hok : r_ok S B) (hbut : -10 ≤ but ∧ but ≤ 10) (h3 : I 71 3 = sp_ops S) (hob : am_rowl (I 72) 0 (sp_ob S)) (hc : ∀ b, b < 6 → 0 ≤ I 87 b ∧ I 87 b ≤ 100)  : am_E X d 77 0 [(0, .inr (.inr (.inl (some 71)))), (1, .inr (.inr (.inl (some 87)))), (2, .inl but)] [] (am_mm D I J ρ) (fun r => r = (some (.inl ((sp_mo (I 87) but (sp_ob S)))), (am_mm D I J ρ))) := by
  refine am_e_ss 4 (q := (6, [(4, .inl 0), (3, .inl (-5)), (0, .inr (.inr (.inl (some 71)))), (1, .inr (.inr (.inl (some 87)))), (2, .inl but)], [], (am_mm D I J ρ))) rfl ?_
  exact am_less (lv := [(4, .inl (0 : Int)), (3, .inl ((-5))), (2, .inl but), (1, .inr (.inr (.inl (some 87)))), (0, .inr (.inr (.inl (some 71))))]) rfl (List.forall_mem_cons.mpr ⟨rfl, List.forall_mem_cons.mpr ⟨rfl, List.forall_mem_cons.mpr ⟨rfl, List.forall_mem_cons.mpr ⟨rfl, List.forall_mem_cons.mpr ⟨rfl, List.forall_mem_nil _⟩⟩⟩⟩⟩) (c_mostOf_87_l d (i := 0) hok hbut h3 hob hc (by omega) rfl)
theorem c_mostOf_88_l {X : Nat × (Nat → Int)} {D : List (Nat × Nat)} {I J : Nat → Nat → Int} {ρ : Nat → Nat → Option Nat} (d : Nat) {S : Nat → Int} {B but : Int} (hok : r_ok S B) (hbut : -10 ≤ but ∧ but ≤ 10) (h3 : I 71 3 = sp_ops S) (hob : am_rowl (I 72) 0 (sp_ob S)) (hc : ∀ b, b < 6 → 0 ≤ I 88 b ∧ I 88 b ≤ 100) {p : Int} {i : Nat} (hi : i ≤ (sp_ob S).length) (hp : p = ((sp_ob S).take i).foldl (sp_mos (I 88) but) (-5)) : am_E X d 77 6 [(4, .inl (i : Int)), (3, .inl p), (2, .inl but), (1, .inr (.inr (.inl (some 88)))), (0, .inr (.inr (.inl (some 71))))] [] (am_mm D I J ρ) (fun r => r = (some (.inl ((sp_mo (I 88) but (sp_ob S)))), (am_mm D I J ρ))) := by
  have h19 := r_ok_19 hok
  have ob := sp_ops_b hok
  have obl := sp_ob_len (S := S)
  have hpb := sp_mo_b (c := (I 88)) (but := but) (L := (sp_ob S).take i) (s := -5) (fun b hb => by have := (sp_ob_mem.mp (List.mem_of_mem_take hb)).1; omega) (Or.inl rfl)
  rw [← hp] at hpb
  refine am_e_ss 3 (q := (12, [(4, .inl (i : Int)), (3, .inl p), (2, .inl but), (1, .inr (.inr (.inl (some 88)))), (0, .inr (.inr (.inl (some 71))))], [.inl ((I 71 3)), .inl (i : Int)], (am_mm D I J ρ))) rfl ?_
  refine am_e_icmp2 rfl ⟨by omega, by omega⟩ ⟨by omega, by omega⟩ (fun (hw1 : (I 71 3) ≤ (i : Int)) => ?_) (fun (hw1 : ¬ ((I 71 3) ≤ (i : Int))) => ?_)
  · show am_E _ _ _ 53 [(4, .inl (i : Int)), (3, .inl p), (2, .inl but), (1, .inr (.inr (.inl (some 88)))), (0, .inr (.inr (.inl (some 71))))] [] (am_mm D I J ρ) _
    refine am_e_ss 1 (q := (54, [(4, .inl (i : Int)), (3, .inl p), (2, .inl but), (1, .inr (.inr (.inl (some 88)))), (0, .inr (.inr (.inl (some 71))))], [.inl p], (am_mm D I J ρ))) rfl ?_
    refine am_e_ireturn rfl rfl ?_
    rw [hp, List.take_of_length_le (by omega)]
    rfl
  · show am_E _ _ _ 15 [(4, .inl (i : Int)), (3, .inl p), (2, .inl but), (1, .inr (.inr (.inl (some 88)))), (0, .inr (.inr (.inl (some 71))))] [] (am_mm D I J ρ) _
    have hil : i < (sp_ob S).length := by omega
    have hxi := hob i _ (List.getElem?_eq_getElem hil)
    rw [Nat.zero_add] at hxi
    have hx6 := (sp_ob_mem.mp (List.getElem_mem hil)).1
    have hcx := hc (sp_ob S)[i] (by omega)
    have hcx2 : I 88 (I 72 i).toNat = I 88 (sp_ob S)[i] := by rw [hxi]; rfl
    have hcp := hc p.toNat (by omega)
    refine am_e_ss 3 (q := (21, [(4, .inl (i : Int)), (3, .inl p), (2, .inl but), (1, .inr (.inr (.inl (some 88)))), (0, .inr (.inr (.inl (some 71))))], [.inl (i : Int), .inr (.inr (.inl (some 72)))], (am_mm D I J ρ))) rfl ?_
    refine am_e_iaload (m := 6) rfl rfl (by omega) (by omega) (by omega) ?_
    show am_E _ _ _ 22 [(4, .inl (i : Int)), (3, .inl p), (2, .inl but), (1, .inr (.inr (.inl (some 88)))), (0, .inr (.inr (.inl (some 71))))] [.inl ((I 72 i))] (am_mm D I J ρ) _
    refine am_e_ss 3 (q := (27, [(5, .inl ((I 72 i))), (4, .inl (i : Int)), (3, .inl p), (2, .inl but), (1, .inr (.inr (.inl (some 88)))), (0, .inr (.inr (.inl (some 71))))], [.inl but, .inl ((I 72 i))], (am_mm D I J ρ))) rfl ?_
    refine am_e_icmp2 rfl ⟨by omega, by omega⟩ ⟨by omega, by omega⟩ (fun (hw2 : (I 72 i) = but) => ?_) (fun (hw2 : ¬ ((I 72 i) = but)) => ?_)
    · show am_E _ _ _ 47 [(5, .inl ((I 72 i))), (4, .inl (i : Int)), (3, .inl p), (2, .inl but), (1, .inr (.inr (.inl (some 88)))), (0, .inr (.inr (.inl (some 71))))] [] (am_mm D I J ρ) _
      refine am_e_ss 2 (q := (6, [(4, .inl ((i : Int) + 1)), (5, .inl ((I 72 i))), (3, .inl p), (2, .inl but), (1, .inr (.inr (.inl (some 88)))), (0, .inr (.inr (.inl (some 71))))], [], (am_mm D I J ρ))) rfl ?_
      have e9 : p = ((sp_ob S).take (i + 1)).foldl (sp_mos (I 88) but) (-5) := by
        rw [List.take_succ, List.getElem?_eq_getElem hil, Option.toList_some, List.foldl_append, ← hp]
        show _ = sp_mos (I 88) but p ((sp_ob S)[i])
        unfold sp_mos
        have hxe : I 88 (I 72 i).toNat = I 88 (sp_ob S)[i] := by rw [hxi]; rfl
        split
        · rename_i h; first | exact hxi | (exfalso; omega)
        · rename_i h; first | rfl | (exfalso; apply h; omega)
      exact am_less (lv := [(4, .inl ((i + 1) : Int)), (3, .inl p), (2, .inl but), (1, .inr (.inr (.inl (some 88)))), (0, .inr (.inr (.inl (some 71))))]) rfl (List.forall_mem_cons.mpr ⟨rfl, List.forall_mem_cons.mpr ⟨rfl, List.forall_mem_cons.mpr ⟨rfl, List.forall_mem_cons.mpr ⟨rfl, List.forall_mem_cons.mpr ⟨rfl, List.forall_mem_nil _⟩⟩⟩⟩⟩) (c_mostOf_88_l d (i := i + 1) hok hbut h3 hob hc (by omega) e9)
    · show am_E _ _ _ 30 [(5, .inl ((I 72 i))), (4, .inl (i : Int)), (3, .inl p), (2, .inl but), (1, .inr (.inr (.inl (some 88)))), (0, .inr (.inr (.inl (some 71))))] [] (am_mm D I J ρ) _
      refine am_e_ss 1 (q := (31, [(5, .inl ((I 72 i))), (4, .inl (i : Int)), (3, .inl p), (2, .inl but), (1, .inr (.inr (.inl (some 88)))), (0, .inr (.inr (.inl (some 71))))], [.inl p], (am_mm D I J ρ))) rfl ?_
      refine am_e_if2 rfl ⟨by omega, by omega⟩ (fun (hw3 : p < 0) => ?_) (fun (hw3 : ¬ (p < 0)) => ?_)
      · show am_E _ _ _ 44 [(5, .inl ((I 72 i))), (4, .inl (i : Int)), (3, .inl p), (2, .inl but), (1, .inr (.inr (.inl (some 88)))), (0, .inr (.inr (.inl (some 71))))] [] (am_mm D I J ρ) _
        refine am_e_ss 4 (q := (6, [(4, .inl ((i : Int) + 1)), (3, .inl ((I 72 i))), (5, .inl ((I 72 i))), (2, .inl but), (1, .inr (.inr (.inl (some 88)))), (0, .inr (.inr (.inl (some 71))))], [], (am_mm D I J ρ))) rfl ?_
        have e9 : (I 72 i) = ((sp_ob S).take (i + 1)).foldl (sp_mos (I 88) but) (-5) := by
          rw [List.take_succ, List.getElem?_eq_getElem hil, Option.toList_some, List.foldl_append, ← hp]
          show _ = sp_mos (I 88) but p ((sp_ob S)[i])
          unfold sp_mos
          have hxe : I 88 (I 72 i).toNat = I 88 (sp_ob S)[i] := by rw [hxi]; rfl
          split
          · rename_i h; first | exact hxi | (exfalso; omega)
          · rename_i h; first | rfl | (exfalso; apply h; omega)
        exact am_less (lv := [(4, .inl ((i + 1) : Int)), (3, .inl ((I 72 i))), (2, .inl but), (1, .inr (.inr (.inl (some 88)))), (0, .inr (.inr (.inl (some 71))))]) rfl (List.forall_mem_cons.mpr ⟨rfl, List.forall_mem_cons.mpr ⟨rfl, List.forall_mem_cons.mpr ⟨rfl, List.forall_mem_cons.mpr ⟨rfl, List.forall_mem_cons.mpr ⟨rfl, List.forall_mem_nil _⟩⟩⟩⟩⟩) (c_mostOf_88_l d (i := i + 1) hok hbut h3 hob hc (by omega) e9)
      · show am_E _ _ _ 34 [(5, .inl ((I 72 i))), (4, .inl (i : Int)), (3, .inl p), (2, .inl but), (1, .inr (.inr (.inl (some 88)))), (0, .inr (.inr (.inl (some 71))))] [] (am_mm D I J ρ) _
        refine am_e_ss 2 (q := (37, [(5, .inl ((I 72 i))), (4, .inl (i : Int)), (3, .inl p), (2, .inl but), (1, .inr (.inr (.inl (some 88)))), (0, .inr (.inr (.inl (some 71))))], [.inl ((I 72 i)), .inr (.inr (.inl (some 88)))], (am_mm D I J ρ))) rfl ?_
        refine am_e_iaload (m := 6) rfl rfl (by omega) (by omega) (by omega) ?_
        show am_E _ _ _ 38 [(5, .inl ((I 72 i))), (4, .inl (i : Int)), (3, .inl p), (2, .inl but), (1, .inr (.inr (.inl (some 88)))), (0, .inr (.inr (.inl (some 71))))] [.inl ((I 88 ((I 72 i)).toNat))] (am_mm D I J ρ) _
        refine am_e_ss 2 (q := (40, [(5, .inl ((I 72 i))), (4, .inl (i : Int)), (3, .inl p), (2, .inl but), (1, .inr (.inr (.inl (some 88)))), (0, .inr (.inr (.inl (some 71))))], [.inl p, .inr (.inr (.inl (some 88))), .inl ((I 88 ((I 72 i)).toNat))], (am_mm D I J ρ))) rfl ?_
        refine am_e_iaload (m := 6) rfl rfl (by omega) (by omega) (by omega) ?_
        show am_E _ _ _ 41 [(5, .inl ((I 72 i))), (4, .inl (i : Int)), (3, .inl p), (2, .inl but), (1, .inr (.inr (.inl (some 88)))), (0, .inr (.inr (.inl (some 71))))] [.inl ((I 88 (p).toNat)), .inl ((I 88 ((I 72 i)).toNat))] (am_mm D I J ρ) _
        refine am_e_icmp2 rfl ⟨by omega, by omega⟩ ⟨by omega, by omega⟩ (fun (hw4 : (I 88 ((I 72 i)).toNat) ≤ (I 88 (p).toNat)) => ?_) (fun (hw4 : ¬ ((I 88 ((I 72 i)).toNat) ≤ (I 88 (p).toNat))) => ?_)
        · show am_E _ _ _ 47 [(5, .inl ((I 72 i))), (4, .inl (i : Int)), (3, .inl p), (2, .inl but), (1, .inr (.inr (.inl (some 88)))), (0, .inr (.inr (.inl (some 71))))] [] (am_mm D I J ρ) _
          refine am_e_ss 2 (q := (6, [(4, .inl ((i : Int) + 1)), (5, .inl ((I 72 i))), (3, .inl p), (2, .inl but), (1, .inr (.inr (.inl (some 88)))), (0, .inr (.inr (.inl (some 71))))], [], (am_mm D I J ρ))) rfl ?_
          have e9 : p = ((sp_ob S).take (i + 1)).foldl (sp_mos (I 88) but) (-5) := by
            rw [List.take_succ, List.getElem?_eq_getElem hil, Option.toList_some, List.foldl_append, ← hp]
            show _ = sp_mos (I 88) but p ((sp_ob S)[i])
            unfold sp_mos
            have hxe : I 88 (I 72 i).toNat = I 88 (sp_ob S)[i] := by rw [hxi]; rfl
            split
            · rename_i h; first | exact hxi | (exfalso; omega)
            · rename_i h; first | rfl | (exfalso; apply h; omega)
          exact am_less (lv := [(4, .inl ((i + 1) : Int)), (3, .inl p), (2, .inl but), (1, .inr (.inr (.inl (some 88)))), (0, .inr (.inr (.inl (some 71))))]) rfl (List.forall_mem_cons.mpr ⟨rfl, List.forall_mem_cons.mpr ⟨rfl, List.forall_mem_cons.mpr ⟨rfl, List.forall_mem_cons.mpr ⟨rfl, List.forall_mem_cons.mpr ⟨rfl, List.forall_mem_nil _⟩⟩⟩⟩⟩) (c_mostOf_88_l d (i := i + 1) hok hbut h3 hob hc (by omega) e9)
        · show am_E _ _ _ 44 [(5, .inl ((I 72 i))), (4, .inl (i : Int)), (3, .inl p), (2, .inl but), (1, .inr (.inr (.inl (some 88)))), (0, .inr (.inr (.inl (some 71))))] [] (am_mm D I J ρ) _
          refine am_e_ss 4 (q := (6, [(4, .inl ((i : Int) + 1)), (3, .inl ((I 72 i))), (5, .inl ((I 72 i))), (2, .inl but), (1, .inr (.inr (.inl (some 88)))), (0, .inr (.inr (.inl (some 71))))], [], (am_mm D I J ρ))) rfl ?_
          have e9 : (I 72 i) = ((sp_ob S).take (i + 1)).foldl (sp_mos (I 88) but) (-5) := by
            rw [List.take_succ, List.getElem?_eq_getElem hil, Option.toList_some, List.foldl_append, ← hp]
            show _ = sp_mos (I 88) but p ((sp_ob S)[i])
            unfold sp_mos
            have hxe : I 88 (I 72 i).toNat = I 88 (sp_ob S)[i] := by rw [hxi]; rfl
            split
            · rename_i h; first | exact hxi | (exfalso; omega)
            · rename_i h; first | rfl | (exfalso; apply h; omega)
          exact am_less (lv := [(4, .inl ((i + 1) : Int)), (3, .inl ((I 72 i))), (2, .inl but), (1, .inr (.inr (.inl (some 88)))), (0, .inr (.inr (.inl (some 71))))]) rfl (List.forall_mem_cons.mpr ⟨rfl, List.forall_mem_cons.mpr ⟨rfl, List.forall_mem_cons.mpr ⟨rfl, List.forall_mem_cons.mpr ⟨rfl, List.forall_mem_cons.mpr ⟨rfl, List.forall_mem_nil _⟩⟩⟩⟩⟩) (c_mostOf_88_l d (i := i + 1) hok hbut h3 hob hc (by omega) e9)
termination_by (sp_ob S).length - i
decreasing_by all_goals omega
theorem c_mostOf_88 {X : Nat × (Nat → Int)} {D : List (Nat × Nat)} {I J : Nat → Nat → Int} {ρ : Nat → Nat → Option Nat} (d : Nat) {S : Nat → Int} {B but : Int} (hok : r_ok S B) (hbut : -10 ≤ but ∧ but ≤ 10) (h3 : I 71 3 = sp_ops S) (hob : am_rowl (I 72) 0 (sp_ob S)) (hc : ∀ b, b < 6 → 0 ≤ I 88 b ∧ I 88 b ≤ 100)  : am_E X d 77 0 [(0, .inr (.inr (.inl (some 71)))), (1, .inr (.inr (.inl (some 88)))), (2, .inl but)] [] (am_mm D I J ρ) (fun r => r = (some (.inl ((sp_mo (I 88) but (sp_ob S)))), (am_mm D I J ρ))) := by
  refine am_e_ss 4 (q := (6, [(4, .inl 0), (3, .inl (-5)), (0, .inr (.inr (.inl (some 71)))), (1, .inr (.inr (.inl (some 88)))), (2, .inl but)], [], (am_mm D I J ρ))) rfl ?_
  exact am_less (lv := [(4, .inl (0 : Int)), (3, .inl ((-5))), (2, .inl but), (1, .inr (.inr (.inl (some 88)))), (0, .inr (.inr (.inl (some 71))))]) rfl (List.forall_mem_cons.mpr ⟨rfl, List.forall_mem_cons.mpr ⟨rfl, List.forall_mem_cons.mpr ⟨rfl, List.forall_mem_cons.mpr ⟨rfl, List.forall_mem_cons.mpr ⟨rfl, List.forall_mem_nil _⟩⟩⟩⟩⟩) (c_mostOf_88_l d (i := 0) hok hbut h3 hob hc (by omega) rfl)
theorem c_mostOf_89_l {X : Nat × (Nat → Int)} {D : List (Nat × Nat)} {I J : Nat → Nat → Int} {ρ : Nat → Nat → Option Nat} (d : Nat) {S : Nat → Int} {B but : Int} (hok : r_ok S B) (hbut : -10 ≤ but ∧ but ≤ 10) (h3 : I 71 3 = sp_ops S) (hob : am_rowl (I 72) 0 (sp_ob S)) (hc : ∀ b, b < 6 → 0 ≤ I 89 b ∧ I 89 b ≤ 100) {p : Int} {i : Nat} (hi : i ≤ (sp_ob S).length) (hp : p = ((sp_ob S).take i).foldl (sp_mos (I 89) but) (-5)) : am_E X d 77 6 [(4, .inl (i : Int)), (3, .inl p), (2, .inl but), (1, .inr (.inr (.inl (some 89)))), (0, .inr (.inr (.inl (some 71))))] [] (am_mm D I J ρ) (fun r => r = (some (.inl ((sp_mo (I 89) but (sp_ob S)))), (am_mm D I J ρ))) := by
  have h19 := r_ok_19 hok
  have ob := sp_ops_b hok
  have obl := sp_ob_len (S := S)
  have hpb := sp_mo_b (c := (I 89)) (but := but) (L := (sp_ob S).take i) (s := -5) (fun b hb => by have := (sp_ob_mem.mp (List.mem_of_mem_take hb)).1; omega) (Or.inl rfl)
  rw [← hp] at hpb
  refine am_e_ss 3 (q := (12, [(4, .inl (i : Int)), (3, .inl p), (2, .inl but), (1, .inr (.inr (.inl (some 89)))), (0, .inr (.inr (.inl (some 71))))], [.inl ((I 71 3)), .inl (i : Int)], (am_mm D I J ρ))) rfl ?_
  refine am_e_icmp2 rfl ⟨by omega, by omega⟩ ⟨by omega, by omega⟩ (fun (hw1 : (I 71 3) ≤ (i : Int)) => ?_) (fun (hw1 : ¬ ((I 71 3) ≤ (i : Int))) => ?_)
  · show am_E _ _ _ 53 [(4, .inl (i : Int)), (3, .inl p), (2, .inl but), (1, .inr (.inr (.inl (some 89)))), (0, .inr (.inr (.inl (some 71))))] [] (am_mm D I J ρ) _
    refine am_e_ss 1 (q := (54, [(4, .inl (i : Int)), (3, .inl p), (2, .inl but), (1, .inr (.inr (.inl (some 89)))), (0, .inr (.inr (.inl (some 71))))], [.inl p], (am_mm D I J ρ))) rfl ?_
    refine am_e_ireturn rfl rfl ?_
    rw [hp, List.take_of_length_le (by omega)]
    rfl
  · show am_E _ _ _ 15 [(4, .inl (i : Int)), (3, .inl p), (2, .inl but), (1, .inr (.inr (.inl (some 89)))), (0, .inr (.inr (.inl (some 71))))] [] (am_mm D I J ρ) _
    have hil : i < (sp_ob S).length := by omega
    have hxi := hob i _ (List.getElem?_eq_getElem hil)
    rw [Nat.zero_add] at hxi
    have hx6 := (sp_ob_mem.mp (List.getElem_mem hil)).1
    have hcx := hc (sp_ob S)[i] (by omega)
    have hcx2 : I 89 (I 72 i).toNat = I 89 (sp_ob S)[i] := by rw [hxi]; rfl
    have hcp := hc p.toNat (by omega)
    refine am_e_ss 3 (q := (21, [(4, .inl (i : Int)), (3, .inl p), (2, .inl but), (1, .inr (.inr (.inl (some 89)))), (0, .inr (.inr (.inl (some 71))))], [.inl (i : Int), .inr (.inr (.inl (some 72)))], (am_mm D I J ρ))) rfl ?_
    refine am_e_iaload (m := 6) rfl rfl (by omega) (by omega) (by omega) ?_
    show am_E _ _ _ 22 [(4, .inl (i : Int)), (3, .inl p), (2, .inl but), (1, .inr (.inr (.inl (some 89)))), (0, .inr (.inr (.inl (some 71))))] [.inl ((I 72 i))] (am_mm D I J ρ) _
    refine am_e_ss 3 (q := (27, [(5, .inl ((I 72 i))), (4, .inl (i : Int)), (3, .inl p), (2, .inl but), (1, .inr (.inr (.inl (some 89)))), (0, .inr (.inr (.inl (some 71))))], [.inl but, .inl ((I 72 i))], (am_mm D I J ρ))) rfl ?_
    refine am_e_icmp2 rfl ⟨by omega, by omega⟩ ⟨by omega, by omega⟩ (fun (hw2 : (I 72 i) = but) => ?_) (fun (hw2 : ¬ ((I 72 i) = but)) => ?_)
    · show am_E _ _ _ 47 [(5, .inl ((I 72 i))), (4, .inl (i : Int)), (3, .inl p), (2, .inl but), (1, .inr (.inr (.inl (some 89)))), (0, .inr (.inr (.inl (some 71))))] [] (am_mm D I J ρ) _
      refine am_e_ss 2 (q := (6, [(4, .inl ((i : Int) + 1)), (5, .inl ((I 72 i))), (3, .inl p), (2, .inl but), (1, .inr (.inr (.inl (some 89)))), (0, .inr (.inr (.inl (some 71))))], [], (am_mm D I J ρ))) rfl ?_
      have e9 : p = ((sp_ob S).take (i + 1)).foldl (sp_mos (I 89) but) (-5) := by
        rw [List.take_succ, List.getElem?_eq_getElem hil, Option.toList_some, List.foldl_append, ← hp]
        show _ = sp_mos (I 89) but p ((sp_ob S)[i])
        unfold sp_mos
        have hxe : I 89 (I 72 i).toNat = I 89 (sp_ob S)[i] := by rw [hxi]; rfl
        split
        · rename_i h; first | exact hxi | (exfalso; omega)
        · rename_i h; first | rfl | (exfalso; apply h; omega)
      exact am_less (lv := [(4, .inl ((i + 1) : Int)), (3, .inl p), (2, .inl but), (1, .inr (.inr (.inl (some 89)))), (0, .inr (.inr (.inl (some 71))))]) rfl (List.forall_mem_cons.mpr ⟨rfl, List.forall_mem_cons.mpr ⟨rfl, List.forall_mem_cons.mpr ⟨rfl, List.forall_mem_cons.mpr ⟨rfl, List.forall_mem_cons.mpr ⟨rfl, List.forall_mem_nil _⟩⟩⟩⟩⟩) (c_mostOf_89_l d (i := i + 1) hok hbut h3 hob hc (by omega) e9)
    · show am_E _ _ _ 30 [(5, .inl ((I 72 i))), (4, .inl (i : Int)), (3, .inl p), (2, .inl but), (1, .inr (.inr (.inl (some 89)))), (0, .inr (.inr (.inl (some 71))))] [] (am_mm D I J ρ) _
      refine am_e_ss 1 (q := (31, [(5, .inl ((I 72 i))), (4, .inl (i : Int)), (3, .inl p), (2, .inl but), (1, .inr (.inr (.inl (some 89)))), (0, .inr (.inr (.inl (some 71))))], [.inl p], (am_mm D I J ρ))) rfl ?_
      refine am_e_if2 rfl ⟨by omega, by omega⟩ (fun (hw3 : p < 0) => ?_) (fun (hw3 : ¬ (p < 0)) => ?_)
      · show am_E _ _ _ 44 [(5, .inl ((I 72 i))), (4, .inl (i : Int)), (3, .inl p), (2, .inl but), (1, .inr (.inr (.inl (some 89)))), (0, .inr (.inr (.inl (some 71))))] [] (am_mm D I J ρ) _
        refine am_e_ss 4 (q := (6, [(4, .inl ((i : Int) + 1)), (3, .inl ((I 72 i))), (5, .inl ((I 72 i))), (2, .inl but), (1, .inr (.inr (.inl (some 89)))), (0, .inr (.inr (.inl (some 71))))], [], (am_mm D I J ρ))) rfl ?_
        have e9 : (I 72 i) = ((sp_ob S).take (i + 1)).foldl (sp_mos (I 89) but) (-5) := by
          rw [List.take_succ, List.getElem?_eq_getElem hil, Option.toList_some, List.foldl_append, ← hp]
          show _ = sp_mos (I 89) but p ((sp_ob S)[i])
          unfold sp_mos
          have hxe : I 89 (I 72 i).toNat = I 89 (sp_ob S)[i] := by rw [hxi]; rfl
          split
          · rename_i h; first | exact hxi | (exfalso; omega)
          · rename_i h; first | rfl | (exfalso; apply h; omega)
        exact am_less (lv := [(4, .inl ((i + 1) : Int)), (3, .inl ((I 72 i))), (2, .inl but), (1, .inr (.inr (.inl (some 89)))), (0, .inr (.inr (.inl (some 71))))]) rfl (List.forall_mem_cons.mpr ⟨rfl, List.forall_mem_cons.mpr ⟨rfl, List.forall_mem_cons.mpr ⟨rfl, List.forall_mem_cons.mpr ⟨rfl, List.forall_mem_cons.mpr ⟨rfl, List.forall_mem_nil _⟩⟩⟩⟩⟩) (c_mostOf_89_l d (i := i + 1) hok hbut h3 hob hc (by omega) e9)
      · show am_E _ _ _ 34 [(5, .inl ((I 72 i))), (4, .inl (i : Int)), (3, .inl p), (2, .inl but), (1, .inr (.inr (.inl (some 89)))), (0, .inr (.inr (.inl (some 71))))] [] (am_mm D I J ρ) _
        refine am_e_ss 2 (q := (37, [(5, .inl ((I 72 i))), (4, .inl (i : Int)), (3, .inl p), (2, .inl but), (1, .inr (.inr (.inl (some 89)))), (0, .inr (.inr (.inl (some 71))))], [.inl ((I 72 i)), .inr (.inr (.inl (some 89)))], (am_mm D I J ρ))) rfl ?_
        refine am_e_iaload (m := 6) rfl rfl (by omega) (by omega) (by omega) ?_
        show am_E _ _ _ 38 [(5, .inl ((I 72 i))), (4, .inl (i : Int)), (3, .inl p), (2, .inl but), (1, .inr (.inr (.inl (some 89)))), (0, .inr (.inr (.inl (some 71))))] [.inl ((I 89 ((I 72 i)).toNat))] (am_mm D I J ρ) _
        refine am_e_ss 2 (q := (40, [(5, .inl ((I 72 i))), (4, .inl (i : Int)), (3, .inl p), (2, .inl but), (1, .inr (.inr (.inl (some 89)))), (0, .inr (.inr (.inl (some 71))))], [.inl p, .inr (.inr (.inl (some 89))), .inl ((I 89 ((I 72 i)).toNat))], (am_mm D I J ρ))) rfl ?_
        refine am_e_iaload (m := 6) rfl rfl (by omega) (by omega) (by omega) ?_
        show am_E _ _ _ 41 [(5, .inl ((I 72 i))), (4, .inl (i : Int)), (3, .inl p), (2, .inl but), (1, .inr (.inr (.inl (some 89)))), (0, .inr (.inr (.inl (some 71))))] [.inl ((I 89 (p).toNat)), .inl ((I 89 ((I 72 i)).toNat))] (am_mm D I J ρ) _
        refine am_e_icmp2 rfl ⟨by omega, by omega⟩ ⟨by omega, by omega⟩ (fun (hw4 : (I 89 ((I 72 i)).toNat) ≤ (I 89 (p).toNat)) => ?_) (fun (hw4 : ¬ ((I 89 ((I 72 i)).toNat) ≤ (I 89 (p).toNat))) => ?_)
        · show am_E _ _ _ 47 [(5, .inl ((I 72 i))), (4, .inl (i : Int)), (3, .inl p), (2, .inl but), (1, .inr (.inr (.inl (some 89)))), (0, .inr (.inr (.inl (some 71))))] [] (am_mm D I J ρ) _
          refine am_e_ss 2 (q := (6, [(4, .inl ((i : Int) + 1)), (5, .inl ((I 72 i))), (3, .inl p), (2, .inl but), (1, .inr (.inr (.inl (some 89)))), (0, .inr (.inr (.inl (some 71))))], [], (am_mm D I J ρ))) rfl ?_
          have e9 : p = ((sp_ob S).take (i + 1)).foldl (sp_mos (I 89) but) (-5) := by
            rw [List.take_succ, List.getElem?_eq_getElem hil, Option.toList_some, List.foldl_append, ← hp]
            show _ = sp_mos (I 89) but p ((sp_ob S)[i])
            unfold sp_mos
            have hxe : I 89 (I 72 i).toNat = I 89 (sp_ob S)[i] := by rw [hxi]; rfl
            split
            · rename_i h; first | exact hxi | (exfalso; omega)
            · rename_i h; first | rfl | (exfalso; apply h; omega)
          exact am_less (lv := [(4, .inl ((i + 1) : Int)), (3, .inl p), (2, .inl but), (1, .inr (.inr (.inl (some 89)))), (0, .inr (.inr (.inl (some 71))))]) rfl (List.forall_mem_cons.mpr ⟨rfl, List.forall_mem_cons.mpr ⟨rfl, List.forall_mem_cons.mpr ⟨rfl, List.forall_mem_cons.mpr ⟨rfl, List.forall_mem_cons.mpr ⟨rfl, List.forall_mem_nil _⟩⟩⟩⟩⟩) (c_mostOf_89_l d (i := i + 1) hok hbut h3 hob hc (by omega) e9)
        · show am_E _ _ _ 44 [(5, .inl ((I 72 i))), (4, .inl (i : Int)), (3, .inl p), (2, .inl but), (1, .inr (.inr (.inl (some 89)))), (0, .inr (.inr (.inl (some 71))))] [] (am_mm D I J ρ) _
          refine am_e_ss 4 (q := (6, [(4, .inl ((i : Int) + 1)), (3, .inl ((I 72 i))), (5, .inl ((I 72 i))), (2, .inl but), (1, .inr (.inr (.inl (some 89)))), (0, .inr (.inr (.inl (some 71))))], [], (am_mm D I J ρ))) rfl ?_
          have e9 : (I 72 i) = ((sp_ob S).take (i + 1)).foldl (sp_mos (I 89) but) (-5) := by
            rw [List.take_succ, List.getElem?_eq_getElem hil, Option.toList_some, List.foldl_append, ← hp]
            show _ = sp_mos (I 89) but p ((sp_ob S)[i])
            unfold sp_mos
            have hxe : I 89 (I 72 i).toNat = I 89 (sp_ob S)[i] := by rw [hxi]; rfl
            split
            · rename_i h; first | exact hxi | (exfalso; omega)
            · rename_i h; first | rfl | (exfalso; apply h; omega)
          exact am_less (lv := [(4, .inl ((i + 1) : Int)), (3, .inl ((I 72 i))), (2, .inl but), (1, .inr (.inr (.inl (some 89)))), (0, .inr (.inr (.inl (some 71))))]) rfl (List.forall_mem_cons.mpr ⟨rfl, List.forall_mem_cons.mpr ⟨rfl, List.forall_mem_cons.mpr ⟨rfl, List.forall_mem_cons.mpr ⟨rfl, List.forall_mem_cons.mpr ⟨rfl, List.forall_mem_nil _⟩⟩⟩⟩⟩) (c_mostOf_89_l d (i := i + 1) hok hbut h3 hob hc (by omega) e9)
termination_by (sp_ob S).length - i
decreasing_by all_goals omega
theorem c_mostOf_89 {X : Nat × (Nat → Int)} {D : List (Nat × Nat)} {I J : Nat → Nat → Int} {ρ : Nat → Nat → Option Nat} (d : Nat) {S : Nat → Int} {B but : Int} (hok : r_ok S B) (hbut : -10 ≤ but ∧ but ≤ 10) (h3 : I 71 3 = sp_ops S) (hob : am_rowl (I 72) 0 (sp_ob S)) (hc : ∀ b, b < 6 → 0 ≤ I 89 b ∧ I 89 b ≤ 100)  : am_E X d 77 0 [(0, .inr (.inr (.inl (some 71)))), (1, .inr (.inr (.inl (some 89)))), (2, .inl but)] [] (am_mm D I J ρ) (fun r => r = (some (.inl ((sp_mo (I 89) but (sp_ob S)))), (am_mm D I J ρ))) := by
  refine am_e_ss 4 (q := (6, [(4, .inl 0), (3, .inl (-5)), (0, .inr (.inr (.inl (some 71)))), (1, .inr (.inr (.inl (some 89)))), (2, .inl but)], [], (am_mm D I J ρ))) rfl ?_
  exact am_less (lv := [(4, .inl (0 : Int)), (3, .inl ((-5))), (2, .inl but), (1, .inr (.inr (.inl (some 89)))), (0, .inr (.inr (.inl (some 71))))]) rfl (List.forall_mem_cons.mpr ⟨rfl, List.forall_mem_cons.mpr ⟨rfl, List.forall_mem_cons.mpr ⟨rfl, List.forall_mem_cons.mpr ⟨rfl, List.forall_mem_cons.mpr ⟨rfl, List.forall_mem_nil _⟩⟩⟩⟩⟩) (c_mostOf_89_l d (i := 0) hok hbut h3 hob hc (by omega) rfl)
theorem sp_mo_cg {c c' : Nat → Int} {but : Int} : ∀ {L : List Nat} {s : Int}, (∀ b, b < 6 → c b = c' b) → (∀ b ∈ L, b < 6) → (s = -5 ∨ (0 ≤ s ∧ s ≤ 5)) → L.foldl (sp_mos c but) s = L.foldl (sp_mos c' but) s := by
  intro L
  induction L with
  | nil => intro s _ _ _; rfl
  | cons b L ih =>
    intro s h hl hs
    have hb := hl b List.mem_cons_self
    have e : sp_mos c but s b = sp_mos c' but s b := by
      unfold sp_mos
      by_cases e1 : s < 0
      · by_cases e2 : (b : Int) = but
        · rw [if_neg (fun h => h.1 e2), if_neg (fun h => h.1 e2)]
        · rw [if_pos ⟨e2, Or.inl e1⟩, if_pos ⟨e2, Or.inl e1⟩]
      · rw [h b hb, h s.toNat (by omega)]
    rw [List.foldl_cons, List.foldl_cons, e]
    refine ih h (fun x hx => hl x (List.mem_cons_of_mem _ hx)) ?_
    unfold sp_mos
    split
    · right; omega
    · exact hs
theorem sp_ob_6 {S : Nat → Int} {B : Int} (hok : r_ok S B) : ∀ b ∈ sp_ob S, b < 6 := fun b hb => by
  have := (sp_ob_mem.mp hb).1
  have := (r_ok_19 hok).2
  omega
theorem c_mw_87 {X : Nat × (Nat → Int)} {D : List (Nat × Nat)} {I J : Nat → Nat → Int} {ρ : Nat → Nat → Option Nat} (d : Nat) {S : Nat → Int} {B but : Int} {VL : Nat → List Nat} (hok : r_ok S B) (hord : c_ords I S) (hvoi : c_voi I VL (S 19).toNat) (hv : sp_vcs S VL) (hbut : -10 ≤ but ∧ but ≤ 10) : am_E X d 77 0 [(0, .inr (.inr (.inl (some 71)))), (1, .inr (.inr (.inl (some 87)))), (2, .inl but)] [] (am_mm D I J ρ) (fun r => r = (some (.inl (sp_mw S VL 0 but)), am_mm D I J ρ)) := by
  have h19 := r_ok_19 hok
  refine (c_mostOf_87 d hok hbut hord.1 hord.2.1 (fun b hb => ?_)).imp ?_
  · have h := hvoi.2.2.1 b hb
    have hb2 := sp_tls_b (VL := VL) (way := 0) (b := (b : Int)) (S 19).toNat (sp_vcs_l hok hv)
    omega
  · intro r h
    rw [h]
    congr 3
    exact sp_mo_cg (fun b hb => by have h := hvoi.2.2.1 b hb; first | exact h.1 | exact h.2.1 | exact h.2.2) (sp_ob_6 hok) (Or.inl rfl)
theorem c_mw_88 {X : Nat × (Nat → Int)} {D : List (Nat × Nat)} {I J : Nat → Nat → Int} {ρ : Nat → Nat → Option Nat} (d : Nat) {S : Nat → Int} {B but : Int} {VL : Nat → List Nat} (hok : r_ok S B) (hord : c_ords I S) (hvoi : c_voi I VL (S 19).toNat) (hv : sp_vcs S VL) (hbut : -10 ≤ but ∧ but ≤ 10) : am_E X d 77 0 [(0, .inr (.inr (.inl (some 71)))), (1, .inr (.inr (.inl (some 88)))), (2, .inl but)] [] (am_mm D I J ρ) (fun r => r = (some (.inl (sp_mw S VL 1 but)), am_mm D I J ρ)) := by
  have h19 := r_ok_19 hok
  refine (c_mostOf_88 d hok hbut hord.1 hord.2.1 (fun b hb => ?_)).imp ?_
  · have h := hvoi.2.2.1 b hb
    have hb2 := sp_tls_b (VL := VL) (way := 1) (b := (b : Int)) (S 19).toNat (sp_vcs_l hok hv)
    omega
  · intro r h
    rw [h]
    congr 3
    exact sp_mo_cg (fun b hb => by have h := hvoi.2.2.1 b hb; first | exact h.1 | exact h.2.1 | exact h.2.2) (sp_ob_6 hok) (Or.inl rfl)
theorem c_mw_89 {X : Nat × (Nat → Int)} {D : List (Nat × Nat)} {I J : Nat → Nat → Int} {ρ : Nat → Nat → Option Nat} (d : Nat) {S : Nat → Int} {B but : Int} {VL : Nat → List Nat} (hok : r_ok S B) (hord : c_ords I S) (hvoi : c_voi I VL (S 19).toNat) (hv : sp_vcs S VL) (hbut : -10 ≤ but ∧ but ≤ 10) : am_E X d 77 0 [(0, .inr (.inr (.inl (some 71)))), (1, .inr (.inr (.inl (some 89)))), (2, .inl but)] [] (am_mm D I J ρ) (fun r => r = (some (.inl (sp_mw S VL 2 but)), am_mm D I J ρ)) := by
  have h19 := r_ok_19 hok
  refine (c_mostOf_89 d hok hbut hord.1 hord.2.1 (fun b hb => ?_)).imp ?_
  · have h := hvoi.2.2.1 b hb
    have hb2 := sp_tls_b (VL := VL) (way := 2) (b := (b : Int)) (S 19).toNat (sp_vcs_l hok hv)
    omega
  · intro r h
    rw [h]
    congr 3
    exact sp_mo_cg (fun b hb => by have h := hvoi.2.2.1 b hb; first | exact h.1 | exact h.2.1 | exact h.2.2) (sp_ob_6 hok) (Or.inl rfl)
theorem sp_mo_in {c : Nat → Int} {but : Int} : ∀ {L : List Nat} {s : Int} {x : Nat}, L.foldl (sp_mos c but) s = (x : Int) → (x ∈ L ∧ ¬ (x : Int) = but) ∨ s = (x : Int) := by
  intro L
  induction L with
  | nil => intro s x h; exact Or.inr h
  | cons b L ih =>
    intro s x h
    rw [List.foldl_cons] at h
    rcases ih h with h1 | h1
    · exact Or.inl ⟨List.mem_cons_of_mem _ h1.1, h1.2⟩
    · unfold sp_mos at h1
      split at h1
      · rename_i h2
        have : b = x := by omega
        subst this
        exact Or.inl ⟨List.mem_cons_self, h2.1⟩
      · exact Or.inr h1
theorem sp_mw_in {S : Nat → Int} {VL : Nat → List Nat} {B way but : Int} (hok : r_ok S B) : ∀ x : Nat, sp_mw S VL way but = (x : Int) → x ∈ sp_ob S := by
  intro x h
  rcases sp_mo_in h with h | h
  · exact h.1
  · omega
theorem sp_mw_ne {S : Nat → Int} {VL : Nat → List Nat} {B way but : Int} (hok : r_ok S B) : ∀ x : Nat, sp_mw S VL way but = (x : Int) → ¬ (x : Int) = but := by
  intro x h
  rcases sp_mo_in h with h | h
  · exact h.2
  · omega
theorem c_rounds {X : Nat × (Nat → Int)} {D : List (Nat × Nat)} {I J : Nat → Nat → Int} {ρ : Nat → Nat → Option Nat} (d : Nat) {S : Nat → Int} {B : Int} {VL : Nat → List Nat} (hok : r_ok S B) (hord : c_ords I S) (hvoi : c_voi I VL (S 19).toNat) (hv : sp_vcs S VL) (ho : ¬ sp_ops S = 0)  : am_E X (d + 1) 79 0 [(0, .inr (.inr (.inl (some 71))))] [] (am_mm D I J ρ) (fun r => r = (some (.inl ((sp_rounds S (sp_Vr VL) (sp_Zr VL)))), (am_mm D I J ρ))) := by
  have h19 := r_ok_19 hok
  have h1 := sp_mw_0 (way := 2) (but := -5) hok hv ho (by omega)
  have h2 := sp_mw_most (way := 2) (but := (sp_mw S VL 2 (-5))) hok hv
  have hvo := r_vl_vo hok (sp_vcs_vo hok hv) (sp_rep_cn (sp_vcs_l hok hv))
  have h2b := (sp_most_b (way := 2) (but := (sp_mw S VL 2 (-5))) hok hvo).2
  obtain ⟨a, hae⟩ : ∃ a : Nat, (sp_mw S VL 2 (-5)) = (a : Int) := ⟨(sp_mw S VL 2 (-5)).toNat, by omega⟩
  have ho1 : ∀ x : Nat, (sp_mw S VL 2 (-5)) = (x : Int) → x ∈ sp_ob S := sp_mw_in hok
  have ho2 : ∀ x : Nat, (sp_mw S VL 2 (sp_mw S VL 2 (-5))) = (x : Int) → x ∈ sp_ob S ∧ ¬ (x : Int) = (sp_mw S VL 2 (-5)) := fun x hx => ⟨sp_mw_in hok x hx, sp_mw_ne hok x hx⟩
  have hahf : 0 ≤ sp_most S (sp_Vr VL) (sp_Zr VL) 2 (sp_mw S VL 2 (-5)) → (sp_mw S VL 2 (sp_mw S VL 2 (-5))) = sp_most S (sp_Vr VL) (sp_Zr VL) 2 (sp_mw S VL 2 (-5)) → sp_ahead S (sp_Vr VL) (sp_Zr VL) (sp_mw S VL 2 (-5)) (sp_mw S VL 2 (sp_mw S VL 2 (-5))) = sp_tla VL (sp_mw S VL 2 (-5)) (sp_mw S VL 2 (sp_mw S VL 2 (-5))) (S 19).toNat := by
    intro g1 g2
    obtain ⟨b, hbe⟩ : ∃ b : Nat, (sp_mw S VL 2 (sp_mw S VL 2 (-5))) = (b : Int) := ⟨(sp_mw S VL 2 (sp_mw S VL 2 (-5))).toNat, by omega⟩
    have hb := ho2 b hbe
    rw [hbe]
    rw [hae] at hb ⊢
    exact sp_ahk_tla hok hv (sp_ob_mem.mp (ho1 a hae)) (sp_ob_mem.mp hb.1) (by omega) _ (Nat.le_refl _)
  have hlef : 0 ≤ sp_most S (sp_Vr VL) (sp_Zr VL) 2 (sp_mw S VL 2 (-5)) → (sp_mw S VL 2 (sp_mw S VL 2 (-5))) = sp_most S (sp_Vr VL) (sp_Zr VL) 2 (sp_mw S VL 2 (-5)) → I (91 + a) (sp_mw S VL 2 (sp_mw S VL 2 (-5))).toNat = sp_tla VL (sp_mw S VL 2 (-5)) (sp_mw S VL 2 (sp_mw S VL 2 (-5))) (S 19).toNat := by
    intro g1 g2
    rw [hvoi.2.2.2 a (sp_mw S VL 2 (sp_mw S VL 2 (-5))).toNat (by omega) (by omega), hae]
    rw [show (((sp_mw S VL 2 (a : Int)).toNat : Nat) : Int) = sp_mw S VL 2 (a : Int) by rw [← hae]; omega]
  have htb := sp_tla_b (VL := VL) (a := (sp_mw S VL 2 (-5))) (b := (sp_mw S VL 2 (sp_mw S VL 2 (-5)))) (S 19).toNat
  refine am_e_ss 4 (q := (7, [(0, .inr (.inr (.inl (some 71))))], [.inl (-5), .inr (.inr (.inl (some 89))), .inr (.inr (.inl (some 71)))], (am_mm D I J ρ))) rfl ?_
  refine am_e_virtual (Q := fun r => r = (some (.inl ((sp_mw S VL 2 (-5)))), (am_mm D I J ρ))) rfl rfl (Nat.le_of_ble_eq_true rfl) rfl rfl (Nat.le_of_ble_eq_true rfl) (Nat.le_of_ble_eq_true rfl) (c_mw_89 _ (but := (-5)) hok hord hvoi hv ⟨by omega, by omega⟩) ?_
  rintro r rfl
  show am_E _ _ _ 10 [(0, .inr (.inr (.inl (some 71))))] [.inl ((sp_mw S VL 2 (-5)))] (am_mm D I J ρ) _
  refine am_e_ss 5 (q := (17, [(1, .inl ((sp_mw S VL 2 (-5)))), (0, .inr (.inr (.inl (some 71))))], [.inl ((sp_mw S VL 2 (-5))), .inr (.inr (.inl (some 89))), .inr (.inr (.inl (some 71)))], (am_mm D I J ρ))) rfl ?_
  refine am_e_virtual (Q := fun r => r = (some (.inl ((sp_mw S VL 2 (sp_mw S VL 2 (-5))))), (am_mm D I J ρ))) rfl rfl (Nat.le_of_ble_eq_true rfl) rfl rfl (Nat.le_of_ble_eq_true rfl) (Nat.le_of_ble_eq_true rfl) (c_mw_89 _ (but := (sp_mw S VL 2 (-5))) hok hord hvoi hv ⟨by omega, by omega⟩) ?_
  rintro r rfl
  show am_E _ _ _ 20 [(1, .inl ((sp_mw S VL 2 (-5)))), (0, .inr (.inr (.inl (some 71))))] [.inl ((sp_mw S VL 2 (sp_mw S VL 2 (-5))))] (am_mm D I J ρ) _
  refine am_e_ss 2 (q := (22, [(2, .inl ((sp_mw S VL 2 (sp_mw S VL 2 (-5))))), (1, .inl ((sp_mw S VL 2 (-5)))), (0, .inr (.inr (.inl (some 71))))], [.inl ((sp_mw S VL 2 (-5)))], (am_mm D I J ρ))) rfl ?_
  refine am_e_if2 rfl ⟨by omega, by omega⟩ (fun (hw1 : (sp_mw S VL 2 (-5)) < 0) => ?_) (fun (hw1 : ¬ ((sp_mw S VL 2 (-5)) < 0)) => ?_)
  · show am_E _ _ _ 29 [(2, .inl ((sp_mw S VL 2 (sp_mw S VL 2 (-5))))), (1, .inl ((sp_mw S VL 2 (-5)))), (0, .inr (.inr (.inl (some 71))))] [] (am_mm D I J ρ) _
    refine am_e_ss 1 (q := (30, [(2, .inl ((sp_mw S VL 2 (sp_mw S VL 2 (-5))))), (1, .inl ((sp_mw S VL 2 (-5)))), (0, .inr (.inr (.inl (some 71))))], [.inl ((sp_mw S VL 2 (-5)))], (am_mm D I J ρ))) rfl ?_
    refine am_e_ireturn rfl rfl ?_
    have er : (sp_rounds S (sp_Vr VL) (sp_Zr VL)) = (sp_mw S VL 2 (-5)) := by
      unfold sp_rounds
      rw [← h1.2.1]
      rcases h2 with ⟨g1, g2⟩ | ⟨g1, g2⟩
      · first
        | (rw [if_pos g1]; done)
        | (rw [if_pos g1]; exfalso; omega)
        | (exfalso; omega)
      · rw [if_neg (by omega), ← g2]
        have hah : sp_ahead S (sp_Vr VL) (sp_Zr VL) (sp_mw S VL 2 (-5)) (sp_mw S VL 2 (sp_mw S VL 2 (-5))) = sp_tla VL (sp_mw S VL 2 (-5)) (sp_mw S VL 2 (sp_mw S VL 2 (-5))) (S 19).toNat := hahf g1 g2
        rw [hah]
        have hle := hlef g1 g2
        split <;> first | rfl | omega | (exfalso; omega)
    rw [er]
  · show am_E _ _ _ 25 [(2, .inl ((sp_mw S VL 2 (sp_mw S VL 2 (-5))))), (1, .inl ((sp_mw S VL 2 (-5)))), (0, .inr (.inr (.inl (some 71))))] [] (am_mm D I J ρ) _
    refine am_e_ss 1 (q := (26, [(2, .inl ((sp_mw S VL 2 (sp_mw S VL 2 (-5))))), (1, .inl ((sp_mw S VL 2 (-5)))), (0, .inr (.inr (.inl (some 71))))], [.inl ((sp_mw S VL 2 (sp_mw S VL 2 (-5))))], (am_mm D I J ρ))) rfl ?_
    refine am_e_if2 rfl ⟨by omega, by omega⟩ (fun (hw2 : 0 ≤ (sp_mw S VL 2 (sp_mw S VL 2 (-5)))) => ?_) (fun (hw2 : ¬ (0 ≤ (sp_mw S VL 2 (sp_mw S VL 2 (-5))))) => ?_)
    · show am_E _ _ _ 31 [(2, .inl ((sp_mw S VL 2 (sp_mw S VL 2 (-5))))), (1, .inl ((sp_mw S VL 2 (-5)))), (0, .inr (.inr (.inl (some 71))))] [] (am_mm D I J ρ) _
      refine am_e_ss 3 (q := (36, [(2, .inl ((sp_mw S VL 2 (sp_mw S VL 2 (-5))))), (1, .inl ((sp_mw S VL 2 (-5)))), (0, .inr (.inr (.inl (some 71))))], [.inl ((sp_mw S VL 2 (-5))), .inr (.inr (.inl (some 90)))], (am_mm D I J ρ))) rfl ?_
      refine am_e_aaload (m := 6) (c := 23) rfl rfl (by decide) (by omega) (by omega) (by omega) ?_
      rw [show ((am_mm D I J ρ)).2.2.2 90 ((sp_mw S VL 2 (-5))).toNat = some (91 + a) from (by rw [hae]; exact am_r90 (ρ := ρ) (by omega))]
      show am_E _ _ _ 37 [(2, .inl ((sp_mw S VL 2 (sp_mw S VL 2 (-5))))), (1, .inl ((sp_mw S VL 2 (-5)))), (0, .inr (.inr (.inl (some 71))))] [.inr (.inr (.inl (some (91 + a))))] (am_mm D I J ρ) _
      refine am_e_ss 1 (q := (38, [(2, .inl ((sp_mw S VL 2 (sp_mw S VL 2 (-5))))), (1, .inl ((sp_mw S VL 2 (-5)))), (0, .inr (.inr (.inl (some 71))))], [.inl ((sp_mw S VL 2 (sp_mw S VL 2 (-5)))), .inr (.inr (.inl (some (91 + a))))], (am_mm D I J ρ))) rfl ?_
      refine am_e_iaload (m := 6) rfl (am_k91 (by omega)) (by omega) (by omega) (by omega) ?_
      show am_E _ _ _ 39 [(2, .inl ((sp_mw S VL 2 (sp_mw S VL 2 (-5))))), (1, .inl ((sp_mw S VL 2 (-5)))), (0, .inr (.inr (.inl (some 71))))] [.inl ((I (91 + a) ((sp_mw S VL 2 (sp_mw S VL 2 (-5)))).toNat))] (am_mm D I J ρ) _
      refine am_e_ss 2 (q := (41, [(3, .inl ((I (91 + a) ((sp_mw S VL 2 (sp_mw S VL 2 (-5)))).toNat))), (2, .inl ((sp_mw S VL 2 (sp_mw S VL 2 (-5))))), (1, .inl ((sp_mw S VL 2 (-5)))), (0, .inr (.inr (.inl (some 71))))], [.inl ((I (91 + a) ((sp_mw S VL 2 (sp_mw S VL 2 (-5)))).toNat))], (am_mm D I J ρ))) rfl ?_
      refine am_e_if2 rfl ⟨by omega, by omega⟩ (fun (hw3 : ¬ (I (91 + a) ((sp_mw S VL 2 (sp_mw S VL 2 (-5)))).toNat) = 0) => ?_) (fun (hw3 : ¬ (¬ (I (91 + a) ((sp_mw S VL 2 (sp_mw S VL 2 (-5)))).toNat) = 0)) => ?_)
      · show am_E _ _ _ 50 [(3, .inl ((I (91 + a) ((sp_mw S VL 2 (sp_mw S VL 2 (-5)))).toNat))), (2, .inl ((sp_mw S VL 2 (sp_mw S VL 2 (-5))))), (1, .inl ((sp_mw S VL 2 (-5)))), (0, .inr (.inr (.inl (some 71))))] [] (am_mm D I J ρ) _
        refine am_e_ss 1 (q := (51, [(3, .inl ((I (91 + a) ((sp_mw S VL 2 (sp_mw S VL 2 (-5)))).toNat))), (2, .inl ((sp_mw S VL 2 (sp_mw S VL 2 (-5))))), (1, .inl ((sp_mw S VL 2 (-5)))), (0, .inr (.inr (.inl (some 71))))], [.inl ((I (91 + a) ((sp_mw S VL 2 (sp_mw S VL 2 (-5)))).toNat))], (am_mm D I J ρ))) rfl ?_
        refine am_e_if2 rfl ⟨by omega, by omega⟩ (fun (hw4 : (I (91 + a) ((sp_mw S VL 2 (sp_mw S VL 2 (-5)))).toNat) ≤ 0) => ?_) (fun (hw4 : ¬ ((I (91 + a) ((sp_mw S VL 2 (sp_mw S VL 2 (-5)))).toNat) ≤ 0)) => ?_)
        · show am_E _ _ _ 58 [(3, .inl ((I (91 + a) ((sp_mw S VL 2 (sp_mw S VL 2 (-5)))).toNat))), (2, .inl ((sp_mw S VL 2 (sp_mw S VL 2 (-5))))), (1, .inl ((sp_mw S VL 2 (-5)))), (0, .inr (.inr (.inl (some 71))))] [] (am_mm D I J ρ) _
          refine am_e_ss 1 (q := (59, [(3, .inl ((I (91 + a) ((sp_mw S VL 2 (sp_mw S VL 2 (-5)))).toNat))), (2, .inl ((sp_mw S VL 2 (sp_mw S VL 2 (-5))))), (1, .inl ((sp_mw S VL 2 (-5)))), (0, .inr (.inr (.inl (some 71))))], [.inl ((sp_mw S VL 2 (sp_mw S VL 2 (-5))))], (am_mm D I J ρ))) rfl ?_
          refine am_e_ireturn rfl rfl ?_
          have er : (sp_rounds S (sp_Vr VL) (sp_Zr VL)) = (sp_mw S VL 2 (sp_mw S VL 2 (-5))) := by
            unfold sp_rounds
            rw [← h1.2.1]
            rcases h2 with ⟨g1, g2⟩ | ⟨g1, g2⟩
            · first
              | (rw [if_pos g1]; done)
              | (rw [if_pos g1]; exfalso; omega)
              | (exfalso; omega)
            · rw [if_neg (by omega), ← g2]
              have hah : sp_ahead S (sp_Vr VL) (sp_Zr VL) (sp_mw S VL 2 (-5)) (sp_mw S VL 2 (sp_mw S VL 2 (-5))) = sp_tla VL (sp_mw S VL 2 (-5)) (sp_mw S VL 2 (sp_mw S VL 2 (-5))) (S 19).toNat := hahf g1 g2
              rw [hah]
              have hle := hlef g1 g2
              split <;> first | rfl | omega | (exfalso; omega)
          rw [er]
        · show am_E _ _ _ 54 [(3, .inl ((I (91 + a) ((sp_mw S VL 2 (sp_mw S VL 2 (-5)))).toNat))), (2, .inl ((sp_mw S VL 2 (sp_mw S VL 2 (-5))))), (1, .inl ((sp_mw S VL 2 (-5)))), (0, .inr (.inr (.inl (some 71))))] [] (am_mm D I J ρ) _
          refine am_e_ss 2 (q := (59, [(3, .inl ((I (91 + a) ((sp_mw S VL 2 (sp_mw S VL 2 (-5)))).toNat))), (2, .inl ((sp_mw S VL 2 (sp_mw S VL 2 (-5))))), (1, .inl ((sp_mw S VL 2 (-5)))), (0, .inr (.inr (.inl (some 71))))], [.inl ((sp_mw S VL 2 (-5)))], (am_mm D I J ρ))) rfl ?_
          refine am_e_ireturn rfl rfl ?_
          have er : (sp_rounds S (sp_Vr VL) (sp_Zr VL)) = (sp_mw S VL 2 (-5)) := by
            unfold sp_rounds
            rw [← h1.2.1]
            rcases h2 with ⟨g1, g2⟩ | ⟨g1, g2⟩
            · first
              | (rw [if_pos g1]; done)
              | (rw [if_pos g1]; exfalso; omega)
              | (exfalso; omega)
            · rw [if_neg (by omega), ← g2]
              have hah : sp_ahead S (sp_Vr VL) (sp_Zr VL) (sp_mw S VL 2 (-5)) (sp_mw S VL 2 (sp_mw S VL 2 (-5))) = sp_tla VL (sp_mw S VL 2 (-5)) (sp_mw S VL 2 (sp_mw S VL 2 (-5))) (S 19).toNat := hahf g1 g2
              rw [hah]
              have hle := hlef g1 g2
              split <;> first | rfl | omega | (exfalso; omega)
          rw [er]
      · show am_E _ _ _ 44 [(3, .inl ((I (91 + a) ((sp_mw S VL 2 (sp_mw S VL 2 (-5)))).toNat))), (2, .inl ((sp_mw S VL 2 (sp_mw S VL 2 (-5))))), (1, .inl ((sp_mw S VL 2 (-5)))), (0, .inr (.inr (.inl (some 71))))] [] (am_mm D I J ρ) _
        refine am_e_ss 2 (q := (46, [(3, .inl ((I (91 + a) ((sp_mw S VL 2 (sp_mw S VL 2 (-5)))).toNat))), (2, .inl ((sp_mw S VL 2 (sp_mw S VL 2 (-5))))), (1, .inl ((sp_mw S VL 2 (-5)))), (0, .inr (.inr (.inl (some 71))))], [.inl ((sp_mw S VL 2 (sp_mw S VL 2 (-5)))), .inl ((sp_mw S VL 2 (-5)))], (am_mm D I J ρ))) rfl ?_
        refine am_e_static (Q := fun r => r = (some (.inl ((min (sp_mw S VL 2 (-5)) (sp_mw S VL 2 (sp_mw S VL 2 (-5)))))), (am_mm D I J ρ))) rfl (Nat.le_of_ble_eq_true rfl) rfl (Nat.le_of_ble_eq_true rfl) (Nat.le_of_ble_eq_true rfl) (j_min _ ⟨by omega, by omega⟩ ⟨by omega, by omega⟩) ?_
        rintro r rfl
        show am_E _ _ _ 49 [(3, .inl ((I (91 + a) ((sp_mw S VL 2 (sp_mw S VL 2 (-5)))).toNat))), (2, .inl ((sp_mw S VL 2 (sp_mw S VL 2 (-5))))), (1, .inl ((sp_mw S VL 2 (-5)))), (0, .inr (.inr (.inl (some 71))))] [.inl ((min (sp_mw S VL 2 (-5)) (sp_mw S VL 2 (sp_mw S VL 2 (-5)))))] (am_mm D I J ρ) _
        refine am_e_ireturn rfl rfl ?_
        have er : (sp_rounds S (sp_Vr VL) (sp_Zr VL)) = (min (sp_mw S VL 2 (-5)) (sp_mw S VL 2 (sp_mw S VL 2 (-5)))) := by
          unfold sp_rounds
          rw [← h1.2.1]
          rcases h2 with ⟨g1, g2⟩ | ⟨g1, g2⟩
          · first
            | (rw [if_pos g1]; done)
            | (rw [if_pos g1]; exfalso; omega)
            | (exfalso; omega)
          · rw [if_neg (by omega), ← g2]
            have hah : sp_ahead S (sp_Vr VL) (sp_Zr VL) (sp_mw S VL 2 (-5)) (sp_mw S VL 2 (sp_mw S VL 2 (-5))) = sp_tla VL (sp_mw S VL 2 (-5)) (sp_mw S VL 2 (sp_mw S VL 2 (-5))) (S 19).toNat := hahf g1 g2
            rw [hah]
            have hle := hlef g1 g2
            split <;> first | rfl | omega | (exfalso; omega)
        rw [er]
    · show am_E _ _ _ 29 [(2, .inl ((sp_mw S VL 2 (sp_mw S VL 2 (-5))))), (1, .inl ((sp_mw S VL 2 (-5)))), (0, .inr (.inr (.inl (some 71))))] [] (am_mm D I J ρ) _
      refine am_e_ss 1 (q := (30, [(2, .inl ((sp_mw S VL 2 (sp_mw S VL 2 (-5))))), (1, .inl ((sp_mw S VL 2 (-5)))), (0, .inr (.inr (.inl (some 71))))], [.inl ((sp_mw S VL 2 (-5)))], (am_mm D I J ρ))) rfl ?_
      refine am_e_ireturn rfl rfl ?_
      have er : (sp_rounds S (sp_Vr VL) (sp_Zr VL)) = (sp_mw S VL 2 (-5)) := by
        unfold sp_rounds
        rw [← h1.2.1]
        rcases h2 with ⟨g1, g2⟩ | ⟨g1, g2⟩
        · first
          | (rw [if_pos g1]; done)
          | (rw [if_pos g1]; exfalso; omega)
          | (exfalso; omega)
        · rw [if_neg (by omega), ← g2]
          have hah : sp_ahead S (sp_Vr VL) (sp_Zr VL) (sp_mw S VL 2 (-5)) (sp_mw S VL 2 (sp_mw S VL 2 (-5))) = sp_tla VL (sp_mw S VL 2 (-5)) (sp_mw S VL 2 (sp_mw S VL 2 (-5))) (S 19).toNat := hahf g1 g2
          rw [hah]
          have hle := hlef g1 g2
          split <;> first | rfl | omega | (exfalso; omega)
      rw [er]
