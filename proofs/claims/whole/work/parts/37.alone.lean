/-! THE REFERENCE: alone, gain -/
theorem r_ofS {X : Nat × (Nat → Int)} {D : List (Nat × Nat)} {I J : Nat → Nat → Int} {ρ : Nat → Nat → Option Nat} (d : Nat) {B way is a t kk : Int} {m : Nat} {VL : Nat → List Nat} {p : List Nat} {n : Nat} (ih : r_ofC X D J ρ (d + 5 + n) n) (hI : r_ofI I B way is a t kk m VL p (n + 1)) : am_E X (d + 5 + n + 1) 180 0 [(0, .inr (.inr (.inl (some 107)))), (1, .inl (m : Int)), (2, .inl kk), (3, .inl t), (4, .inl way), (5, .inl is)] [] (am_mm D I J ρ) (fun r => ∃ Q, r = (none, am_mm D (am_wp tT I Q) J ρ) ∧ r_ofQ I Q m p ((sp_pl2 (I 108) (n + 1) p).foldl (sp_t1 (sp_fo (I 108) VL m way) (sp_lkm (I 108) m) is) (a, -5))) := by
  have hI0 := hI
  obtain ⟨⟨hok, hwf⟩, ⟨hm, hw, his, ha⟩, ⟨ht, hkk⟩, ⟨hops, hne⟩, hpb, ⟨hop, h21, h22, h23⟩, hO, hl, hvl0, hoth, hpr⟩ := hI
  have opb := sp_ops_b hok
  have hok2 := hok
  obtain ⟨o0, oG, oH, oD, o19, o20, o21, o22, o23, o24, oK, oV, oP, oM, oS, oY, oHd, oT, oC, oN⟩ := hok
  have hok := hok2
  have hI := hI0
  refine am_e_ss 3 (q := (5, [(0, .inr (.inr (.inl (some 107)))), (1, .inl (m : Int)), (2, .inl kk), (3, .inl t), (4, .inl way), (5, .inl is)], [.inl ((I 107 20)), .inl kk], (am_mm D I J ρ))) rfl ?_
  refine am_e_icmp2 rfl ⟨by omega, by omega⟩ ⟨by omega, by omega⟩ (fun (h1 : ¬ kk = (I 107 20)) => ?_) (fun (h1 : ¬ (¬ kk = (I 107 20))) => ?_)
  · show am_E _ _ _ 110 [(0, .inr (.inr (.inl (some 107)))), (1, .inl (m : Int)), (2, .inl kk), (3, .inl t), (4, .inl way), (5, .inl is)] [] (am_mm D I J ρ) _
    refine am_e_ss 2 (q := (113, [(6, .inl 0), (0, .inr (.inr (.inl (some 107)))), (1, .inl (m : Int)), (2, .inl kk), (3, .inl t), (4, .inl way), (5, .inl is)], [], (am_mm D I J ρ))) rfl ?_
    refine am_e_wp tT am_k_id ?_
    exact am_less (lv := [(6, .inl (0 : Int)), (5, .inl is), (4, .inl way), (3, .inl t), (2, .inl kk), (1, .inl (m : Int)), (0, .inr (.inr (.inl (some 107))))]) rfl (List.forall_mem_cons.mpr ⟨rfl, List.forall_mem_cons.mpr ⟨rfl, List.forall_mem_cons.mpr ⟨rfl, List.forall_mem_cons.mpr ⟨rfl, List.forall_mem_cons.mpr ⟨rfl, List.forall_mem_cons.mpr ⟨rfl, List.forall_mem_cons.mpr ⟨rfl, List.forall_mem_nil _⟩⟩⟩⟩⟩⟩⟩) (r_of_l d (n := n) (b := 0) ih hI (by omega) rfl h22.symm ha ⟨⟨h22, h23⟩, by rw [h21]; rfl, fun i _ => rfl, fun i _ => rfl, fun j _ => rfl⟩)
  · show am_E _ _ _ 8 [(0, .inr (.inr (.inl (some 107)))), (1, .inl (m : Int)), (2, .inl kk), (3, .inl t), (4, .inl way), (5, .inl is)] [] (am_mm D I J ρ) _
    exfalso; omega
theorem r_ofn {X : Nat × (Nat → Int)} {D : List (Nat × Nat)} {J : Nat → Nat → Int} {ρ : Nat → Nat → Option Nat} (d : Nat) : ∀ n, r_ofC X D J ρ (d + 5 + n) n := by
  intro n
  induction n with
  | zero => intro I B way is a t kk m VL p hI; exact r_of0 d hI
  | succ n ih => intro I B way is a t kk m VL p hI; exact r_ofS d ih hI
theorem r_of6 {X : Nat × (Nat → Int)} {D : List (Nat × Nat)} {J : Nat → Nat → Int} {ρ : Nat → Nat → Option Nat} (d n : Nat) (hn : n ≤ 6) : r_ofC X D J ρ (d + 11) n := by
  have h := r_ofn (X := X) (D := D) (J := J) (ρ := ρ) (d + (6 - n)) n
  rw [show d + (6 - n) + 5 + n = d + 11 by omega] at h
  exact h
/-- what telling otherwise leads to -/
def sp_tell (S : Nat → Int) (m : Nat) (way : Int) : Int × Int := if sp_ops S = 0 then (0, -5) else (sp_pl2 S (sp_ops S).toNat []).foldl (sp_t1 (sp_fo S (sp_vl S 0) m way) (sp_lkm S m) (sp_cho S (sp_vl S 0) way)) (0, -5)
def sp_aln (S : Nat → Int) (m : Nat) (way : Int) : Int := if (sp_tell S m way).1 = 0 ∧ (sp_tell S m way).2 = -5 then 0 else 1
theorem sp_tell_b {S : Nat → Int} {m : Nat} {way B : Int} (hok : r_ok S B) : ((sp_tell S m way).1 = 0 ∨ (sp_tell S m way).1 = 1) ∧ ((sp_tell S m way).2 = -5 ∨ (0 ≤ (sp_tell S m way).2 ∧ (sp_tell S m way).2 ≤ S 20)) := by
  unfold sp_tell
  by_cases e : sp_ops S = 0
  · rw [if_pos e]; exact ⟨Or.inl rfl, Or.inl rfl⟩
  · rw [if_neg e]
    refine ⟨sp_t1_01 (Or.inl rfl), sp_t1_b ?_ (Or.inl rfl)⟩
    intro p hp
    obtain ⟨h1, h2⟩ := sp_pl2_mem _ hp
    have ob := sp_ops_b hok
    have hvl : r_vl S (sp_set (sp_vl S 0) m p) := by
      intro j hj
      unfold sp_set
      by_cases ej : j = m
      · rw [if_pos ej]
        refine ⟨by rw [h1, List.length_nil]; omega, ?_⟩
        intro x hx
        rcases h2 x hx with h | h
        · simp at h
        · exact h.1
      · rw [if_neg ej]; exact sp_vl_vl hok j hj
    have := sp_cho_b (way := way) hok hvl e
    show 0 ≤ sp_cho S (sp_set (sp_vl S 0) m p) way ∧ _
    unfold sp_fo
    omega
theorem r_tellsOther {X : Nat × (Nat → Int)} {D : List (Nat × Nat)} {I J : Nat → Nat → Int} {ρ : Nat → Nat → Option Nat} (d : Nat) {B way : Int} {m : Nat} (hm : (m : Int) < I 108 19) (hw : 0 ≤ way ∧ way ≤ 5) (hl : r_lks (I 108) (I 113)) (hok : r_ok (I 108) B) (hwf : sp_wfS (I 108)) : am_E X (d + 12) 181 0 [(0, .inr (.inr (.inl (some 107)))), (1, .inl (m : Int)), (2, .inl way)] [] (am_mm D I J ρ) (fun r => ∃ Q, r = (none, am_mm D (am_wp tD I Q) J ρ) ∧ Q 107 22 = sp_aln (I 108) m way ∧ Q 107 23 = (sp_tell (I 108) m way).2) := by
  have hok2 := hok
  obtain ⟨o0, oG, oH, oD, o19, o20, o21, o22, o23, o24, oK, oV, oP, oM, oS, oY, oHd, oT, oC, oN⟩ := hok
  have hok := hok2
  have opb := sp_ops_b hok
  have tb := sp_tell_b (m := m) (way := way) hok
  refine am_e_ss 3 (q := (3, [(0, .inr (.inr (.inl (some 107)))), (1, .inl (m : Int)), (2, .inl way)], [.inl 0, .inl way, .inr (.inr (.inl (some 107)))], (am_mm D I J ρ))) rfl ?_
  refine am_e_virtual (Q := fun r => ∃ Q56, r = (some (.inl ((sp_cho (I 108) (sp_vl (I 108) 0) way))), (am_mm D (am_wp tC I Q56) J ρ)) ∧ Q56 107 20 = sp_ops (I 108) ∧ (∀ m : Nat, m < ((I 108) 19).toNat → am_rowl (Q56 114) (6 * m) (sp_ord (I 108) m)) ∧ r_rep ((I 108) 19).toNat (Q56 117) (Q56 118) (sp_vl (I 108) 0)) rfl rfl (Nat.le_of_ble_eq_true rfl) rfl rfl (Nat.le_of_ble_eq_true rfl) (Nat.le_of_ble_eq_true rfl) (r_chosenBy _ (B := B) ⟨by omega, by omega⟩ (by omega) hl hok hwf) ?_
  rintro r ⟨Q56, rfl, ⟨hop, hO, hV⟩⟩
  show am_E _ _ _ 6 [(0, .inr (.inr (.inl (some 107)))), (1, .inl (m : Int)), (2, .inl way)] [.inl ((sp_cho (I 108) (sp_vl (I 108) 0) way))] (am_mm D (am_wp tC I Q56) J ρ) _
  refine am_e_ss 12 (q := (27, [(3, .inl ((sp_cho (I 108) (sp_vl (I 108) 0) way))), (0, .inr (.inr (.inl (some 107)))), (1, .inl (m : Int)), (2, .inl way)], [.inl ((Q56 107 20))], (am_mm D (am_up (am_up (am_up (am_wp tC I Q56) 107 21 0) 107 22 0) 107 23 (-5)) J ρ))) rfl ?_
  refine am_e_if2 rfl ⟨by omega, by omega⟩ (fun (h1 : (Q56 107 20) ≤ 0) => ?_) (fun (h1 : ¬ ((Q56 107 20) ≤ 0)) => ?_)
  · show am_E _ _ _ 39 [(3, .inl ((sp_cho (I 108) (sp_vl (I 108) 0) way))), (0, .inr (.inr (.inl (some 107)))), (1, .inl (m : Int)), (2, .inl way)] [] (am_mm D (am_up (am_up (am_up (am_wp tC I Q56) 107 21 0) 107 22 0) 107 23 (-5)) J ρ) _
    refine am_e_ss 3 (q := (44, [(3, .inl ((sp_cho (I 108) (sp_vl (I 108) 0) way))), (0, .inr (.inr (.inl (some 107)))), (1, .inl (m : Int)), (2, .inl way)], [.inl 0, .inr (.inr (.inl (some 107)))], (am_mm D (am_up (am_up (am_up (am_wp tC I Q56) 107 21 0) 107 22 0) 107 23 (-5)) J ρ))) rfl ?_
    refine am_e_s (q := (47, [(3, .inl ((sp_cho (I 108) (sp_vl (I 108) 0) way))), (0, .inr (.inr (.inl (some 107)))), (1, .inl (m : Int)), (2, .inl way)], [.inr (.inr (.inl (some 107)))], (am_mm D (am_up (am_up (am_up (am_wp tC I Q56) 107 21 0) 107 22 0) 107 23 (-5)) J ρ))) rfl rfl ?_
    refine am_e_ss 3 (q := (53, [(3, .inl ((sp_cho (I 108) (sp_vl (I 108) 0) way))), (0, .inr (.inr (.inl (some 107)))), (1, .inl (m : Int)), (2, .inl way)], [.inl (-5), .inl ((-5)), .inr (.inr (.inl (some 107)))], (am_mm D (am_up (am_up (am_up (am_wp tC I Q56) 107 21 0) 107 22 0) 107 23 (-5)) J ρ))) rfl ?_
    refine am_e_icmp2 rfl ⟨by omega, by omega⟩ ⟨by omega, by omega⟩ (fun (h3 : (-5) = (-5)) => ?_) (fun (h3 : ¬ ((-5) = (-5))) => ?_)
    · show am_E _ _ _ 60 [(3, .inl ((sp_cho (I 108) (sp_vl (I 108) 0) way))), (0, .inr (.inr (.inl (some 107)))), (1, .inl (m : Int)), (2, .inl way)] [.inr (.inr (.inl (some 107)))] (am_mm D (am_up (am_up (am_up (am_wp tC I Q56) 107 21 0) 107 22 0) 107 23 (-5)) J ρ) _
      refine am_e_ss 2 (q := (64, [(3, .inl ((sp_cho (I 108) (sp_vl (I 108) 0) way))), (0, .inr (.inr (.inl (some 107)))), (1, .inl (m : Int)), (2, .inl way)], [], (am_mm D (am_up (am_up (am_up (am_up (am_wp tC I Q56) 107 21 0) 107 22 0) 107 23 (-5)) 107 22 0) J ρ))) rfl ?_
      refine am_e_return rfl rfl ?_
      have et : sp_tell (I 108) m way = (0, -5) := if_pos (by omega)
      refine ⟨_, am_r_wp tD (am_k_up rfl (am_k_up rfl (am_k_up rfl (am_k_up rfl (am_k_wp (tC_tD) (am_k_id)))))), ?_, ?_⟩
      · show 0 = sp_aln (I 108) m way
        unfold sp_aln
        rw [et]
        first | rfl | (exfalso; omega)
      · show (-5) = (sp_tell (I 108) m way).2
        rw [et]
    · show am_E _ _ _ 56 [(3, .inl ((sp_cho (I 108) (sp_vl (I 108) 0) way))), (0, .inr (.inr (.inl (some 107)))), (1, .inl (m : Int)), (2, .inl way)] [.inr (.inr (.inl (some 107)))] (am_mm D (am_up (am_up (am_up (am_wp tC I Q56) 107 21 0) 107 22 0) 107 23 (-5)) J ρ) _
      refine am_e_ss 3 (q := (64, [(3, .inl ((sp_cho (I 108) (sp_vl (I 108) 0) way))), (0, .inr (.inr (.inl (some 107)))), (1, .inl (m : Int)), (2, .inl way)], [], (am_mm D (am_up (am_up (am_up (am_up (am_wp tC I Q56) 107 21 0) 107 22 0) 107 23 (-5)) 107 22 1) J ρ))) rfl ?_
      refine am_e_return rfl rfl ?_
      have et : sp_tell (I 108) m way = (0, -5) := if_pos (by omega)
      refine ⟨_, am_r_wp tD (am_k_up rfl (am_k_up rfl (am_k_up rfl (am_k_up rfl (am_k_wp (tC_tD) (am_k_id)))))), ?_, ?_⟩
      · show 1 = sp_aln (I 108) m way
        unfold sp_aln
        rw [et]
        first | rfl | (exfalso; omega)
      · show (-5) = (sp_tell (I 108) m way).2
        rw [et]
  · show am_E _ _ _ 30 [(3, .inl ((sp_cho (I 108) (sp_vl (I 108) 0) way))), (0, .inr (.inr (.inl (some 107)))), (1, .inl (m : Int)), (2, .inl way)] [] (am_mm D (am_up (am_up (am_up (am_wp tC I Q56) 107 21 0) 107 22 0) 107 23 (-5)) J ρ) _
    have hib := sp_cho_b (way := way) hok (sp_vl_vl (t := 0) hok) (by omega)
    refine am_e_ss 6 (q := (36, [(3, .inl ((sp_cho (I 108) (sp_vl (I 108) 0) way))), (0, .inr (.inr (.inl (some 107)))), (1, .inl (m : Int)), (2, .inl way)], [.inl ((sp_cho (I 108) (sp_vl (I 108) 0) way)), .inl way, .inl 0, .inl 0, .inl (m : Int), .inr (.inr (.inl (some 107)))], (am_mm D (am_up (am_up (am_up (am_wp tC I Q56) 107 21 0) 107 22 0) 107 23 (-5)) J ρ))) rfl ?_
    refine am_e_virtual (Q := fun r => ∃ Q57, r = (none, (am_mm D (am_wp tT (am_up (am_up (am_up (am_wp tC I Q56) 107 21 0) 107 22 0) 107 23 (-5)) Q57) J ρ)) ∧ r_ofQ (am_up (am_up (am_up (am_wp tC I Q56) 107 21 0) 107 22 0) 107 23 (-5)) Q57 m [] ((sp_pl2 (I 108) (sp_ops (I 108)).toNat []).foldl (sp_t1 (sp_fo (I 108) (sp_vl (I 108) 0) m way) (sp_lkm (I 108) m) (sp_cho (I 108) (sp_vl (I 108) 0) way)) (0, -5))) rfl rfl (Nat.le_of_ble_eq_true rfl) rfl rfl (Nat.le_of_ble_eq_true rfl) (Nat.le_of_ble_eq_true rfl) (r_of6 _ (sp_ops (I 108)).toNat (by omega) _ B way (sp_cho (I 108) (sp_vl (I 108) 0) way) 0 0 0 m (sp_vl (I 108) 0) [] ⟨⟨hok, hwf⟩, ⟨hm, hw, hib, Or.inl rfl⟩, ⟨by decide +kernel, rfl⟩, ⟨by (show sp_ops (I 108) = ((0 : Nat) : Int) + (((sp_ops (I 108)).toNat : Nat) : Int)); omega, by (show ¬ sp_ops (I 108) = 0); omega⟩, (fun x hx => by simp at hx), ⟨hop, rfl, rfl, rfl⟩, hO, hl, sp_vl_vl hok, (fun j hj _ => hV j hj), am_rowl_nil⟩) ?_
    rintro r ⟨Q57, rfl, ⟨⟨z1, z2⟩, z3, z4, z5, z6⟩⟩
    have et : sp_tell (I 108) m way = (sp_pl2 (I 108) (sp_ops (I 108)).toNat []).foldl (sp_t1 (sp_fo (I 108) (sp_vl (I 108) 0) m way) (sp_lkm (I 108) m) (sp_cho (I 108) (sp_vl (I 108) 0) way)) (0, -5) := if_neg (by omega)
    rw [← et] at z1 z2
    show am_E _ _ _ 39 [(3, .inl ((sp_cho (I 108) (sp_vl (I 108) 0) way))), (0, .inr (.inr (.inl (some 107)))), (1, .inl (m : Int)), (2, .inl way)] [] (am_mm D (am_wp tT (am_up (am_up (am_up (am_wp tC I Q56) 107 21 0) 107 22 0) 107 23 (-5)) Q57) J ρ) _
    refine am_e_ss 3 (q := (44, [(3, .inl ((sp_cho (I 108) (sp_vl (I 108) 0) way))), (0, .inr (.inr (.inl (some 107)))), (1, .inl (m : Int)), (2, .inl way)], [.inl ((Q57 107 22)), .inr (.inr (.inl (some 107)))], (am_mm D (am_wp tT (am_up (am_up (am_up (am_wp tC I Q56) 107 21 0) 107 22 0) 107 23 (-5)) Q57) J ρ))) rfl ?_
    refine am_e_if2 rfl ⟨by omega, by omega⟩ (fun (h4 : ¬ (Q57 107 22) = 0) => ?_) (fun (h4 : ¬ (¬ (Q57 107 22) = 0)) => ?_)
    · show am_E _ _ _ 56 [(3, .inl ((sp_cho (I 108) (sp_vl (I 108) 0) way))), (0, .inr (.inr (.inl (some 107)))), (1, .inl (m : Int)), (2, .inl way)] [.inr (.inr (.inl (some 107)))] (am_mm D (am_wp tT (am_up (am_up (am_up (am_wp tC I Q56) 107 21 0) 107 22 0) 107 23 (-5)) Q57) J ρ) _
      refine am_e_ss 3 (q := (64, [(3, .inl ((sp_cho (I 108) (sp_vl (I 108) 0) way))), (0, .inr (.inr (.inl (some 107)))), (1, .inl (m : Int)), (2, .inl way)], [], (am_mm D (am_up (am_wp tT (am_up (am_up (am_up (am_wp tC I Q56) 107 21 0) 107 22 0) 107 23 (-5)) Q57) 107 22 1) J ρ))) rfl ?_
      refine am_e_return rfl rfl ?_
      refine ⟨_, am_r_wp tD (am_k_up rfl (am_k_wp (tT_tD) (am_k_up rfl (am_k_up rfl (am_k_up rfl (am_k_wp (tC_tD) (am_k_id))))))), ?_, ?_⟩
      · show 1 = sp_aln (I 108) m way
        unfold sp_aln
        split <;> omega
      · show (Q57 107 23) = (sp_tell (I 108) m way).2
        exact z2
    · show am_E _ _ _ 47 [(3, .inl ((sp_cho (I 108) (sp_vl (I 108) 0) way))), (0, .inr (.inr (.inl (some 107)))), (1, .inl (m : Int)), (2, .inl way)] [.inr (.inr (.inl (some 107)))] (am_mm D (am_wp tT (am_up (am_up (am_up (am_wp tC I Q56) 107 21 0) 107 22 0) 107 23 (-5)) Q57) J ρ) _
      refine am_e_ss 3 (q := (53, [(3, .inl ((sp_cho (I 108) (sp_vl (I 108) 0) way))), (0, .inr (.inr (.inl (some 107)))), (1, .inl (m : Int)), (2, .inl way)], [.inl (-5), .inl ((Q57 107 23)), .inr (.inr (.inl (some 107)))], (am_mm D (am_wp tT (am_up (am_up (am_up (am_wp tC I Q56) 107 21 0) 107 22 0) 107 23 (-5)) Q57) J ρ))) rfl ?_
      refine am_e_icmp2 rfl ⟨by omega, by omega⟩ ⟨by omega, by omega⟩ (fun (h5 : (Q57 107 23) = (-5)) => ?_) (fun (h5 : ¬ ((Q57 107 23) = (-5))) => ?_)
      · show am_E _ _ _ 60 [(3, .inl ((sp_cho (I 108) (sp_vl (I 108) 0) way))), (0, .inr (.inr (.inl (some 107)))), (1, .inl (m : Int)), (2, .inl way)] [.inr (.inr (.inl (some 107)))] (am_mm D (am_wp tT (am_up (am_up (am_up (am_wp tC I Q56) 107 21 0) 107 22 0) 107 23 (-5)) Q57) J ρ) _
        refine am_e_ss 2 (q := (64, [(3, .inl ((sp_cho (I 108) (sp_vl (I 108) 0) way))), (0, .inr (.inr (.inl (some 107)))), (1, .inl (m : Int)), (2, .inl way)], [], (am_mm D (am_up (am_wp tT (am_up (am_up (am_up (am_wp tC I Q56) 107 21 0) 107 22 0) 107 23 (-5)) Q57) 107 22 0) J ρ))) rfl ?_
        refine am_e_return rfl rfl ?_
        refine ⟨_, am_r_wp tD (am_k_up rfl (am_k_wp (tT_tD) (am_k_up rfl (am_k_up rfl (am_k_up rfl (am_k_wp (tC_tD) (am_k_id))))))), ?_, ?_⟩
        · show 0 = sp_aln (I 108) m way
          unfold sp_aln
          split <;> omega
        · show (Q57 107 23) = (sp_tell (I 108) m way).2
          exact z2
      · show am_E _ _ _ 56 [(3, .inl ((sp_cho (I 108) (sp_vl (I 108) 0) way))), (0, .inr (.inr (.inl (some 107)))), (1, .inl (m : Int)), (2, .inl way)] [.inr (.inr (.inl (some 107)))] (am_mm D (am_wp tT (am_up (am_up (am_up (am_wp tC I Q56) 107 21 0) 107 22 0) 107 23 (-5)) Q57) J ρ) _
        refine am_e_ss 3 (q := (64, [(3, .inl ((sp_cho (I 108) (sp_vl (I 108) 0) way))), (0, .inr (.inr (.inl (some 107)))), (1, .inl (m : Int)), (2, .inl way)], [], (am_mm D (am_up (am_wp tT (am_up (am_up (am_up (am_wp tC I Q56) 107 21 0) 107 22 0) 107 23 (-5)) Q57) 107 22 1) J ρ))) rfl ?_
        refine am_e_return rfl rfl ?_
        refine ⟨_, am_r_wp tD (am_k_up rfl (am_k_wp (tT_tD) (am_k_up rfl (am_k_up rfl (am_k_up rfl (am_k_wp (tC_tD) (am_k_id))))))), ?_, ?_⟩
        · show 1 = sp_aln (I 108) m way
          unfold sp_aln
          split <;> omega
        · show (Q57 107 23) = (sp_tell (I 108) m way).2
          exact z2
def sp_alp (S : Nat → Int) (way : Int) (m : Nat) : Bool := decide (S (7 + m) = 0 ∧ sp_aln S m way = 1)
def sp_alone (S : Nat → Int) (way : Int) : Int := if ¬ (0 ≤ way ∧ way ≤ 5) then -1 else if 5 < sp_ops S then -9 else am_bits (sp_alp S way) (S 19).toNat
theorem sp_aln_01 (S : Nat → Int) (m : Nat) (way : Int) : sp_aln S m way = 0 ∨ sp_aln S m way = 1 := by
  unfold sp_aln
  split <;> simp
theorem r_alone_l {X : Nat × (Nat → Int)} {D : List (Nat × Nat)} {I J : Nat → Nat → Int} {ρ : Nat → Nat → Option Nat} (d : Nat) {B way set : Int} {m : Nat} {Q : Nat → Nat → Int} (hm : (m : Int) ≤ I 108 19) (hw : 0 ≤ way ∧ way ≤ 5) (hset : set = am_bits (sp_alp (I 108) way) m) (hl : r_lks (I 108) (Q 113)) (hok : r_ok (I 108) B) (hwf : sp_wfS (I 108)) : am_E X (d + 13) 182 31 [(3, .inl (m : Int)), (2, .inl set), (1, .inl way), (0, .inr (.inr (.inl (some 107))))] [] (am_mm D (am_wp tB I Q) J ρ) (fun r => ∃ Q, r = (some (.inl (am_bits (sp_alp (I 108) way) (I 108 19).toNat)), am_mm D (am_wp tB I Q) J ρ)) := by
  have hok2 := hok
  obtain ⟨o0, oG, oH, oD, o19, o20, o21, o22, o23, o24, oK, oV, oP, oM, oS, oY, oHd, oT, oC, oN⟩ := hok
  have hok := hok2
  have s01 := sp_aln_01 (I 108) m way
  refine am_e_ss 5 (q := (39, [(3, .inl (m : Int)), (2, .inl set), (1, .inl way), (0, .inr (.inr (.inl (some 107))))], [.inl ((I 108 19)), .inl (m : Int)], (am_mm D (am_wp tB I Q) J ρ))) rfl ?_
  refine am_e_icmp2 rfl ⟨by omega, by omega⟩ ⟨by omega, by omega⟩ (fun (h1 : (I 108 19) ≤ (m : Int)) => ?_) (fun (h1 : ¬ ((I 108 19) ≤ (m : Int))) => ?_)
  · show am_E _ _ _ 79 [(3, .inl (m : Int)), (2, .inl set), (1, .inl way), (0, .inr (.inr (.inl (some 107))))] [] (am_mm D (am_wp tB I Q) J ρ) _
    refine am_e_ss 1 (q := (80, [(3, .inl (m : Int)), (2, .inl set), (1, .inl way), (0, .inr (.inr (.inl (some 107))))], [.inl set], (am_mm D (am_wp tB I Q) J ρ))) rfl ?_
    refine am_e_ireturn rfl rfl ?_
    rw [hset, show m = (I 108 19).toNat by omega]
    exact ⟨Q, rfl⟩
  · show am_E _ _ _ 42 [(3, .inl (m : Int)), (2, .inl set), (1, .inl way), (0, .inr (.inr (.inl (some 107))))] [] (am_mm D (am_wp tB I Q) J ρ) _
    refine am_e_ss 2 (q := (44, [(3, .inl (m : Int)), (2, .inl set), (1, .inl way), (0, .inr (.inr (.inl (some 107))))], [.inl (m : Int), .inr (.inr (.inl (some 107)))], (am_mm D (am_wp tB I Q) J ρ))) rfl ?_
    refine am_e_virtual (Q := fun r => r = (some (.inl ((am_bi ((I 108 (7 + m)) = 0)))), (am_mm D (am_wp tB I Q) J ρ))) rfl rfl (Nat.le_of_ble_eq_true rfl) rfl rfl (Nat.le_of_ble_eq_true rfl) (Nat.le_of_ble_eq_true rfl) (r_isHere _ (v := (m : Int)) ⟨by omega, by omega⟩ (by exact oH m (by omega))) ?_
    rintro r rfl
    show am_E _ _ _ 47 [(3, .inl (m : Int)), (2, .inl set), (1, .inl way), (0, .inr (.inr (.inl (some 107))))] [.inl ((am_bi ((I 108 (7 + m)) = 0)))] (am_mm D (am_wp tB I Q) J ρ) _
    refine am_e_ifeq rfl (fun h2 => ?_) (fun h2 => ?_)
    · show am_E _ _ _ 73 [(3, .inl (m : Int)), (2, .inl set), (1, .inl way), (0, .inr (.inr (.inl (some 107))))] [] (am_mm D (am_wp tB I Q) J ρ) _
      refine am_e_ss 2 (q := (31, [(3, .inl ((m : Int) + 1)), (2, .inl set), (1, .inl way), (0, .inr (.inr (.inl (some 107))))], [], (am_mm D (am_wp tB I Q) J ρ))) rfl ?_
      have e9 : set = am_bits (sp_alp (I 108) way) (m + 1) := by
        rw [hset]
        show _ = am_bits (sp_alp (I 108) way) m + (if sp_alp (I 108) way m then 2 ^ m else 0)
        rw [if_neg (by unfold sp_alp; rw [decide_eq_true_eq]; omega)]
        omega
      refine am_e_wp tB (am_k_wp am_k_sub (am_k_id)) ?_
      exact am_less (lv := [(3, .inl ((m + 1) : Int)), (2, .inl set), (1, .inl way), (0, .inr (.inr (.inl (some 107))))]) rfl (List.forall_mem_cons.mpr ⟨rfl, List.forall_mem_cons.mpr ⟨rfl, List.forall_mem_cons.mpr ⟨rfl, List.forall_mem_cons.mpr ⟨rfl, List.forall_mem_nil _⟩⟩⟩⟩) (r_alone_l d (m := m + 1) (by omega) hw e9 hl hok hwf)
    · show am_E _ _ _ 50 [(3, .inl (m : Int)), (2, .inl set), (1, .inl way), (0, .inr (.inr (.inl (some 107))))] [] (am_mm D (am_wp tB I Q) J ρ) _
      refine am_e_ss 3 (q := (53, [(3, .inl (m : Int)), (2, .inl set), (1, .inl way), (0, .inr (.inr (.inl (some 107))))], [.inl way, .inl (m : Int), .inr (.inr (.inl (some 107)))], (am_mm D (am_wp tB I Q) J ρ))) rfl ?_
      refine am_e_virtual (Q := fun r => ∃ Q58, r = (none, (am_mm D (am_wp tD (am_wp tB I Q) Q58) J ρ)) ∧ Q58 107 22 = sp_aln (I 108) m way ∧ Q58 107 23 = (sp_tell (I 108) m way).2) rfl rfl (Nat.le_of_ble_eq_true rfl) rfl rfl (Nat.le_of_ble_eq_true rfl) (Nat.le_of_ble_eq_true rfl) (r_tellsOther _ (B := B) (show ((m : Nat) : Int) < (I 108) 19 by omega) ⟨by omega, by omega⟩ hl hok hwf) ?_
      rintro r ⟨Q58, rfl, ⟨t1, t2⟩⟩
      show am_E _ _ _ 56 [(3, .inl (m : Int)), (2, .inl set), (1, .inl way), (0, .inr (.inr (.inl (some 107))))] [] (am_mm D (am_wp tD (am_wp tB I Q) Q58) J ρ) _
      refine am_e_ss 3 (q := (61, [(3, .inl (m : Int)), (2, .inl set), (1, .inl way), (0, .inr (.inr (.inl (some 107))))], [.inl ((Q58 107 22)), .inl set], (am_mm D (am_wp tD (am_wp tB I Q) Q58) J ρ))) rfl ?_
      refine am_e_if2 rfl ⟨by omega, by omega⟩ (fun (h3 : (Q58 107 22) = 0) => ?_) (fun (h3 : ¬ ((Q58 107 22) = 0)) => ?_)
      · show am_E _ _ _ 70 [(3, .inl (m : Int)), (2, .inl set), (1, .inl way), (0, .inr (.inr (.inl (some 107))))] [.inl set] (am_mm D (am_wp tD (am_wp tB I Q) Q58) J ρ) _
        refine am_e_ss 5 (q := (31, [(3, .inl ((m : Int) + 1)), (2, .inl ((Int32.ofInt set ||| Int32.ofInt 0).toInt)), (1, .inl way), (0, .inr (.inr (.inl (some 107))))], [], (am_mm D (am_wp tD (am_wp tB I Q) Q58) J ρ))) rfl ?_
        have e9 : (Int32.ofInt set ||| Int32.ofInt 0).toInt = am_bits (sp_alp (I 108) way) (m + 1) := by
          rw [hset]
          exact am_bits_no (by omega) (decide_eq_false (by omega))
        refine am_e_wp tB (am_k_wp (tD_tB) (am_k_wp am_k_sub (am_k_id))) ?_
        exact am_less (lv := [(3, .inl ((m + 1) : Int)), (2, .inl ((Int32.ofInt set ||| Int32.ofInt 0).toInt)), (1, .inl way), (0, .inr (.inr (.inl (some 107))))]) rfl (List.forall_mem_cons.mpr ⟨rfl, List.forall_mem_cons.mpr ⟨rfl, List.forall_mem_cons.mpr ⟨rfl, List.forall_mem_cons.mpr ⟨rfl, List.forall_mem_nil _⟩⟩⟩⟩) (r_alone_l d (m := m + 1) (by omega) hw e9 hl hok hwf)
      · show am_E _ _ _ 64 [(3, .inl (m : Int)), (2, .inl set), (1, .inl way), (0, .inr (.inr (.inl (some 107))))] [.inl set] (am_mm D (am_wp tD (am_wp tB I Q) Q58) J ρ) _
        refine am_e_ss 8 (q := (31, [(3, .inl ((m : Int) + 1)), (2, .inl ((Int32.ofInt set ||| Int32.ofInt (Int32.ofInt 1 <<< (Int32.ofInt (m : Int) &&& 31)).toInt).toInt)), (1, .inl way), (0, .inr (.inr (.inl (some 107))))], [], (am_mm D (am_wp tD (am_wp tB I Q) Q58) J ρ))) rfl ?_
        have e9 : (Int32.ofInt set ||| Int32.ofInt (Int32.ofInt 1 <<< (Int32.ofInt (m : Int) &&& 31)).toInt).toInt = am_bits (sp_alp (I 108) way) (m + 1) := by
          rw [hset]
          exact am_bits_or (by omega) (decide_eq_true ⟨by omega, by omega⟩)
        refine am_e_wp tB (am_k_wp (tD_tB) (am_k_wp am_k_sub (am_k_id))) ?_
        exact am_less (lv := [(3, .inl ((m + 1) : Int)), (2, .inl ((Int32.ofInt set ||| Int32.ofInt (Int32.ofInt 1 <<< (Int32.ofInt (m : Int) &&& 31)).toInt).toInt)), (1, .inl way), (0, .inr (.inr (.inl (some 107))))]) rfl (List.forall_mem_cons.mpr ⟨rfl, List.forall_mem_cons.mpr ⟨rfl, List.forall_mem_cons.mpr ⟨rfl, List.forall_mem_cons.mpr ⟨rfl, List.forall_mem_nil _⟩⟩⟩⟩) (r_alone_l d (m := m + 1) (by omega) hw e9 hl hok hwf)
termination_by 7 - m
decreasing_by all_goals omega
theorem r_alone {X : Nat × (Nat → Int)} {D : List (Nat × Nat)} {I J : Nat → Nat → Int} {ρ : Nat → Nat → Option Nat} (d : Nat) {B way : Int} (hway : -2147483648 ≤ way ∧ way < 2147483648) (hok : r_ok (I 108) B) (hwf : sp_wfS (I 108)) : am_E X (d + 13) 182 0 [(0, .inr (.inr (.inl (some 107)))), (1, .inl way)] [] (am_mm D I J ρ) (fun r => ∃ Q, r = (some (.inl (sp_alone (I 108) way)), am_mm D (am_wp tB I Q) J ρ)) := by
  have hok2 := hok
  obtain ⟨o0, oG, oH, oD, o19, o20, o21, o22, o23, o24, oK, oV, oP, oM, oS, oY, oHd, oT, oC, oN⟩ := hok
  have hok := hok2
  have opb := sp_ops_b hok
  have opp : am_pop (sp_open (I 108)) = sp_ops (I 108) := sp_open_pop hok
  refine am_e_ss 1 (q := (1, [(0, .inr (.inr (.inl (some 107)))), (1, .inl way)], [.inl way], (am_mm D I J ρ))) rfl ?_
  refine am_e_static (Q := fun r => r = (some (.inl ((am_bi (0 ≤ way ∧ way ≤ 5)))), (am_mm D I J ρ))) rfl (Nat.le_of_ble_eq_true rfl) rfl (Nat.le_of_ble_eq_true rfl) (Nat.le_of_ble_eq_true rfl) (r_isWay _ ⟨by omega, by omega⟩) ?_
  rintro r rfl
  show am_E _ _ _ 4 [(0, .inr (.inr (.inl (some 107)))), (1, .inl way)] [.inl ((am_bi (0 ≤ way ∧ way ≤ 5)))] (am_mm D I J ρ) _
  refine am_e_ifne rfl (fun h1 => ?_) (fun h1 => ?_)
  · show am_E _ _ _ 9 [(0, .inr (.inr (.inl (some 107)))), (1, .inl way)] [] (am_mm D I J ρ) _
    refine am_e_ss 1 (q := (10, [(0, .inr (.inr (.inl (some 107)))), (1, .inl way)], [.inr (.inr (.inl (some 107)))], (am_mm D I J ρ))) rfl ?_
    refine am_e_virtual (Q := fun r => r = (some (.inl ((sp_open (I 108)))), (am_mm D I J ρ))) rfl rfl (Nat.le_of_ble_eq_true rfl) rfl rfl (Nat.le_of_ble_eq_true rfl) (Nat.le_of_ble_eq_true rfl) (r_openBooks _ (B := B) hok) ?_
    rintro r rfl
    show am_E _ _ _ 13 [(0, .inr (.inr (.inl (some 107)))), (1, .inl way)] [.inl ((sp_open (I 108)))] (am_mm D I J ρ) _
    refine am_e_static (Q := fun r => r = (some (.inl ((am_pop (sp_open (I 108))))), (am_mm D I J ρ))) rfl (Nat.le_of_ble_eq_true rfl) rfl (Nat.le_of_ble_eq_true rfl) (Nat.le_of_ble_eq_true rfl) (r_count1 _) ?_
    rintro r rfl
    show am_E _ _ _ 16 [(0, .inr (.inr (.inl (some 107)))), (1, .inl way)] [.inl ((am_pop (sp_open (I 108))))] (am_mm D I J ρ) _
    refine am_e_ss 1 (q := (17, [(0, .inr (.inr (.inl (some 107)))), (1, .inl way)], [.inl 5, .inl ((am_pop (sp_open (I 108))))], (am_mm D I J ρ))) rfl ?_
    refine am_e_icmp2 rfl ⟨by omega, by omega⟩ ⟨by omega, by omega⟩ (fun (h2 : (am_pop (sp_open (I 108))) ≤ 5) => ?_) (fun (h2 : ¬ ((am_pop (sp_open (I 108))) ≤ 5)) => ?_)
    · show am_E _ _ _ 23 [(0, .inr (.inr (.inl (some 107)))), (1, .inl way)] [] (am_mm D I J ρ) _
      refine am_e_ss 1 (q := (24, [(0, .inr (.inr (.inl (some 107)))), (1, .inl way)], [.inr (.inr (.inl (some 107)))], (am_mm D I J ρ))) rfl ?_
      refine am_e_virtual (Q := fun r => ∃ Q59, r = (none, (am_mm D (am_wp tLL I Q59) J ρ)) ∧ r_lks (I 108) (Q59 113)) rfl rfl (Nat.le_of_ble_eq_true rfl) rfl rfl (Nat.le_of_ble_eq_true rfl) (Nat.le_of_ble_eq_true rfl) (r_looksForLikes _ (B := B) hok hwf) ?_
      rintro r ⟨Q59, rfl, hl⟩
      show am_E _ _ _ 27 [(0, .inr (.inr (.inl (some 107)))), (1, .inl way)] [] (am_mm D (am_wp tLL I Q59) J ρ) _
      refine am_e_ss 4 (q := (31, [(3, .inl 0), (2, .inl 0), (0, .inr (.inr (.inl (some 107)))), (1, .inl way)], [], (am_mm D (am_wp tLL I Q59) J ρ))) rfl ?_
      rw [show sp_alone (I 108) way = am_bits (sp_alp (I 108) way) (I 108 19).toNat by (unfold sp_alone; rw [if_neg (by omega), if_neg (by omega)])]
      refine am_e_wp tB (am_k_wp (tLL_tB) (am_k_id)) ?_
      exact am_less (lv := [(3, .inl (0 : Int)), (2, .inl 0), (1, .inl way), (0, .inr (.inr (.inl (some 107))))]) rfl (List.forall_mem_cons.mpr ⟨rfl, List.forall_mem_cons.mpr ⟨rfl, List.forall_mem_cons.mpr ⟨rfl, List.forall_mem_cons.mpr ⟨rfl, List.forall_mem_nil _⟩⟩⟩⟩) (r_alone_l d (m := 0) (by omega) ⟨by omega, by omega⟩ rfl hl hok hwf)
    · show am_E _ _ _ 20 [(0, .inr (.inr (.inl (some 107)))), (1, .inl way)] [] (am_mm D I J ρ) _
      refine am_e_ss 1 (q := (22, [(0, .inr (.inr (.inl (some 107)))), (1, .inl way)], [.inl (-9)], (am_mm D I J ρ))) rfl ?_
      refine am_e_ireturn rfl rfl ?_
      rw [show sp_alone (I 108) way = (-9) by (unfold sp_alone; (repeat' split) <;> first | rfl | (exfalso; omega))]
      exact ⟨I, am_r_wp tB am_k_id⟩
  · show am_E _ _ _ 7 [(0, .inr (.inr (.inl (some 107)))), (1, .inl way)] [] (am_mm D I J ρ) _
    refine am_e_ss 1 (q := (8, [(0, .inr (.inr (.inl (some 107)))), (1, .inl way)], [.inl (-1)], (am_mm D I J ρ))) rfl ?_
    refine am_e_ireturn rfl rfl ?_
    rw [show sp_alone (I 108) way = (-1) by (unfold sp_alone; (repeat' split) <;> first | rfl | (exfalso; omega))]
    exact ⟨I, am_r_wp tB am_k_id⟩
def sp_gain (S : Nat → Int) (m way : Int) : Int := if ¬ (0 ≤ m ∧ m ≤ S 19 - 1) then -1 else if ¬ (0 ≤ way ∧ way ≤ 5) then -1 else if ¬ S (7 + m).toNat = 0 then -3 else if 5 < sp_ops S then -9 else (sp_tell S m.toNat way).2
theorem r_gainN {X : Nat × (Nat → Int)} {D : List (Nat × Nat)} {I J : Nat → Nat → Int} {ρ : Nat → Nat → Option Nat} (d : Nat) {B way : Int} {m : Nat} (hm : (m : Int) < 2147483648) (hway : -2147483648 ≤ way ∧ way < 2147483648) (hok : r_ok (I 108) B) (hwf : sp_wfS (I 108)) : am_E X (d + 13) 183 0 [(0, .inr (.inr (.inl (some 107)))), (1, .inl (m : Int)), (2, .inl way)] [] (am_mm D I J ρ) (fun r => ∃ Q, r = (some (.inl (sp_gain (I 108) (m : Int) way)), am_mm D (am_wp tB I Q) J ρ)) := by
  have hok2 := hok
  obtain ⟨o0, oG, oH, oD, o19, o20, o21, o22, o23, o24, oK, oV, oP, oM, oS, oY, oHd, oT, oC, oN⟩ := hok
  have hok := hok2
  have opb := sp_ops_b hok
  have opp : am_pop (sp_open (I 108)) = sp_ops (I 108) := sp_open_pop hok
  refine am_e_ss 2 (q := (2, [(0, .inr (.inr (.inl (some 107)))), (1, .inl (m : Int)), (2, .inl way)], [.inl (m : Int), .inr (.inr (.inl (some 107)))], (am_mm D I J ρ))) rfl ?_
  refine am_e_virtual (Q := fun r => r = (some (.inl ((am_bi (0 ≤ (m : Int) ∧ (m : Int) ≤ ((I 108 19) - 1))))), (am_mm D I J ρ))) rfl rfl (Nat.le_of_ble_eq_true rfl) rfl rfl (Nat.le_of_ble_eq_true rfl) (Nat.le_of_ble_eq_true rfl) (r_isMember _ ⟨by omega, by omega⟩ (show 0 ≤ (I 108 19) ∧ (I 108 19) ≤ 6 by omega)) ?_
  rintro r rfl
  show am_E _ _ _ 5 [(0, .inr (.inr (.inl (some 107)))), (1, .inl (m : Int)), (2, .inl way)] [.inl ((am_bi (0 ≤ (m : Int) ∧ (m : Int) ≤ ((I 108 19) - 1))))] (am_mm D I J ρ) _
  refine am_e_ifeq rfl (fun h1 => ?_) (fun h1 => ?_)
  · show am_E _ _ _ 15 [(0, .inr (.inr (.inl (some 107)))), (1, .inl (m : Int)), (2, .inl way)] [] (am_mm D I J ρ) _
    refine am_e_ss 1 (q := (16, [(0, .inr (.inr (.inl (some 107)))), (1, .inl (m : Int)), (2, .inl way)], [.inl (-1)], (am_mm D I J ρ))) rfl ?_
    refine am_e_ireturn rfl rfl ?_
    rw [show sp_gain (I 108) (m : Int) way = (-1) by (have e7 : I 108 (7 + (m : Int)).toNat = I 108 (7 + m) := rfl; unfold sp_gain; (repeat' split) <;> first | rfl | (exfalso; omega))]
    exact ⟨I, am_r_wp tB am_k_id⟩
  · show am_E _ _ _ 8 [(0, .inr (.inr (.inl (some 107)))), (1, .inl (m : Int)), (2, .inl way)] [] (am_mm D I J ρ) _
    refine am_e_ss 1 (q := (9, [(0, .inr (.inr (.inl (some 107)))), (1, .inl (m : Int)), (2, .inl way)], [.inl way], (am_mm D I J ρ))) rfl ?_
    refine am_e_static (Q := fun r => r = (some (.inl ((am_bi (0 ≤ way ∧ way ≤ 5)))), (am_mm D I J ρ))) rfl (Nat.le_of_ble_eq_true rfl) rfl (Nat.le_of_ble_eq_true rfl) (Nat.le_of_ble_eq_true rfl) (r_isWay _ ⟨by omega, by omega⟩) ?_
    rintro r rfl
    show am_E _ _ _ 12 [(0, .inr (.inr (.inl (some 107)))), (1, .inl (m : Int)), (2, .inl way)] [.inl ((am_bi (0 ≤ way ∧ way ≤ 5)))] (am_mm D I J ρ) _
    refine am_e_ifne rfl (fun h2 => ?_) (fun h2 => ?_)
    · show am_E _ _ _ 17 [(0, .inr (.inr (.inl (some 107)))), (1, .inl (m : Int)), (2, .inl way)] [] (am_mm D I J ρ) _
      refine am_e_ss 2 (q := (19, [(0, .inr (.inr (.inl (some 107)))), (1, .inl (m : Int)), (2, .inl way)], [.inl (m : Int), .inr (.inr (.inl (some 107)))], (am_mm D I J ρ))) rfl ?_
      refine am_e_virtual (Q := fun r => r = (some (.inl ((am_bi ((I 108 (7 + m)) = 0)))), (am_mm D I J ρ))) rfl rfl (Nat.le_of_ble_eq_true rfl) rfl rfl (Nat.le_of_ble_eq_true rfl) (Nat.le_of_ble_eq_true rfl) (r_isHere _ (v := (m : Int)) ⟨by omega, by omega⟩ (by exact oH m (by omega))) ?_
      rintro r rfl
      show am_E _ _ _ 22 [(0, .inr (.inr (.inl (some 107)))), (1, .inl (m : Int)), (2, .inl way)] [.inl ((am_bi ((I 108 (7 + m)) = 0)))] (am_mm D I J ρ) _
      refine am_e_ifne rfl (fun h3 => ?_) (fun h3 => ?_)
      · show am_E _ _ _ 28 [(0, .inr (.inr (.inl (some 107)))), (1, .inl (m : Int)), (2, .inl way)] [] (am_mm D I J ρ) _
        refine am_e_ss 1 (q := (29, [(0, .inr (.inr (.inl (some 107)))), (1, .inl (m : Int)), (2, .inl way)], [.inr (.inr (.inl (some 107)))], (am_mm D I J ρ))) rfl ?_
        refine am_e_virtual (Q := fun r => r = (some (.inl ((sp_open (I 108)))), (am_mm D I J ρ))) rfl rfl (Nat.le_of_ble_eq_true rfl) rfl rfl (Nat.le_of_ble_eq_true rfl) (Nat.le_of_ble_eq_true rfl) (r_openBooks _ (B := B) hok) ?_
        rintro r rfl
        show am_E _ _ _ 32 [(0, .inr (.inr (.inl (some 107)))), (1, .inl (m : Int)), (2, .inl way)] [.inl ((sp_open (I 108)))] (am_mm D I J ρ) _
        refine am_e_static (Q := fun r => r = (some (.inl ((am_pop (sp_open (I 108))))), (am_mm D I J ρ))) rfl (Nat.le_of_ble_eq_true rfl) rfl (Nat.le_of_ble_eq_true rfl) (Nat.le_of_ble_eq_true rfl) (r_count1 _) ?_
        rintro r rfl
        show am_E _ _ _ 35 [(0, .inr (.inr (.inl (some 107)))), (1, .inl (m : Int)), (2, .inl way)] [.inl ((am_pop (sp_open (I 108))))] (am_mm D I J ρ) _
        refine am_e_ss 1 (q := (36, [(0, .inr (.inr (.inl (some 107)))), (1, .inl (m : Int)), (2, .inl way)], [.inl 5, .inl ((am_pop (sp_open (I 108))))], (am_mm D I J ρ))) rfl ?_
        refine am_e_icmp2 rfl ⟨by omega, by omega⟩ ⟨by omega, by omega⟩ (fun (h4 : (am_pop (sp_open (I 108))) ≤ 5) => ?_) (fun (h4 : ¬ ((am_pop (sp_open (I 108))) ≤ 5)) => ?_)
        · show am_E _ _ _ 42 [(0, .inr (.inr (.inl (some 107)))), (1, .inl (m : Int)), (2, .inl way)] [] (am_mm D I J ρ) _
          refine am_e_ss 1 (q := (43, [(0, .inr (.inr (.inl (some 107)))), (1, .inl (m : Int)), (2, .inl way)], [.inr (.inr (.inl (some 107)))], (am_mm D I J ρ))) rfl ?_
          refine am_e_virtual (Q := fun r => ∃ Q60, r = (none, (am_mm D (am_wp tLL I Q60) J ρ)) ∧ r_lks (I 108) (Q60 113)) rfl rfl (Nat.le_of_ble_eq_true rfl) rfl rfl (Nat.le_of_ble_eq_true rfl) (Nat.le_of_ble_eq_true rfl) (r_looksForLikes _ (B := B) hok hwf) ?_
          rintro r ⟨Q60, rfl, hl⟩
          show am_E _ _ _ 46 [(0, .inr (.inr (.inl (some 107)))), (1, .inl (m : Int)), (2, .inl way)] [] (am_mm D (am_wp tLL I Q60) J ρ) _
          refine am_e_ss 3 (q := (49, [(0, .inr (.inr (.inl (some 107)))), (1, .inl (m : Int)), (2, .inl way)], [.inl way, .inl (m : Int), .inr (.inr (.inl (some 107)))], (am_mm D (am_wp tLL I Q60) J ρ))) rfl ?_
          refine am_e_virtual (Q := fun r => ∃ Q61, r = (none, (am_mm D (am_wp tD (am_wp tLL I Q60) Q61) J ρ)) ∧ Q61 107 22 = sp_aln (I 108) m way ∧ Q61 107 23 = (sp_tell (I 108) m way).2) rfl rfl (Nat.le_of_ble_eq_true rfl) rfl rfl (Nat.le_of_ble_eq_true rfl) (Nat.le_of_ble_eq_true rfl) (r_tellsOther _ (B := B) (show ((m : Nat) : Int) < (I 108) 19 by omega) ⟨by omega, by omega⟩ hl hok hwf) ?_
          rintro r ⟨Q61, rfl, ⟨t1, t2⟩⟩
          show am_E _ _ _ 52 [(0, .inr (.inr (.inl (some 107)))), (1, .inl (m : Int)), (2, .inl way)] [] (am_mm D (am_wp tD (am_wp tLL I Q60) Q61) J ρ) _
          refine am_e_ss 2 (q := (56, [(0, .inr (.inr (.inl (some 107)))), (1, .inl (m : Int)), (2, .inl way)], [.inl ((Q61 107 23))], (am_mm D (am_wp tD (am_wp tLL I Q60) Q61) J ρ))) rfl ?_
          refine am_e_ireturn rfl rfl ?_
          have eg : sp_gain (I 108) (m : Int) way = (sp_tell (I 108) m way).2 := by
            have e7 : I 108 (7 + (m : Int)).toNat = I 108 (7 + m) := rfl
            unfold sp_gain
            rw [if_neg (by omega), if_neg (by omega), if_neg (by omega), if_neg (by omega)]
            rfl
          rw [eg, ← t2]
          exact ⟨_, am_r_wp tB (am_k_wp (tD_tB) (am_k_wp (tLL_tB) (am_k_id)))⟩
        · show am_E _ _ _ 39 [(0, .inr (.inr (.inl (some 107)))), (1, .inl (m : Int)), (2, .inl way)] [] (am_mm D I J ρ) _
          refine am_e_ss 1 (q := (41, [(0, .inr (.inr (.inl (some 107)))), (1, .inl (m : Int)), (2, .inl way)], [.inl (-9)], (am_mm D I J ρ))) rfl ?_
          refine am_e_ireturn rfl rfl ?_
          rw [show sp_gain (I 108) (m : Int) way = (-9) by (have e7 : I 108 (7 + (m : Int)).toNat = I 108 (7 + m) := rfl; unfold sp_gain; (repeat' split) <;> first | rfl | (exfalso; omega))]
          exact ⟨I, am_r_wp tB am_k_id⟩
      · show am_E _ _ _ 25 [(0, .inr (.inr (.inl (some 107)))), (1, .inl (m : Int)), (2, .inl way)] [] (am_mm D I J ρ) _
        refine am_e_ss 1 (q := (27, [(0, .inr (.inr (.inl (some 107)))), (1, .inl (m : Int)), (2, .inl way)], [.inl (-3)], (am_mm D I J ρ))) rfl ?_
        refine am_e_ireturn rfl rfl ?_
        rw [show sp_gain (I 108) (m : Int) way = (-3) by (have e7 : I 108 (7 + (m : Int)).toNat = I 108 (7 + m) := rfl; unfold sp_gain; (repeat' split) <;> first | rfl | (exfalso; omega))]
        exact ⟨I, am_r_wp tB am_k_id⟩
    · show am_E _ _ _ 15 [(0, .inr (.inr (.inl (some 107)))), (1, .inl (m : Int)), (2, .inl way)] [] (am_mm D I J ρ) _
      refine am_e_ss 1 (q := (16, [(0, .inr (.inr (.inl (some 107)))), (1, .inl (m : Int)), (2, .inl way)], [.inl (-1)], (am_mm D I J ρ))) rfl ?_
      refine am_e_ireturn rfl rfl ?_
      rw [show sp_gain (I 108) (m : Int) way = (-1) by (have e7 : I 108 (7 + (m : Int)).toNat = I 108 (7 + m) := rfl; unfold sp_gain; (repeat' split) <;> first | rfl | (exfalso; omega))]
      exact ⟨I, am_r_wp tB am_k_id⟩
theorem r_gain0 {X : Nat × (Nat → Int)} {D : List (Nat × Nat)} {I J : Nat → Nat → Int} {ρ : Nat → Nat → Option Nat} (d : Nat) {B way m : Int} (hm : -2147483648 ≤ m ∧ m < 0) (hway : -2147483648 ≤ way ∧ way < 2147483648) (hok : r_ok (I 108) B) (hwf : sp_wfS (I 108)) : am_E X (d + 13) 183 0 [(0, .inr (.inr (.inl (some 107)))), (1, .inl m), (2, .inl way)] [] (am_mm D I J ρ) (fun r => ∃ Q, r = (some (.inl (sp_gain (I 108) m way)), am_mm D (am_wp tB I Q) J ρ)) := by
  have hok2 := hok
  obtain ⟨o0, oG, oH, oD, o19, o20, o21, o22, o23, o24, oK, oV, oP, oM, oS, oY, oHd, oT, oC, oN⟩ := hok
  have hok := hok2
  have opb := sp_ops_b hok
  have opp : am_pop (sp_open (I 108)) = sp_ops (I 108) := sp_open_pop hok
  refine am_e_ss 2 (q := (2, [(0, .inr (.inr (.inl (some 107)))), (1, .inl m), (2, .inl way)], [.inl m, .inr (.inr (.inl (some 107)))], (am_mm D I J ρ))) rfl ?_
  refine am_e_virtual (Q := fun r => r = (some (.inl ((am_bi (0 ≤ m ∧ m ≤ ((I 108 19) - 1))))), (am_mm D I J ρ))) rfl rfl (Nat.le_of_ble_eq_true rfl) rfl rfl (Nat.le_of_ble_eq_true rfl) (Nat.le_of_ble_eq_true rfl) (r_isMember _ ⟨by omega, by omega⟩ (show 0 ≤ (I 108 19) ∧ (I 108 19) ≤ 6 by omega)) ?_
  rintro r rfl
  show am_E _ _ _ 5 [(0, .inr (.inr (.inl (some 107)))), (1, .inl m), (2, .inl way)] [.inl ((am_bi (0 ≤ m ∧ m ≤ ((I 108 19) - 1))))] (am_mm D I J ρ) _
  refine am_e_ifeq rfl (fun h1 => ?_) (fun h1 => ?_)
  · show am_E _ _ _ 15 [(0, .inr (.inr (.inl (some 107)))), (1, .inl m), (2, .inl way)] [] (am_mm D I J ρ) _
    refine am_e_ss 1 (q := (16, [(0, .inr (.inr (.inl (some 107)))), (1, .inl m), (2, .inl way)], [.inl (-1)], (am_mm D I J ρ))) rfl ?_
    refine am_e_ireturn rfl rfl ?_
    rw [show sp_gain (I 108) m way = (-1) by (unfold sp_gain; (repeat' split) <;> first | rfl | (exfalso; omega))]
    exact ⟨I, am_r_wp tB am_k_id⟩
  · show am_E _ _ _ 8 [(0, .inr (.inr (.inl (some 107)))), (1, .inl m), (2, .inl way)] [] (am_mm D I J ρ) _
    exfalso; omega
theorem r_gain {X : Nat × (Nat → Int)} {D : List (Nat × Nat)} {I J : Nat → Nat → Int} {ρ : Nat → Nat → Option Nat} (d : Nat) {B m way : Int} (hm : -2147483648 ≤ m ∧ m < 2147483648) (hway : -2147483648 ≤ way ∧ way < 2147483648) (hok : r_ok (I 108) B) (hwf : sp_wfS (I 108)) : am_E X (d + 13) 183 0 [(0, .inr (.inr (.inl (some 107)))), (1, .inl m), (2, .inl way)] [] (am_mm D I J ρ) (fun r => ∃ Q, r = (some (.inl (sp_gain (I 108) m way)), am_mm D (am_wp tB I Q) J ρ)) := by
  by_cases h : 0 ≤ m
  · obtain ⟨k, rfl⟩ : ∃ k : Nat, m = (k : Int) := ⟨m.toNat, by omega⟩
    exact r_gainN d hm.2 hway hok hwf
  · exact r_gain0 d ⟨hm.1, by omega⟩ hway hok hwf
