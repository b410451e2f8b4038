/-! THE REFERENCE: rows told otherwise -/
def tT : Nat → Nat → Bool := fun c i => Nat.beq c 117 || Nat.beq c 118 || (Nat.beq c 107 && (Nat.beq i 21 || Nat.beq i 22 || Nat.beq i 23))
def tD : Nat → Nat → Bool := fun c i => Nat.beq c 114 || Nat.beq c 115 || Nat.beq c 116 || Nat.beq c 117 || Nat.beq c 118 || (Nat.beq c 107 && (Nat.beq i 20 || Nat.beq i 21 || Nat.beq i 22 || Nat.beq i 23))
theorem tC_tD : ∀ c i, tC c i = true → tD c i = true := by
  intro c i
  unfold tC tD
  simp
  omega
theorem tT_tD : ∀ c i, tT c i = true → tD c i = true := by
  intro c i
  unfold tT tD
  simp
  omega
def tB : Nat → Nat → Bool := fun c i => Nat.beq c 111 || Nat.beq c 112 || Nat.beq c 113 || Nat.beq c 114 || Nat.beq c 115 || Nat.beq c 116 || Nat.beq c 117 || Nat.beq c 118 || (Nat.beq c 107 && (Nat.beq i 12 || Nat.beq i 13 || Nat.beq i 20 || Nat.beq i 21 || Nat.beq i 22 || Nat.beq i 23))
theorem tLL_tB : ∀ c i, tLL c i = true → tB c i = true := by
  intro c i
  unfold tLL tB
  simp
  omega
theorem tD_tB : ∀ c i, tD c i = true → tB c i = true := by
  intro c i
  unfold tD tB
  simp
  omega
theorem tA_tB : ∀ c i, tA c i = true → tB c i = true := by
  intro c i
  unfold tA tB
  simp
  omega
def sp_fo (S : Nat → Int) (VL : Nat → List Nat) (m : Nat) (way : Int) : List Nat → Int := fun p => sp_cho S (sp_set VL m p) way
def sp_lkm (S : Nat → Int) (m : Nat) : Int → Int := fun x => sp_like S (m : Int) x
def r_ofQ (I Q : Nat → Nat → Int) (m : Nat) (p : List Nat) (s : Int × Int) : Prop := (Q 107 22 = s.1 ∧ Q 107 23 = s.2) ∧ Q 107 21 = (if s.2 = -5 then 0 else 1) ∧ (∀ i, i < 6 * m ∨ 6 * m + 6 ≤ i → Q 117 i = I 117 i) ∧ (∀ i, i < p.length → Q 117 (6 * m + i) = I 117 (6 * m + i)) ∧ (∀ j, j ≠ m → Q 118 j = I 118 j)
def r_ofI (I : Nat → Nat → Int) (B way is a t kk : Int) (m : Nat) (VL : Nat → List Nat) (p : List Nat) (n : Nat) : Prop :=
  (r_ok (I 108) B ∧ sp_wfS (I 108)) ∧ ((m : Int) < I 108 19 ∧ (0 ≤ way ∧ way ≤ 5) ∧ (0 ≤ is ∧ is < I 108 20) ∧ (a = 0 ∨ a = 1)) ∧ (t = am_bits (fun x => p.contains x) 6 ∧ kk = (p.length : Int)) ∧ (sp_ops (I 108) = (p.length : Int) + (n : Int) ∧ ¬ sp_ops (I 108) = 0) ∧ (∀ x ∈ p, x < (I 108 20).toNat) ∧
  (I 107 20 = sp_ops (I 108) ∧ I 107 21 = 0 ∧ I 107 22 = a ∧ I 107 23 = -5) ∧ (∀ m : Nat, m < (I 108 19).toNat → am_rowl (I 114) (6 * m) (sp_ord (I 108) m)) ∧ r_lks (I 108) (I 113) ∧ r_vl (I 108) VL ∧ (∀ j, j < (I 108 19).toNat → j ≠ m → I 118 j = ((VL j).length : Int) ∧ am_rowl (I 117) (6 * j) (VL j)) ∧ am_rowl (I 117) (6 * m) p
theorem sp_lfk_pre {S : Nat → Int} {p : List Nat} {b : Nat} : ∀ n, b ≤ n → ∃ r, sp_lfk S p n = sp_lfk S p b ++ r := by
  intro n
  induction n with
  | zero => intro h; exact ⟨[], by rw [show b = 0 by omega, List.append_nil]⟩
  | succ n ih =>
    intro h
    by_cases e : b = n + 1
    · exact ⟨[], by rw [e, List.append_nil]⟩
    · obtain ⟨r, hr⟩ := ih (by omega)
      by_cases e2 : S (13 + n) = 0 ∧ ¬ n ∈ p
      · exact ⟨r ++ [n], by rw [sp_lfk_s1 e2.1 e2.2, hr, List.append_assoc]⟩
      · refine ⟨r, ?_⟩
        rw [sp_lfk_s0 (by
          by_cases e3 : S (13 + n) = 0
          · by_cases e4 : n ∈ p
            · exact Or.inr e4
            · exact absurd ⟨e3, e4⟩ e2
          · exact Or.inl e3), hr]
theorem sp_t1_01 {f : List Nat → Int} {lk : Int → Int} {is : Int} : ∀ {l : List (List Nat)} {s : Int × Int}, (s.1 = 0 ∨ s.1 = 1) → ((l.foldl (sp_t1 f lk is) s).1 = 0 ∨ (l.foldl (sp_t1 f lk is) s).1 = 1) := by
  intro l
  induction l with
  | nil => intro s h1; exact h1
  | cons p l ih =>
    intro s h1
    rw [List.foldl_cons]
    refine ih ?_
    unfold sp_t1
    split
    · simp only
      split <;> simp
    · exact h1
theorem sp_t1_b {f : List Nat → Int} {lk : Int → Int} {is c : Int} : ∀ {l : List (List Nat)} {s : Int × Int}, (∀ p ∈ l, 0 ≤ f p ∧ f p ≤ c) → (s.2 = -5 ∨ (0 ≤ s.2 ∧ s.2 ≤ c)) → ((l.foldl (sp_t1 f lk is) s).2 = -5 ∨ (0 ≤ (l.foldl (sp_t1 f lk is) s).2 ∧ (l.foldl (sp_t1 f lk is) s).2 ≤ c)) := by
  intro l
  induction l with
  | nil => intro s _ h2; exact h2
  | cons p l ih =>
    intro s hl h2
    rw [List.foldl_cons]
    have h3 := hl p List.mem_cons_self
    refine ih (fun q hq => hl q (List.mem_cons_of_mem _ hq)) ?_
    unfold sp_t1
    split
    · simp only
      split
      · exact Or.inr h3
      · exact Or.inl rfl
    · exact h2
theorem sp_pl2_mem {S : Nat → Int} : ∀ n {p q : List Nat}, q ∈ sp_pl2 S n p → q.length = p.length + n ∧ ∀ x ∈ q, x ∈ p ∨ (x < (S 20).toNat ∧ S (13 + x) = 0) := by
  intro n
  induction n with
  | zero =>
    intro p q h
    have h : q = p := by simpa [sp_pl2] using h
    subst h
    exact ⟨rfl, fun x hx => Or.inl hx⟩
  | succ n ih =>
    intro p q h
    unfold sp_pl2 at h
    rw [List.mem_flatMap] at h
    obtain ⟨b, hb, hq⟩ := h
    obtain ⟨h1, h2⟩ := ih hq
    unfold sp_lft sp_lfk at hb
    have hb := (sp_obk_mem _).mp (List.mem_filter.mp hb).1
    refine ⟨by rw [h1, List.length_append, List.length_singleton]; omega, ?_⟩
    intro x hx
    rcases h2 x hx with h | h
    · rcases List.mem_append.mp h with h | h
      · exact Or.inl h
      · have : x = b := by simpa using h
        subst this
        exact Or.inr hb
    · exact Or.inr h
def r_ofC (X : Nat × (Nat → Int)) (D : List (Nat × Nat)) (J : Nat → Nat → Int) (ρ : Nat → Nat → Option Nat) (d n : Nat) : Prop := ∀ (I : Nat → Nat → Int) (B way is a t kk : Int) (m : Nat) (VL : Nat → List Nat) (p : List Nat), r_ofI I B way is a t kk m VL p n → am_E X d 180 0 [(0, .inr (.inr (.inl (some 107)))), (1, .inl (m : Int)), (2, .inl kk), (3, .inl t), (4, .inl way), (5, .inl is)] [] (am_mm D I J ρ) (fun r => ∃ Q, r = (none, am_mm D (am_wp tT I Q) J ρ) ∧ r_ofQ I Q m p ((sp_pl2 (I 108) n p).foldl (sp_t1 (sp_fo (I 108) VL m way) (sp_lkm (I 108) m) is) (a, -5)))
theorem r_of0 {X : Nat × (Nat → Int)} {D : List (Nat × Nat)} {I J : Nat → Nat → Int} {ρ : Nat → Nat → Option Nat} (d : Nat) {B way is a t kk : Int} {m : Nat} {VL : Nat → List Nat} {p : List Nat} (hI : r_ofI I B way is a t kk m VL p 0) : am_E X (d + 5) 180 0 [(0, .inr (.inr (.inl (some 107)))), (1, .inl (m : Int)), (2, .inl kk), (3, .inl t), (4, .inl way), (5, .inl is)] [] (am_mm D I J ρ) (fun r => ∃ Q, r = (none, am_mm D (am_wp tT I Q) J ρ) ∧ r_ofQ I Q m p ((sp_pl2 (I 108) 0 p).foldl (sp_t1 (sp_fo (I 108) VL m way) (sp_lkm (I 108) m) is) (a, -5))) := by
  obtain ⟨⟨hok, hwf⟩, ⟨hm, hw, his, ha⟩, ⟨ht, hkk⟩, ⟨hops, hne⟩, hpb, ⟨hop, h21, h22, h23⟩, hO, hl, hvl0, hoth, hpr⟩ := hI
  have opb := sp_ops_b hok
  have hok2 := hok
  obtain ⟨o0, oG, oH, oD, o19, o20, o21, o22, o23, o24, oK, oV, oP, oM, oS, oY, oHd, oT, oC, oN⟩ := hok
  have hok := hok2
  refine am_e_ss 3 (q := (5, [(0, .inr (.inr (.inl (some 107)))), (1, .inl (m : Int)), (2, .inl kk), (3, .inl t), (4, .inl way), (5, .inl is)], [.inl ((I 107 20)), .inl kk], (am_mm D I J ρ))) rfl ?_
  refine am_e_icmp2 rfl ⟨by omega, by omega⟩ ⟨by omega, by omega⟩ (fun (h1 : ¬ kk = (I 107 20)) => ?_) (fun (h1 : ¬ (¬ kk = (I 107 20))) => ?_)
  · show am_E _ _ _ 110 [(0, .inr (.inr (.inl (some 107)))), (1, .inl (m : Int)), (2, .inl kk), (3, .inl t), (4, .inl way), (5, .inl is)] [] (am_mm D I J ρ) _
    exfalso; omega
  · show am_E _ _ _ 8 [(0, .inr (.inr (.inl (some 107)))), (1, .inl (m : Int)), (2, .inl kk), (3, .inl t), (4, .inl way), (5, .inl is)] [] (am_mm D I J ρ) _
    refine am_e_ss 5 (q := (17, [(0, .inr (.inr (.inl (some 107)))), (1, .inl (m : Int)), (2, .inl kk), (3, .inl t), (4, .inl way), (5, .inl is)], [.inl ((I 107 20)), .inl (m : Int), .inr (.inr (.inl (some 118)))], (am_mm D I J ρ))) rfl ?_
    refine am_e_iastore (m := 6) rfl rfl (by omega) (by omega) (by omega) ?_
    show am_E _ _ _ 18 [(0, .inr (.inr (.inl (some 107)))), (1, .inl (m : Int)), (2, .inl kk), (3, .inl t), (4, .inl way), (5, .inl is)] [] (am_mm D (am_up I 118 m (I 107 20)) J ρ) _
    have hvl : r_vl (I 108) (sp_set VL m p) := by
      intro j hj
      unfold sp_set
      by_cases e : j = m
      · rw [if_pos e]; exact ⟨by omega, hpb⟩
      · rw [if_neg e]; exact hvl0 j hj
    have hV : r_rep (I 108 19).toNat ((am_up I 118 m (I 107 20)) 117) ((am_up I 118 m (I 107 20)) 118) (sp_set VL m p) := by
      intro j hj
      unfold sp_set
      by_cases e : j = m
      · subst e; rw [if_pos rfl]; exact ⟨am_up_at2.trans (by omega), hpr⟩
      · rw [if_neg e]; exact ⟨(am_up_ne2 (by omega)).trans (hoth j hj e).1, (hoth j hj e).2⟩
    have cb := sp_cho_b (way := way) hok hvl hne
    refine am_e_ss 2 (q := (21, [(0, .inr (.inr (.inl (some 107)))), (1, .inl (m : Int)), (2, .inl kk), (3, .inl t), (4, .inl way), (5, .inl is)], [.inl way, .inr (.inr (.inl (some 107)))], (am_mm D (am_up I 118 m (I 107 20)) J ρ))) rfl ?_
    refine am_e_virtual (Q := fun r => r = (some (.inl ((sp_cho (I 108) (sp_set VL m p) way))), (am_mm D (am_up I 118 m (I 107 20)) J ρ))) rfl rfl (Nat.le_of_ble_eq_true rfl) rfl rfl (Nat.le_of_ble_eq_true rfl) (Nat.le_of_ble_eq_true rfl) (r_cho _ (B := B) (VL := (sp_set VL m p)) ⟨by omega, by omega⟩ hop hV hvl hO hok) ?_
    rintro r rfl
    show am_E _ _ _ 24 [(0, .inr (.inr (.inl (some 107)))), (1, .inl (m : Int)), (2, .inl kk), (3, .inl t), (4, .inl way), (5, .inl is)] [.inl ((sp_cho (I 108) (sp_set VL m p) way))] (am_mm D (am_up I 118 m (I 107 20)) J ρ) _
    refine am_e_ss 1 (q := (26, [(6, .inl ((sp_cho (I 108) (sp_set VL m p) way))), (0, .inr (.inr (.inl (some 107)))), (1, .inl (m : Int)), (2, .inl kk), (3, .inl t), (4, .inl way), (5, .inl is)], [], (am_mm D (am_up I 118 m (I 107 20)) J ρ))) rfl ?_
    have l1 := hl m (sp_cho (I 108) (sp_set VL m p) way).toNat (by omega) (by omega)
    have l2 := hl m is.toNat (by omega) (by omega)
    rw [show 6 * m + (sp_cho (I 108) (sp_set VL m p) way).toNat = ((6 * (m : Int)) + (sp_cho (I 108) (sp_set VL m p) way)).toNat by omega, show (((sp_cho (I 108) (sp_set VL m p) way).toNat : Nat) : Int) = (sp_cho (I 108) (sp_set VL m p) way) by omega] at l1
    rw [show 6 * m + is.toNat = ((6 * (m : Int)) + is).toNat by omega, show ((is.toNat : Nat) : Int) = is by omega] at l2
    have l3 := sp_like_b hok hwf (m := (m : Int)) (b := (sp_cho (I 108) (sp_set VL m p) way)) ⟨by omega, by omega⟩ ⟨by omega, by omega⟩
    have l4 := sp_like_b hok hwf (m := (m : Int)) (b := is) ⟨by omega, by omega⟩ ⟨by omega, by omega⟩
    refine am_e_ss 3 (q := (31, [(6, .inl ((sp_cho (I 108) (sp_set VL m p) way))), (0, .inr (.inr (.inl (some 107)))), (1, .inl (m : Int)), (2, .inl kk), (3, .inl t), (4, .inl way), (5, .inl is)], [.inl ((I 107 22)), .inr (.inr (.inl (some 107)))], (am_mm D (am_up I 118 m (I 107 20)) J ρ))) rfl ?_
    refine am_e_if2 rfl ⟨by omega, by omega⟩ (fun (h2 : ¬ (I 107 22) = 0) => ?_) (fun (h2 : ¬ (¬ (I 107 22) = 0)) => ?_)
    · show am_E _ _ _ 41 [(6, .inl ((sp_cho (I 108) (sp_set VL m p) way))), (0, .inr (.inr (.inl (some 107)))), (1, .inl (m : Int)), (2, .inl kk), (3, .inl t), (4, .inl way), (5, .inl is)] [.inr (.inr (.inl (some 107)))] (am_mm D (am_up I 118 m (I 107 20)) J ρ) _
      refine am_e_ss 6 (q := (55, [(6, .inl ((sp_cho (I 108) (sp_set VL m p) way))), (0, .inr (.inr (.inl (some 107)))), (1, .inl (m : Int)), (2, .inl kk), (3, .inl t), (4, .inl way), (5, .inl is)], [.inl (-5), .inl ((I 107 23))], (am_mm D (am_up (am_up I 118 m (I 107 20)) 107 22 1) J ρ))) rfl ?_
      refine am_e_icmp2 rfl ⟨by omega, by omega⟩ ⟨by omega, by omega⟩ (fun (h3 : ¬ (I 107 23) = (-5)) => ?_) (fun (h3 : ¬ (¬ (I 107 23) = (-5))) => ?_)
      · show am_E _ _ _ 91 [(6, .inl ((sp_cho (I 108) (sp_set VL m p) way))), (0, .inr (.inr (.inl (some 107)))), (1, .inl (m : Int)), (2, .inl kk), (3, .inl t), (4, .inl way), (5, .inl is)] [] (am_mm D (am_up (am_up I 118 m (I 107 20)) 107 22 1) J ρ) _
        refine am_e_ss 4 (q := (98, [(6, .inl ((sp_cho (I 108) (sp_set VL m p) way))), (0, .inr (.inr (.inl (some 107)))), (1, .inl (m : Int)), (2, .inl kk), (3, .inl t), (4, .inl way), (5, .inl is)], [.inl (-5), .inl ((I 107 23)), .inr (.inr (.inl (some 107)))], (am_mm D (am_up (am_up I 118 m (I 107 20)) 107 22 1) J ρ))) rfl ?_
        refine am_e_icmp2 rfl ⟨by omega, by omega⟩ ⟨by omega, by omega⟩ (fun (h4 : (I 107 23) = (-5)) => ?_) (fun (h4 : ¬ ((I 107 23) = (-5))) => ?_)
        · show am_E _ _ _ 105 [(6, .inl ((sp_cho (I 108) (sp_set VL m p) way))), (0, .inr (.inr (.inl (some 107)))), (1, .inl (m : Int)), (2, .inl kk), (3, .inl t), (4, .inl way), (5, .inl is)] [.inr (.inr (.inl (some 107)))] (am_mm D (am_up (am_up I 118 m (I 107 20)) 107 22 1) J ρ) _
          refine am_e_ss 2 (q := (109, [(6, .inl ((sp_cho (I 108) (sp_set VL m p) way))), (0, .inr (.inr (.inl (some 107)))), (1, .inl (m : Int)), (2, .inl kk), (3, .inl t), (4, .inl way), (5, .inl is)], [], (am_mm D (am_up (am_up (am_up I 118 m (I 107 20)) 107 22 1) 107 21 0) J ρ))) rfl ?_
          refine am_e_return rfl rfl ?_
          have es : (sp_pl2 (I 108) 0 p).foldl (sp_t1 (sp_fo (I 108) VL m way) (sp_lkm (I 108) m) is) (a, -5) = ((if a = 0 ∧ (sp_cho (I 108) (sp_set VL m p) way) = is then 0 else 1), (if sp_like (I 108) (m : Int) is < sp_like (I 108) (m : Int) (sp_cho (I 108) (sp_set VL m p) way) then (sp_cho (I 108) (sp_set VL m p) way) else -5)) := rfl
          rw [es]
          refine ⟨_, am_r_wp tT (am_k_up rfl (am_k_up rfl (am_k_up rfl (am_k_id)))), ⟨?_, ?_⟩, ?_, fun i _ => rfl, fun i _ => rfl, fun j hj => (show am_up I 118 m (I 107 20) 118 j = I 118 j from am_up_ne2 (by omega))⟩
          · show 1 = (if a = 0 ∧ (sp_cho (I 108) (sp_set VL m p) way) = is then 0 else 1)
            split <;> omega
          · show (I 107 23) = (if sp_like (I 108) (m : Int) is < sp_like (I 108) (m : Int) (sp_cho (I 108) (sp_set VL m p) way) then (sp_cho (I 108) (sp_set VL m p) way) else -5)
            split <;> omega
          · show 0 = (if (if sp_like (I 108) (m : Int) is < sp_like (I 108) (m : Int) (sp_cho (I 108) (sp_set VL m p) way) then (sp_cho (I 108) (sp_set VL m p) way) else -5) = -5 then 0 else 1)
            (repeat' split) <;> omega
        · show am_E _ _ _ 101 [(6, .inl ((sp_cho (I 108) (sp_set VL m p) way))), (0, .inr (.inr (.inl (some 107)))), (1, .inl (m : Int)), (2, .inl kk), (3, .inl t), (4, .inl way), (5, .inl is)] [.inr (.inr (.inl (some 107)))] (am_mm D (am_up (am_up I 118 m (I 107 20)) 107 22 1) J ρ) _
          refine am_e_ss 3 (q := (109, [(6, .inl ((sp_cho (I 108) (sp_set VL m p) way))), (0, .inr (.inr (.inl (some 107)))), (1, .inl (m : Int)), (2, .inl kk), (3, .inl t), (4, .inl way), (5, .inl is)], [], (am_mm D (am_up (am_up (am_up I 118 m (I 107 20)) 107 22 1) 107 21 1) J ρ))) rfl ?_
          refine am_e_return rfl rfl ?_
          have es : (sp_pl2 (I 108) 0 p).foldl (sp_t1 (sp_fo (I 108) VL m way) (sp_lkm (I 108) m) is) (a, -5) = ((if a = 0 ∧ (sp_cho (I 108) (sp_set VL m p) way) = is then 0 else 1), (if sp_like (I 108) (m : Int) is < sp_like (I 108) (m : Int) (sp_cho (I 108) (sp_set VL m p) way) then (sp_cho (I 108) (sp_set VL m p) way) else -5)) := rfl
          rw [es]
          refine ⟨_, am_r_wp tT (am_k_up rfl (am_k_up rfl (am_k_up rfl (am_k_id)))), ⟨?_, ?_⟩, ?_, fun i _ => rfl, fun i _ => rfl, fun j hj => (show am_up I 118 m (I 107 20) 118 j = I 118 j from am_up_ne2 (by omega))⟩
          · show 1 = (if a = 0 ∧ (sp_cho (I 108) (sp_set VL m p) way) = is then 0 else 1)
            split <;> omega
          · show (I 107 23) = (if sp_like (I 108) (m : Int) is < sp_like (I 108) (m : Int) (sp_cho (I 108) (sp_set VL m p) way) then (sp_cho (I 108) (sp_set VL m p) way) else -5)
            split <;> omega
          · show 1 = (if (if sp_like (I 108) (m : Int) is < sp_like (I 108) (m : Int) (sp_cho (I 108) (sp_set VL m p) way) then (sp_cho (I 108) (sp_set VL m p) way) else -5) = -5 then 0 else 1)
            (repeat' split) <;> omega
      · show am_E _ _ _ 58 [(6, .inl ((sp_cho (I 108) (sp_set VL m p) way))), (0, .inr (.inr (.inl (some 107)))), (1, .inl (m : Int)), (2, .inl kk), (3, .inl t), (4, .inl way), (5, .inl is)] [] (am_mm D (am_up (am_up I 118 m (I 107 20)) 107 22 1) J ρ) _
        refine am_e_ss 7 (q := (69, [(6, .inl ((sp_cho (I 108) (sp_set VL m p) way))), (0, .inr (.inr (.inl (some 107)))), (1, .inl (m : Int)), (2, .inl kk), (3, .inl t), (4, .inl way), (5, .inl is)], [.inl ((6 * (m : Int)) + (sp_cho (I 108) (sp_set VL m p) way)), .inr (.inr (.inl (some 113)))], (am_mm D (am_up (am_up I 118 m (I 107 20)) 107 22 1) J ρ))) rfl ?_
        refine am_e_iaload (m := 36) rfl rfl (by omega) (by omega) (by omega) ?_
        show am_E _ _ _ 70 [(6, .inl ((sp_cho (I 108) (sp_set VL m p) way))), (0, .inr (.inr (.inl (some 107)))), (1, .inl (m : Int)), (2, .inl kk), (3, .inl t), (4, .inl way), (5, .inl is)] [.inl ((I 113 (((6 * (m : Int)) + (sp_cho (I 108) (sp_set VL m p) way))).toNat))] (am_mm D (am_up (am_up I 118 m (I 107 20)) 107 22 1) J ρ) _
        refine am_e_ss 7 (q := (81, [(6, .inl ((sp_cho (I 108) (sp_set VL m p) way))), (0, .inr (.inr (.inl (some 107)))), (1, .inl (m : Int)), (2, .inl kk), (3, .inl t), (4, .inl way), (5, .inl is)], [.inl ((6 * (m : Int)) + is), .inr (.inr (.inl (some 113))), .inl ((I 113 (((6 * (m : Int)) + (sp_cho (I 108) (sp_set VL m p) way))).toNat))], (am_mm D (am_up (am_up I 118 m (I 107 20)) 107 22 1) J ρ))) rfl ?_
        refine am_e_iaload (m := 36) rfl rfl (by omega) (by omega) (by omega) ?_
        show am_E _ _ _ 82 [(6, .inl ((sp_cho (I 108) (sp_set VL m p) way))), (0, .inr (.inr (.inl (some 107)))), (1, .inl (m : Int)), (2, .inl kk), (3, .inl t), (4, .inl way), (5, .inl is)] [.inl ((I 113 (((6 * (m : Int)) + is)).toNat)), .inl ((I 113 (((6 * (m : Int)) + (sp_cho (I 108) (sp_set VL m p) way))).toNat))] (am_mm D (am_up (am_up I 118 m (I 107 20)) 107 22 1) J ρ) _
        refine am_e_icmp2 rfl ⟨by omega, by omega⟩ ⟨by omega, by omega⟩ (fun (h5 : (I 113 (((6 * (m : Int)) + (sp_cho (I 108) (sp_set VL m p) way))).toNat) ≤ (I 113 (((6 * (m : Int)) + is)).toNat)) => ?_) (fun (h5 : ¬ ((I 113 (((6 * (m : Int)) + (sp_cho (I 108) (sp_set VL m p) way))).toNat) ≤ (I 113 (((6 * (m : Int)) + is)).toNat))) => ?_)
        · show am_E _ _ _ 91 [(6, .inl ((sp_cho (I 108) (sp_set VL m p) way))), (0, .inr (.inr (.inl (some 107)))), (1, .inl (m : Int)), (2, .inl kk), (3, .inl t), (4, .inl way), (5, .inl is)] [] (am_mm D (am_up (am_up I 118 m (I 107 20)) 107 22 1) J ρ) _
          refine am_e_ss 4 (q := (98, [(6, .inl ((sp_cho (I 108) (sp_set VL m p) way))), (0, .inr (.inr (.inl (some 107)))), (1, .inl (m : Int)), (2, .inl kk), (3, .inl t), (4, .inl way), (5, .inl is)], [.inl (-5), .inl ((I 107 23)), .inr (.inr (.inl (some 107)))], (am_mm D (am_up (am_up I 118 m (I 107 20)) 107 22 1) J ρ))) rfl ?_
          refine am_e_icmp2 rfl ⟨by omega, by omega⟩ ⟨by omega, by omega⟩ (fun (h6 : (I 107 23) = (-5)) => ?_) (fun (h6 : ¬ ((I 107 23) = (-5))) => ?_)
          · show am_E _ _ _ 105 [(6, .inl ((sp_cho (I 108) (sp_set VL m p) way))), (0, .inr (.inr (.inl (some 107)))), (1, .inl (m : Int)), (2, .inl kk), (3, .inl t), (4, .inl way), (5, .inl is)] [.inr (.inr (.inl (some 107)))] (am_mm D (am_up (am_up I 118 m (I 107 20)) 107 22 1) J ρ) _
            refine am_e_ss 2 (q := (109, [(6, .inl ((sp_cho (I 108) (sp_set VL m p) way))), (0, .inr (.inr (.inl (some 107)))), (1, .inl (m : Int)), (2, .inl kk), (3, .inl t), (4, .inl way), (5, .inl is)], [], (am_mm D (am_up (am_up (am_up I 118 m (I 107 20)) 107 22 1) 107 21 0) J ρ))) rfl ?_
            refine am_e_return rfl rfl ?_
            have es : (sp_pl2 (I 108) 0 p).foldl (sp_t1 (sp_fo (I 108) VL m way) (sp_lkm (I 108) m) is) (a, -5) = ((if a = 0 ∧ (sp_cho (I 108) (sp_set VL m p) way) = is then 0 else 1), (if sp_like (I 108) (m : Int) is < sp_like (I 108) (m : Int) (sp_cho (I 108) (sp_set VL m p) way) then (sp_cho (I 108) (sp_set VL m p) way) else -5)) := rfl
            rw [es]
            refine ⟨_, am_r_wp tT (am_k_up rfl (am_k_up rfl (am_k_up rfl (am_k_id)))), ⟨?_, ?_⟩, ?_, fun i _ => rfl, fun i _ => rfl, fun j hj => (show am_up I 118 m (I 107 20) 118 j = I 118 j from am_up_ne2 (by omega))⟩
            · show 1 = (if a = 0 ∧ (sp_cho (I 108) (sp_set VL m p) way) = is then 0 else 1)
              split <;> omega
            · show (I 107 23) = (if sp_like (I 108) (m : Int) is < sp_like (I 108) (m : Int) (sp_cho (I 108) (sp_set VL m p) way) then (sp_cho (I 108) (sp_set VL m p) way) else -5)
              split <;> omega
            · show 0 = (if (if sp_like (I 108) (m : Int) is < sp_like (I 108) (m : Int) (sp_cho (I 108) (sp_set VL m p) way) then (sp_cho (I 108) (sp_set VL m p) way) else -5) = -5 then 0 else 1)
              (repeat' split) <;> omega
          · show am_E _ _ _ 101 [(6, .inl ((sp_cho (I 108) (sp_set VL m p) way))), (0, .inr (.inr (.inl (some 107)))), (1, .inl (m : Int)), (2, .inl kk), (3, .inl t), (4, .inl way), (5, .inl is)] [.inr (.inr (.inl (some 107)))] (am_mm D (am_up (am_up I 118 m (I 107 20)) 107 22 1) J ρ) _
            refine am_e_ss 3 (q := (109, [(6, .inl ((sp_cho (I 108) (sp_set VL m p) way))), (0, .inr (.inr (.inl (some 107)))), (1, .inl (m : Int)), (2, .inl kk), (3, .inl t), (4, .inl way), (5, .inl is)], [], (am_mm D (am_up (am_up (am_up I 118 m (I 107 20)) 107 22 1) 107 21 1) J ρ))) rfl ?_
            refine am_e_return rfl rfl ?_
            have es : (sp_pl2 (I 108) 0 p).foldl (sp_t1 (sp_fo (I 108) VL m way) (sp_lkm (I 108) m) is) (a, -5) = ((if a = 0 ∧ (sp_cho (I 108) (sp_set VL m p) way) = is then 0 else 1), (if sp_like (I 108) (m : Int) is < sp_like (I 108) (m : Int) (sp_cho (I 108) (sp_set VL m p) way) then (sp_cho (I 108) (sp_set VL m p) way) else -5)) := rfl
            rw [es]
            refine ⟨_, am_r_wp tT (am_k_up rfl (am_k_up rfl (am_k_up rfl (am_k_id)))), ⟨?_, ?_⟩, ?_, fun i _ => rfl, fun i _ => rfl, fun j hj => (show am_up I 118 m (I 107 20) 118 j = I 118 j from am_up_ne2 (by omega))⟩
            · show 1 = (if a = 0 ∧ (sp_cho (I 108) (sp_set VL m p) way) = is then 0 else 1)
              split <;> omega
            · show (I 107 23) = (if sp_like (I 108) (m : Int) is < sp_like (I 108) (m : Int) (sp_cho (I 108) (sp_set VL m p) way) then (sp_cho (I 108) (sp_set VL m p) way) else -5)
              split <;> omega
            · show 1 = (if (if sp_like (I 108) (m : Int) is < sp_like (I 108) (m : Int) (sp_cho (I 108) (sp_set VL m p) way) then (sp_cho (I 108) (sp_set VL m p) way) else -5) = -5 then 0 else 1)
              (repeat' split) <;> omega
        · show am_E _ _ _ 85 [(6, .inl ((sp_cho (I 108) (sp_set VL m p) way))), (0, .inr (.inr (.inl (some 107)))), (1, .inl (m : Int)), (2, .inl kk), (3, .inl t), (4, .inl way), (5, .inl is)] [] (am_mm D (am_up (am_up I 118 m (I 107 20)) 107 22 1) J ρ) _
          refine am_e_ss 7 (q := (98, [(6, .inl ((sp_cho (I 108) (sp_set VL m p) way))), (0, .inr (.inr (.inl (some 107)))), (1, .inl (m : Int)), (2, .inl kk), (3, .inl t), (4, .inl way), (5, .inl is)], [.inl (-5), .inl ((sp_cho (I 108) (sp_set VL m p) way)), .inr (.inr (.inl (some 107)))], (am_mm D (am_up (am_up (am_up I 118 m (I 107 20)) 107 22 1) 107 23 (sp_cho (I 108) (sp_set VL m p) way)) J ρ))) rfl ?_
          refine am_e_icmp2 rfl ⟨by omega, by omega⟩ ⟨by omega, by omega⟩ (fun (h7 : (sp_cho (I 108) (sp_set VL m p) way) = (-5)) => ?_) (fun (h7 : ¬ ((sp_cho (I 108) (sp_set VL m p) way) = (-5))) => ?_)
          · show am_E _ _ _ 105 [(6, .inl ((sp_cho (I 108) (sp_set VL m p) way))), (0, .inr (.inr (.inl (some 107)))), (1, .inl (m : Int)), (2, .inl kk), (3, .inl t), (4, .inl way), (5, .inl is)] [.inr (.inr (.inl (some 107)))] (am_mm D (am_up (am_up (am_up I 118 m (I 107 20)) 107 22 1) 107 23 (sp_cho (I 108) (sp_set VL m p) way)) J ρ) _
            refine am_e_ss 2 (q := (109, [(6, .inl ((sp_cho (I 108) (sp_set VL m p) way))), (0, .inr (.inr (.inl (some 107)))), (1, .inl (m : Int)), (2, .inl kk), (3, .inl t), (4, .inl way), (5, .inl is)], [], (am_mm D (am_up (am_up (am_up (am_up I 118 m (I 107 20)) 107 22 1) 107 23 (sp_cho (I 108) (sp_set VL m p) way)) 107 21 0) J ρ))) rfl ?_
            refine am_e_return rfl rfl ?_
            have es : (sp_pl2 (I 108) 0 p).foldl (sp_t1 (sp_fo (I 108) VL m way) (sp_lkm (I 108) m) is) (a, -5) = ((if a = 0 ∧ (sp_cho (I 108) (sp_set VL m p) way) = is then 0 else 1), (if sp_like (I 108) (m : Int) is < sp_like (I 108) (m : Int) (sp_cho (I 108) (sp_set VL m p) way) then (sp_cho (I 108) (sp_set VL m p) way) else -5)) := rfl
            rw [es]
            refine ⟨_, am_r_wp tT (am_k_up rfl (am_k_up rfl (am_k_up rfl (am_k_up rfl (am_k_id))))), ⟨?_, ?_⟩, ?_, fun i _ => rfl, fun i _ => rfl, fun j hj => (show am_up I 118 m (I 107 20) 118 j = I 118 j from am_up_ne2 (by omega))⟩
            · show 1 = (if a = 0 ∧ (sp_cho (I 108) (sp_set VL m p) way) = is then 0 else 1)
              split <;> omega
            · show (sp_cho (I 108) (sp_set VL m p) way) = (if sp_like (I 108) (m : Int) is < sp_like (I 108) (m : Int) (sp_cho (I 108) (sp_set VL m p) way) then (sp_cho (I 108) (sp_set VL m p) way) else -5)
              split <;> omega
            · show 0 = (if (if sp_like (I 108) (m : Int) is < sp_like (I 108) (m : Int) (sp_cho (I 108) (sp_set VL m p) way) then (sp_cho (I 108) (sp_set VL m p) way) else -5) = -5 then 0 else 1)
              (repeat' split) <;> omega
          · show am_E _ _ _ 101 [(6, .inl ((sp_cho (I 108) (sp_set VL m p) way))), (0, .inr (.inr (.inl (some 107)))), (1, .inl (m : Int)), (2, .inl kk), (3, .inl t), (4, .inl way), (5, .inl is)] [.inr (.inr (.inl (some 107)))] (am_mm D (am_up (am_up (am_up I 118 m (I 107 20)) 107 22 1) 107 23 (sp_cho (I 108) (sp_set VL m p) way)) J ρ) _
            refine am_e_ss 3 (q := (109, [(6, .inl ((sp_cho (I 108) (sp_set VL m p) way))), (0, .inr (.inr (.inl (some 107)))), (1, .inl (m : Int)), (2, .inl kk), (3, .inl t), (4, .inl way), (5, .inl is)], [], (am_mm D (am_up (am_up (am_up (am_up I 118 m (I 107 20)) 107 22 1) 107 23 (sp_cho (I 108) (sp_set VL m p) way)) 107 21 1) J ρ))) rfl ?_
            refine am_e_return rfl rfl ?_
            have es : (sp_pl2 (I 108) 0 p).foldl (sp_t1 (sp_fo (I 108) VL m way) (sp_lkm (I 108) m) is) (a, -5) = ((if a = 0 ∧ (sp_cho (I 108) (sp_set VL m p) way) = is then 0 else 1), (if sp_like (I 108) (m : Int) is < sp_like (I 108) (m : Int) (sp_cho (I 108) (sp_set VL m p) way) then (sp_cho (I 108) (sp_set VL m p) way) else -5)) := rfl
            rw [es]
            refine ⟨_, am_r_wp tT (am_k_up rfl (am_k_up rfl (am_k_up rfl (am_k_up rfl (am_k_id))))), ⟨?_, ?_⟩, ?_, fun i _ => rfl, fun i _ => rfl, fun j hj => (show am_up I 118 m (I 107 20) 118 j = I 118 j from am_up_ne2 (by omega))⟩
            · show 1 = (if a = 0 ∧ (sp_cho (I 108) (sp_set VL m p) way) = is then 0 else 1)
              split <;> omega
            · show (sp_cho (I 108) (sp_set VL m p) way) = (if sp_like (I 108) (m : Int) is < sp_like (I 108) (m : Int) (sp_cho (I 108) (sp_set VL m p) way) then (sp_cho (I 108) (sp_set VL m p) way) else -5)
              split <;> omega
            · show 1 = (if (if sp_like (I 108) (m : Int) is < sp_like (I 108) (m : Int) (sp_cho (I 108) (sp_set VL m p) way) then (sp_cho (I 108) (sp_set VL m p) way) else -5) = -5 then 0 else 1)
              (repeat' split) <;> omega
    · show am_E _ _ _ 34 [(6, .inl ((sp_cho (I 108) (sp_set VL m p) way))), (0, .inr (.inr (.inl (some 107)))), (1, .inl (m : Int)), (2, .inl kk), (3, .inl t), (4, .inl way), (5, .inl is)] [.inr (.inr (.inl (some 107)))] (am_mm D (am_up I 118 m (I 107 20)) J ρ) _
      refine am_e_ss 2 (q := (38, [(6, .inl ((sp_cho (I 108) (sp_set VL m p) way))), (0, .inr (.inr (.inl (some 107)))), (1, .inl (m : Int)), (2, .inl kk), (3, .inl t), (4, .inl way), (5, .inl is)], [.inl is, .inl ((sp_cho (I 108) (sp_set VL m p) way)), .inr (.inr (.inl (some 107)))], (am_mm D (am_up I 118 m (I 107 20)) J ρ))) rfl ?_
      refine am_e_icmp2 rfl ⟨by omega, by omega⟩ ⟨by omega, by omega⟩ (fun (h8 : (sp_cho (I 108) (sp_set VL m p) way) = is) => ?_) (fun (h8 : ¬ ((sp_cho (I 108) (sp_set VL m p) way) = is)) => ?_)
      · show am_E _ _ _ 45 [(6, .inl ((sp_cho (I 108) (sp_set VL m p) way))), (0, .inr (.inr (.inl (some 107)))), (1, .inl (m : Int)), (2, .inl kk), (3, .inl t), (4, .inl way), (5, .inl is)] [.inr (.inr (.inl (some 107)))] (am_mm D (am_up I 118 m (I 107 20)) J ρ) _
        refine am_e_ss 5 (q := (55, [(6, .inl ((sp_cho (I 108) (sp_set VL m p) way))), (0, .inr (.inr (.inl (some 107)))), (1, .inl (m : Int)), (2, .inl kk), (3, .inl t), (4, .inl way), (5, .inl is)], [.inl (-5), .inl ((I 107 23))], (am_mm D (am_up (am_up I 118 m (I 107 20)) 107 22 0) J ρ))) rfl ?_
        refine am_e_icmp2 rfl ⟨by omega, by omega⟩ ⟨by omega, by omega⟩ (fun (h9 : ¬ (I 107 23) = (-5)) => ?_) (fun (h9 : ¬ (¬ (I 107 23) = (-5))) => ?_)
        · show am_E _ _ _ 91 [(6, .inl ((sp_cho (I 108) (sp_set VL m p) way))), (0, .inr (.inr (.inl (some 107)))), (1, .inl (m : Int)), (2, .inl kk), (3, .inl t), (4, .inl way), (5, .inl is)] [] (am_mm D (am_up (am_up I 118 m (I 107 20)) 107 22 0) J ρ) _
          refine am_e_ss 4 (q := (98, [(6, .inl ((sp_cho (I 108) (sp_set VL m p) way))), (0, .inr (.inr (.inl (some 107)))), (1, .inl (m : Int)), (2, .inl kk), (3, .inl t), (4, .inl way), (5, .inl is)], [.inl (-5), .inl ((I 107 23)), .inr (.inr (.inl (some 107)))], (am_mm D (am_up (am_up I 118 m (I 107 20)) 107 22 0) J ρ))) rfl ?_
          refine am_e_icmp2 rfl ⟨by omega, by omega⟩ ⟨by omega, by omega⟩ (fun (h10 : (I 107 23) = (-5)) => ?_) (fun (h10 : ¬ ((I 107 23) = (-5))) => ?_)
          · show am_E _ _ _ 105 [(6, .inl ((sp_cho (I 108) (sp_set VL m p) way))), (0, .inr (.inr (.inl (some 107)))), (1, .inl (m : Int)), (2, .inl kk), (3, .inl t), (4, .inl way), (5, .inl is)] [.inr (.inr (.inl (some 107)))] (am_mm D (am_up (am_up I 118 m (I 107 20)) 107 22 0) J ρ) _
            refine am_e_ss 2 (q := (109, [(6, .inl ((sp_cho (I 108) (sp_set VL m p) way))), (0, .inr (.inr (.inl (some 107)))), (1, .inl (m : Int)), (2, .inl kk), (3, .inl t), (4, .inl way), (5, .inl is)], [], (am_mm D (am_up (am_up (am_up I 118 m (I 107 20)) 107 22 0) 107 21 0) J ρ))) rfl ?_
            refine am_e_return rfl rfl ?_
            have es : (sp_pl2 (I 108) 0 p).foldl (sp_t1 (sp_fo (I 108) VL m way) (sp_lkm (I 108) m) is) (a, -5) = ((if a = 0 ∧ (sp_cho (I 108) (sp_set VL m p) way) = is then 0 else 1), (if sp_like (I 108) (m : Int) is < sp_like (I 108) (m : Int) (sp_cho (I 108) (sp_set VL m p) way) then (sp_cho (I 108) (sp_set VL m p) way) else -5)) := rfl
            rw [es]
            refine ⟨_, am_r_wp tT (am_k_up rfl (am_k_up rfl (am_k_up rfl (am_k_id)))), ⟨?_, ?_⟩, ?_, fun i _ => rfl, fun i _ => rfl, fun j hj => (show am_up I 118 m (I 107 20) 118 j = I 118 j from am_up_ne2 (by omega))⟩
            · show 0 = (if a = 0 ∧ (sp_cho (I 108) (sp_set VL m p) way) = is then 0 else 1)
              split <;> omega
            · show (I 107 23) = (if sp_like (I 108) (m : Int) is < sp_like (I 108) (m : Int) (sp_cho (I 108) (sp_set VL m p) way) then (sp_cho (I 108) (sp_set VL m p) way) else -5)
              split <;> omega
            · show 0 = (if (if sp_like (I 108) (m : Int) is < sp_like (I 108) (m : Int) (sp_cho (I 108) (sp_set VL m p) way) then (sp_cho (I 108) (sp_set VL m p) way) else -5) = -5 then 0 else 1)
              (repeat' split) <;> omega
          · show am_E _ _ _ 101 [(6, .inl ((sp_cho (I 108) (sp_set VL m p) way))), (0, .inr (.inr (.inl (some 107)))), (1, .inl (m : Int)), (2, .inl kk), (3, .inl t), (4, .inl way), (5, .inl is)] [.inr (.inr (.inl (some 107)))] (am_mm D (am_up (am_up I 118 m (I 107 20)) 107 22 0) J ρ) _
            refine am_e_ss 3 (q := (109, [(6, .inl ((sp_cho (I 108) (sp_set VL m p) way))), (0, .inr (.inr (.inl (some 107)))), (1, .inl (m : Int)), (2, .inl kk), (3, .inl t), (4, .inl way), (5, .inl is)], [], (am_mm D (am_up (am_up (am_up I 118 m (I 107 20)) 107 22 0) 107 21 1) J ρ))) rfl ?_
            refine am_e_return rfl rfl ?_
            have es : (sp_pl2 (I 108) 0 p).foldl (sp_t1 (sp_fo (I 108) VL m way) (sp_lkm (I 108) m) is) (a, -5) = ((if a = 0 ∧ (sp_cho (I 108) (sp_set VL m p) way) = is then 0 else 1), (if sp_like (I 108) (m : Int) is < sp_like (I 108) (m : Int) (sp_cho (I 108) (sp_set VL m p) way) then (sp_cho (I 108) (sp_set VL m p) way) else -5)) := rfl
            rw [es]
            refine ⟨_, am_r_wp tT (am_k_up rfl (am_k_up rfl (am_k_up rfl (am_k_id)))), ⟨?_, ?_⟩, ?_, fun i _ => rfl, fun i _ => rfl, fun j hj => (show am_up I 118 m (I 107 20) 118 j = I 118 j from am_up_ne2 (by omega))⟩
            · show 0 = (if a = 0 ∧ (sp_cho (I 108) (sp_set VL m p) way) = is then 0 else 1)
              split <;> omega
            · show (I 107 23) = (if sp_like (I 108) (m : Int) is < sp_like (I 108) (m : Int) (sp_cho (I 108) (sp_set VL m p) way) then (sp_cho (I 108) (sp_set VL m p) way) else -5)
              split <;> omega
            · show 1 = (if (if sp_like (I 108) (m : Int) is < sp_like (I 108) (m : Int) (sp_cho (I 108) (sp_set VL m p) way) then (sp_cho (I 108) (sp_set VL m p) way) else -5) = -5 then 0 else 1)
              (repeat' split) <;> omega
        · show am_E _ _ _ 58 [(6, .inl ((sp_cho (I 108) (sp_set VL m p) way))), (0, .inr (.inr (.inl (some 107)))), (1, .inl (m : Int)), (2, .inl kk), (3, .inl t), (4, .inl way), (5, .inl is)] [] (am_mm D (am_up (am_up I 118 m (I 107 20)) 107 22 0) J ρ) _
          refine am_e_ss 7 (q := (69, [(6, .inl ((sp_cho (I 108) (sp_set VL m p) way))), (0, .inr (.inr (.inl (some 107)))), (1, .inl (m : Int)), (2, .inl kk), (3, .inl t), (4, .inl way), (5, .inl is)], [.inl ((6 * (m : Int)) + (sp_cho (I 108) (sp_set VL m p) way)), .inr (.inr (.inl (some 113)))], (am_mm D (am_up (am_up I 118 m (I 107 20)) 107 22 0) J ρ))) rfl ?_
          refine am_e_iaload (m := 36) rfl rfl (by omega) (by omega) (by omega) ?_
          show am_E _ _ _ 70 [(6, .inl ((sp_cho (I 108) (sp_set VL m p) way))), (0, .inr (.inr (.inl (some 107)))), (1, .inl (m : Int)), (2, .inl kk), (3, .inl t), (4, .inl way), (5, .inl is)] [.inl ((I 113 (((6 * (m : Int)) + (sp_cho (I 108) (sp_set VL m p) way))).toNat))] (am_mm D (am_up (am_up I 118 m (I 107 20)) 107 22 0) J ρ) _
          refine am_e_ss 7 (q := (81, [(6, .inl ((sp_cho (I 108) (sp_set VL m p) way))), (0, .inr (.inr (.inl (some 107)))), (1, .inl (m : Int)), (2, .inl kk), (3, .inl t), (4, .inl way), (5, .inl is)], [.inl ((6 * (m : Int)) + is), .inr (.inr (.inl (some 113))), .inl ((I 113 (((6 * (m : Int)) + (sp_cho (I 108) (sp_set VL m p) way))).toNat))], (am_mm D (am_up (am_up I 118 m (I 107 20)) 107 22 0) J ρ))) rfl ?_
          refine am_e_iaload (m := 36) rfl rfl (by omega) (by omega) (by omega) ?_
          show am_E _ _ _ 82 [(6, .inl ((sp_cho (I 108) (sp_set VL m p) way))), (0, .inr (.inr (.inl (some 107)))), (1, .inl (m : Int)), (2, .inl kk), (3, .inl t), (4, .inl way), (5, .inl is)] [.inl ((I 113 (((6 * (m : Int)) + is)).toNat)), .inl ((I 113 (((6 * (m : Int)) + (sp_cho (I 108) (sp_set VL m p) way))).toNat))] (am_mm D (am_up (am_up I 118 m (I 107 20)) 107 22 0) J ρ) _
          refine am_e_icmp2 rfl ⟨by omega, by omega⟩ ⟨by omega, by omega⟩ (fun (h11 : (I 113 (((6 * (m : Int)) + (sp_cho (I 108) (sp_set VL m p) way))).toNat) ≤ (I 113 (((6 * (m : Int)) + is)).toNat)) => ?_) (fun (h11 : ¬ ((I 113 (((6 * (m : Int)) + (sp_cho (I 108) (sp_set VL m p) way))).toNat) ≤ (I 113 (((6 * (m : Int)) + is)).toNat))) => ?_)
          · show am_E _ _ _ 91 [(6, .inl ((sp_cho (I 108) (sp_set VL m p) way))), (0, .inr (.inr (.inl (some 107)))), (1, .inl (m : Int)), (2, .inl kk), (3, .inl t), (4, .inl way), (5, .inl is)] [] (am_mm D (am_up (am_up I 118 m (I 107 20)) 107 22 0) J ρ) _
            refine am_e_ss 4 (q := (98, [(6, .inl ((sp_cho (I 108) (sp_set VL m p) way))), (0, .inr (.inr (.inl (some 107)))), (1, .inl (m : Int)), (2, .inl kk), (3, .inl t), (4, .inl way), (5, .inl is)], [.inl (-5), .inl ((I 107 23)), .inr (.inr (.inl (some 107)))], (am_mm D (am_up (am_up I 118 m (I 107 20)) 107 22 0) J ρ))) rfl ?_
            refine am_e_icmp2 rfl ⟨by omega, by omega⟩ ⟨by omega, by omega⟩ (fun (h12 : (I 107 23) = (-5)) => ?_) (fun (h12 : ¬ ((I 107 23) = (-5))) => ?_)
            · show am_E _ _ _ 105 [(6, .inl ((sp_cho (I 108) (sp_set VL m p) way))), (0, .inr (.inr (.inl (some 107)))), (1, .inl (m : Int)), (2, .inl kk), (3, .inl t), (4, .inl way), (5, .inl is)] [.inr (.inr (.inl (some 107)))] (am_mm D (am_up (am_up I 118 m (I 107 20)) 107 22 0) J ρ) _
              refine am_e_ss 2 (q := (109, [(6, .inl ((sp_cho (I 108) (sp_set VL m p) way))), (0, .inr (.inr (.inl (some 107)))), (1, .inl (m : Int)), (2, .inl kk), (3, .inl t), (4, .inl way), (5, .inl is)], [], (am_mm D (am_up (am_up (am_up I 118 m (I 107 20)) 107 22 0) 107 21 0) J ρ))) rfl ?_
              refine am_e_return rfl rfl ?_
              have es : (sp_pl2 (I 108) 0 p).foldl (sp_t1 (sp_fo (I 108) VL m way) (sp_lkm (I 108) m) is) (a, -5) = ((if a = 0 ∧ (sp_cho (I 108) (sp_set VL m p) way) = is then 0 else 1), (if sp_like (I 108) (m : Int) is < sp_like (I 108) (m : Int) (sp_cho (I 108) (sp_set VL m p) way) then (sp_cho (I 108) (sp_set VL m p) way) else -5)) := rfl
              rw [es]
              refine ⟨_, am_r_wp tT (am_k_up rfl (am_k_up rfl (am_k_up rfl (am_k_id)))), ⟨?_, ?_⟩, ?_, fun i _ => rfl, fun i _ => rfl, fun j hj => (show am_up I 118 m (I 107 20) 118 j = I 118 j from am_up_ne2 (by omega))⟩
              · show 0 = (if a = 0 ∧ (sp_cho (I 108) (sp_set VL m p) way) = is then 0 else 1)
                split <;> omega
              · show (I 107 23) = (if sp_like (I 108) (m : Int) is < sp_like (I 108) (m : Int) (sp_cho (I 108) (sp_set VL m p) way) then (sp_cho (I 108) (sp_set VL m p) way) else -5)
                split <;> omega
              · show 0 = (if (if sp_like (I 108) (m : Int) is < sp_like (I 108) (m : Int) (sp_cho (I 108) (sp_set VL m p) way) then (sp_cho (I 108) (sp_set VL m p) way) else -5) = -5 then 0 else 1)
                (repeat' split) <;> omega
            · show am_E _ _ _ 101 [(6, .inl ((sp_cho (I 108) (sp_set VL m p) way))), (0, .inr (.inr (.inl (some 107)))), (1, .inl (m : Int)), (2, .inl kk), (3, .inl t), (4, .inl way), (5, .inl is)] [.inr (.inr (.inl (some 107)))] (am_mm D (am_up (am_up I 118 m (I 107 20)) 107 22 0) J ρ) _
              refine am_e_ss 3 (q := (109, [(6, .inl ((sp_cho (I 108) (sp_set VL m p) way))), (0, .inr (.inr (.inl (some 107)))), (1, .inl (m : Int)), (2, .inl kk), (3, .inl t), (4, .inl way), (5, .inl is)], [], (am_mm D (am_up (am_up (am_up I 118 m (I 107 20)) 107 22 0) 107 21 1) J ρ))) rfl ?_
              refine am_e_return rfl rfl ?_
              have es : (sp_pl2 (I 108) 0 p).foldl (sp_t1 (sp_fo (I 108) VL m way) (sp_lkm (I 108) m) is) (a, -5) = ((if a = 0 ∧ (sp_cho (I 108) (sp_set VL m p) way) = is then 0 else 1), (if sp_like (I 108) (m : Int) is < sp_like (I 108) (m : Int) (sp_cho (I 108) (sp_set VL m p) way) then (sp_cho (I 108) (sp_set VL m p) way) else -5)) := rfl
              rw [es]
              refine ⟨_, am_r_wp tT (am_k_up rfl (am_k_up rfl (am_k_up rfl (am_k_id)))), ⟨?_, ?_⟩, ?_, fun i _ => rfl, fun i _ => rfl, fun j hj => (show am_up I 118 m (I 107 20) 118 j = I 118 j from am_up_ne2 (by omega))⟩
              · show 0 = (if a = 0 ∧ (sp_cho (I 108) (sp_set VL m p) way) = is then 0 else 1)
                split <;> omega
              · show (I 107 23) = (if sp_like (I 108) (m : Int) is < sp_like (I 108) (m : Int) (sp_cho (I 108) (sp_set VL m p) way) then (sp_cho (I 108) (sp_set VL m p) way) else -5)
                split <;> omega
              · show 1 = (if (if sp_like (I 108) (m : Int) is < sp_like (I 108) (m : Int) (sp_cho (I 108) (sp_set VL m p) way) then (sp_cho (I 108) (sp_set VL m p) way) else -5) = -5 then 0 else 1)
                (repeat' split) <;> omega
          · show am_E _ _ _ 85 [(6, .inl ((sp_cho (I 108) (sp_set VL m p) way))), (0, .inr (.inr (.inl (some 107)))), (1, .inl (m : Int)), (2, .inl kk), (3, .inl t), (4, .inl way), (5, .inl is)] [] (am_mm D (am_up (am_up I 118 m (I 107 20)) 107 22 0) J ρ) _
            refine am_e_ss 7 (q := (98, [(6, .inl ((sp_cho (I 108) (sp_set VL m p) way))), (0, .inr (.inr (.inl (some 107)))), (1, .inl (m : Int)), (2, .inl kk), (3, .inl t), (4, .inl way), (5, .inl is)], [.inl (-5), .inl ((sp_cho (I 108) (sp_set VL m p) way)), .inr (.inr (.inl (some 107)))], (am_mm D (am_up (am_up (am_up I 118 m (I 107 20)) 107 22 0) 107 23 (sp_cho (I 108) (sp_set VL m p) way)) J ρ))) rfl ?_
            refine am_e_icmp2 rfl ⟨by omega, by omega⟩ ⟨by omega, by omega⟩ (fun (h13 : (sp_cho (I 108) (sp_set VL m p) way) = (-5)) => ?_) (fun (h13 : ¬ ((sp_cho (I 108) (sp_set VL m p) way) = (-5))) => ?_)
            · show am_E _ _ _ 105 [(6, .inl ((sp_cho (I 108) (sp_set VL m p) way))), (0, .inr (.inr (.inl (some 107)))), (1, .inl (m : Int)), (2, .inl kk), (3, .inl t), (4, .inl way), (5, .inl is)] [.inr (.inr (.inl (some 107)))] (am_mm D (am_up (am_up (am_up I 118 m (I 107 20)) 107 22 0) 107 23 (sp_cho (I 108) (sp_set VL m p) way)) J ρ) _
              refine am_e_ss 2 (q := (109, [(6, .inl ((sp_cho (I 108) (sp_set VL m p) way))), (0, .inr (.inr (.inl (some 107)))), (1, .inl (m : Int)), (2, .inl kk), (3, .inl t), (4, .inl way), (5, .inl is)], [], (am_mm D (am_up (am_up (am_up (am_up I 118 m (I 107 20)) 107 22 0) 107 23 (sp_cho (I 108) (sp_set VL m p) way)) 107 21 0) J ρ))) rfl ?_
              refine am_e_return rfl rfl ?_
              have es : (sp_pl2 (I 108) 0 p).foldl (sp_t1 (sp_fo (I 108) VL m way) (sp_lkm (I 108) m) is) (a, -5) = ((if a = 0 ∧ (sp_cho (I 108) (sp_set VL m p) way) = is then 0 else 1), (if sp_like (I 108) (m : Int) is < sp_like (I 108) (m : Int) (sp_cho (I 108) (sp_set VL m p) way) then (sp_cho (I 108) (sp_set VL m p) way) else -5)) := rfl
              rw [es]
              refine ⟨_, am_r_wp tT (am_k_up rfl (am_k_up rfl (am_k_up rfl (am_k_up rfl (am_k_id))))), ⟨?_, ?_⟩, ?_, fun i _ => rfl, fun i _ => rfl, fun j hj => (show am_up I 118 m (I 107 20) 118 j = I 118 j from am_up_ne2 (by omega))⟩
              · show 0 = (if a = 0 ∧ (sp_cho (I 108) (sp_set VL m p) way) = is then 0 else 1)
                split <;> omega
              · show (sp_cho (I 108) (sp_set VL m p) way) = (if sp_like (I 108) (m : Int) is < sp_like (I 108) (m : Int) (sp_cho (I 108) (sp_set VL m p) way) then (sp_cho (I 108) (sp_set VL m p) way) else -5)
                split <;> omega
              · show 0 = (if (if sp_like (I 108) (m : Int) is < sp_like (I 108) (m : Int) (sp_cho (I 108) (sp_set VL m p) way) then (sp_cho (I 108) (sp_set VL m p) way) else -5) = -5 then 0 else 1)
                (repeat' split) <;> omega
            · show am_E _ _ _ 101 [(6, .inl ((sp_cho (I 108) (sp_set VL m p) way))), (0, .inr (.inr (.inl (some 107)))), (1, .inl (m : Int)), (2, .inl kk), (3, .inl t), (4, .inl way), (5, .inl is)] [.inr (.inr (.inl (some 107)))] (am_mm D (am_up (am_up (am_up I 118 m (I 107 20)) 107 22 0) 107 23 (sp_cho (I 108) (sp_set VL m p) way)) J ρ) _
              refine am_e_ss 3 (q := (109, [(6, .inl ((sp_cho (I 108) (sp_set VL m p) way))), (0, .inr (.inr (.inl (some 107)))), (1, .inl (m : Int)), (2, .inl kk), (3, .inl t), (4, .inl way), (5, .inl is)], [], (am_mm D (am_up (am_up (am_up (am_up I 118 m (I 107 20)) 107 22 0) 107 23 (sp_cho (I 108) (sp_set VL m p) way)) 107 21 1) J ρ))) rfl ?_
              refine am_e_return rfl rfl ?_
              have es : (sp_pl2 (I 108) 0 p).foldl (sp_t1 (sp_fo (I 108) VL m way) (sp_lkm (I 108) m) is) (a, -5) = ((if a = 0 ∧ (sp_cho (I 108) (sp_set VL m p) way) = is then 0 else 1), (if sp_like (I 108) (m : Int) is < sp_like (I 108) (m : Int) (sp_cho (I 108) (sp_set VL m p) way) then (sp_cho (I 108) (sp_set VL m p) way) else -5)) := rfl
              rw [es]
              refine ⟨_, am_r_wp tT (am_k_up rfl (am_k_up rfl (am_k_up rfl (am_k_up rfl (am_k_id))))), ⟨?_, ?_⟩, ?_, fun i _ => rfl, fun i _ => rfl, fun j hj => (show am_up I 118 m (I 107 20) 118 j = I 118 j from am_up_ne2 (by omega))⟩
              · show 0 = (if a = 0 ∧ (sp_cho (I 108) (sp_set VL m p) way) = is then 0 else 1)
                split <;> omega
              · show (sp_cho (I 108) (sp_set VL m p) way) = (if sp_like (I 108) (m : Int) is < sp_like (I 108) (m : Int) (sp_cho (I 108) (sp_set VL m p) way) then (sp_cho (I 108) (sp_set VL m p) way) else -5)
                split <;> omega
              · show 1 = (if (if sp_like (I 108) (m : Int) is < sp_like (I 108) (m : Int) (sp_cho (I 108) (sp_set VL m p) way) then (sp_cho (I 108) (sp_set VL m p) way) else -5) = -5 then 0 else 1)
                (repeat' split) <;> omega
      · show am_E _ _ _ 41 [(6, .inl ((sp_cho (I 108) (sp_set VL m p) way))), (0, .inr (.inr (.inl (some 107)))), (1, .inl (m : Int)), (2, .inl kk), (3, .inl t), (4, .inl way), (5, .inl is)] [.inr (.inr (.inl (some 107)))] (am_mm D (am_up I 118 m (I 107 20)) J ρ) _
        refine am_e_ss 6 (q := (55, [(6, .inl ((sp_cho (I 108) (sp_set VL m p) way))), (0, .inr (.inr (.inl (some 107)))), (1, .inl (m : Int)), (2, .inl kk), (3, .inl t), (4, .inl way), (5, .inl is)], [.inl (-5), .inl ((I 107 23))], (am_mm D (am_up (am_up I 118 m (I 107 20)) 107 22 1) J ρ))) rfl ?_
        refine am_e_icmp2 rfl ⟨by omega, by omega⟩ ⟨by omega, by omega⟩ (fun (h14 : ¬ (I 107 23) = (-5)) => ?_) (fun (h14 : ¬ (¬ (I 107 23) = (-5))) => ?_)
        · show am_E _ _ _ 91 [(6, .inl ((sp_cho (I 108) (sp_set VL m p) way))), (0, .inr (.inr (.inl (some 107)))), (1, .inl (m : Int)), (2, .inl kk), (3, .inl t), (4, .inl way), (5, .inl is)] [] (am_mm D (am_up (am_up I 118 m (I 107 20)) 107 22 1) J ρ) _
          refine am_e_ss 4 (q := (98, [(6, .inl ((sp_cho (I 108) (sp_set VL m p) way))), (0, .inr (.inr (.inl (some 107)))), (1, .inl (m : Int)), (2, .inl kk), (3, .inl t), (4, .inl way), (5, .inl is)], [.inl (-5), .inl ((I 107 23)), .inr (.inr (.inl (some 107)))], (am_mm D (am_up (am_up I 118 m (I 107 20)) 107 22 1) J ρ))) rfl ?_
          refine am_e_icmp2 rfl ⟨by omega, by omega⟩ ⟨by omega, by omega⟩ (fun (h15 : (I 107 23) = (-5)) => ?_) (fun (h15 : ¬ ((I 107 23) = (-5))) => ?_)
          · show am_E _ _ _ 105 [(6, .inl ((sp_cho (I 108) (sp_set VL m p) way))), (0, .inr (.inr (.inl (some 107)))), (1, .inl (m : Int)), (2, .inl kk), (3, .inl t), (4, .inl way), (5, .inl is)] [.inr (.inr (.inl (some 107)))] (am_mm D (am_up (am_up I 118 m (I 107 20)) 107 22 1) J ρ) _
            refine am_e_ss 2 (q := (109, [(6, .inl ((sp_cho (I 108) (sp_set VL m p) way))), (0, .inr (.inr (.inl (some 107)))), (1, .inl (m : Int)), (2, .inl kk), (3, .inl t), (4, .inl way), (5, .inl is)], [], (am_mm D (am_up (am_up (am_up I 118 m (I 107 20)) 107 22 1) 107 21 0) J ρ))) rfl ?_
            refine am_e_return rfl rfl ?_
            have es : (sp_pl2 (I 108) 0 p).foldl (sp_t1 (sp_fo (I 108) VL m way) (sp_lkm (I 108) m) is) (a, -5) = ((if a = 0 ∧ (sp_cho (I 108) (sp_set VL m p) way) = is then 0 else 1), (if sp_like (I 108) (m : Int) is < sp_like (I 108) (m : Int) (sp_cho (I 108) (sp_set VL m p) way) then (sp_cho (I 108) (sp_set VL m p) way) else -5)) := rfl
            rw [es]
            refine ⟨_, am_r_wp tT (am_k_up rfl (am_k_up rfl (am_k_up rfl (am_k_id)))), ⟨?_, ?_⟩, ?_, fun i _ => rfl, fun i _ => rfl, fun j hj => (show am_up I 118 m (I 107 20) 118 j = I 118 j from am_up_ne2 (by omega))⟩
            · show 1 = (if a = 0 ∧ (sp_cho (I 108) (sp_set VL m p) way) = is then 0 else 1)
              split <;> omega
            · show (I 107 23) = (if sp_like (I 108) (m : Int) is < sp_like (I 108) (m : Int) (sp_cho (I 108) (sp_set VL m p) way) then (sp_cho (I 108) (sp_set VL m p) way) else -5)
              split <;> omega
            · show 0 = (if (if sp_like (I 108) (m : Int) is < sp_like (I 108) (m : Int) (sp_cho (I 108) (sp_set VL m p) way) then (sp_cho (I 108) (sp_set VL m p) way) else -5) = -5 then 0 else 1)
              (repeat' split) <;> omega
          · show am_E _ _ _ 101 [(6, .inl ((sp_cho (I 108) (sp_set VL m p) way))), (0, .inr (.inr (.inl (some 107)))), (1, .inl (m : Int)), (2, .inl kk), (3, .inl t), (4, .inl way), (5, .inl is)] [.inr (.inr (.inl (some 107)))] (am_mm D (am_up (am_up I 118 m (I 107 20)) 107 22 1) J ρ) _
            refine am_e_ss 3 (q := (109, [(6, .inl ((sp_cho (I 108) (sp_set VL m p) way))), (0, .inr (.inr (.inl (some 107)))), (1, .inl (m : Int)), (2, .inl kk), (3, .inl t), (4, .inl way), (5, .inl is)], [], (am_mm D (am_up (am_up (am_up I 118 m (I 107 20)) 107 22 1) 107 21 1) J ρ))) rfl ?_
            refine am_e_return rfl rfl ?_
            have es : (sp_pl2 (I 108) 0 p).foldl (sp_t1 (sp_fo (I 108) VL m way) (sp_lkm (I 108) m) is) (a, -5) = ((if a = 0 ∧ (sp_cho (I 108) (sp_set VL m p) way) = is then 0 else 1), (if sp_like (I 108) (m : Int) is < sp_like (I 108) (m : Int) (sp_cho (I 108) (sp_set VL m p) way) then (sp_cho (I 108) (sp_set VL m p) way) else -5)) := rfl
            rw [es]
            refine ⟨_, am_r_wp tT (am_k_up rfl (am_k_up rfl (am_k_up rfl (am_k_id)))), ⟨?_, ?_⟩, ?_, fun i _ => rfl, fun i _ => rfl, fun j hj => (show am_up I 118 m (I 107 20) 118 j = I 118 j from am_up_ne2 (by omega))⟩
            · show 1 = (if a = 0 ∧ (sp_cho (I 108) (sp_set VL m p) way) = is then 0 else 1)
              split <;> omega
            · show (I 107 23) = (if sp_like (I 108) (m : Int) is < sp_like (I 108) (m : Int) (sp_cho (I 108) (sp_set VL m p) way) then (sp_cho (I 108) (sp_set VL m p) way) else -5)
              split <;> omega
            · show 1 = (if (if sp_like (I 108) (m : Int) is < sp_like (I 108) (m : Int) (sp_cho (I 108) (sp_set VL m p) way) then (sp_cho (I 108) (sp_set VL m p) way) else -5) = -5 then 0 else 1)
              (repeat' split) <;> omega
        · show am_E _ _ _ 58 [(6, .inl ((sp_cho (I 108) (sp_set VL m p) way))), (0, .inr (.inr (.inl (some 107)))), (1, .inl (m : Int)), (2, .inl kk), (3, .inl t), (4, .inl way), (5, .inl is)] [] (am_mm D (am_up (am_up I 118 m (I 107 20)) 107 22 1) J ρ) _
          refine am_e_ss 7 (q := (69, [(6, .inl ((sp_cho (I 108) (sp_set VL m p) way))), (0, .inr (.inr (.inl (some 107)))), (1, .inl (m : Int)), (2, .inl kk), (3, .inl t), (4, .inl way), (5, .inl is)], [.inl ((6 * (m : Int)) + (sp_cho (I 108) (sp_set VL m p) way)), .inr (.inr (.inl (some 113)))], (am_mm D (am_up (am_up I 118 m (I 107 20)) 107 22 1) J ρ))) rfl ?_
          refine am_e_iaload (m := 36) rfl rfl (by omega) (by omega) (by omega) ?_
          show am_E _ _ _ 70 [(6, .inl ((sp_cho (I 108) (sp_set VL m p) way))), (0, .inr (.inr (.inl (some 107)))), (1, .inl (m : Int)), (2, .inl kk), (3, .inl t), (4, .inl way), (5, .inl is)] [.inl ((I 113 (((6 * (m : Int)) + (sp_cho (I 108) (sp_set VL m p) way))).toNat))] (am_mm D (am_up (am_up I 118 m (I 107 20)) 107 22 1) J ρ) _
          refine am_e_ss 7 (q := (81, [(6, .inl ((sp_cho (I 108) (sp_set VL m p) way))), (0, .inr (.inr (.inl (some 107)))), (1, .inl (m : Int)), (2, .inl kk), (3, .inl t), (4, .inl way), (5, .inl is)], [.inl ((6 * (m : Int)) + is), .inr (.inr (.inl (some 113))), .inl ((I 113 (((6 * (m : Int)) + (sp_cho (I 108) (sp_set VL m p) way))).toNat))], (am_mm D (am_up (am_up I 118 m (I 107 20)) 107 22 1) J ρ))) rfl ?_
          refine am_e_iaload (m := 36) rfl rfl (by omega) (by omega) (by omega) ?_
          show am_E _ _ _ 82 [(6, .inl ((sp_cho (I 108) (sp_set VL m p) way))), (0, .inr (.inr (.inl (some 107)))), (1, .inl (m : Int)), (2, .inl kk), (3, .inl t), (4, .inl way), (5, .inl is)] [.inl ((I 113 (((6 * (m : Int)) + is)).toNat)), .inl ((I 113 (((6 * (m : Int)) + (sp_cho (I 108) (sp_set VL m p) way))).toNat))] (am_mm D (am_up (am_up I 118 m (I 107 20)) 107 22 1) J ρ) _
          refine am_e_icmp2 rfl ⟨by omega, by omega⟩ ⟨by omega, by omega⟩ (fun (h16 : (I 113 (((6 * (m : Int)) + (sp_cho (I 108) (sp_set VL m p) way))).toNat) ≤ (I 113 (((6 * (m : Int)) + is)).toNat)) => ?_) (fun (h16 : ¬ ((I 113 (((6 * (m : Int)) + (sp_cho (I 108) (sp_set VL m p) way))).toNat) ≤ (I 113 (((6 * (m : Int)) + is)).toNat))) => ?_)
          · show am_E _ _ _ 91 [(6, .inl ((sp_cho (I 108) (sp_set VL m p) way))), (0, .inr (.inr (.inl (some 107)))), (1, .inl (m : Int)), (2, .inl kk), (3, .inl t), (4, .inl way), (5, .inl is)] [] (am_mm D (am_up (am_up I 118 m (I 107 20)) 107 22 1) J ρ) _
            refine am_e_ss 4 (q := (98, [(6, .inl ((sp_cho (I 108) (sp_set VL m p) way))), (0, .inr (.inr (.inl (some 107)))), (1, .inl (m : Int)), (2, .inl kk), (3, .inl t), (4, .inl way), (5, .inl is)], [.inl (-5), .inl ((I 107 23)), .inr (.inr (.inl (some 107)))], (am_mm D (am_up (am_up I 118 m (I 107 20)) 107 22 1) J ρ))) rfl ?_
            refine am_e_icmp2 rfl ⟨by omega, by omega⟩ ⟨by omega, by omega⟩ (fun (h17 : (I 107 23) = (-5)) => ?_) (fun (h17 : ¬ ((I 107 23) = (-5))) => ?_)
            · show am_E _ _ _ 105 [(6, .inl ((sp_cho (I 108) (sp_set VL m p) way))), (0, .inr (.inr (.inl (some 107)))), (1, .inl (m : Int)), (2, .inl kk), (3, .inl t), (4, .inl way), (5, .inl is)] [.inr (.inr (.inl (some 107)))] (am_mm D (am_up (am_up I 118 m (I 107 20)) 107 22 1) J ρ) _
              refine am_e_ss 2 (q := (109, [(6, .inl ((sp_cho (I 108) (sp_set VL m p) way))), (0, .inr (.inr (.inl (some 107)))), (1, .inl (m : Int)), (2, .inl kk), (3, .inl t), (4, .inl way), (5, .inl is)], [], (am_mm D (am_up (am_up (am_up I 118 m (I 107 20)) 107 22 1) 107 21 0) J ρ))) rfl ?_
              refine am_e_return rfl rfl ?_
              have es : (sp_pl2 (I 108) 0 p).foldl (sp_t1 (sp_fo (I 108) VL m way) (sp_lkm (I 108) m) is) (a, -5) = ((if a = 0 ∧ (sp_cho (I 108) (sp_set VL m p) way) = is then 0 else 1), (if sp_like (I 108) (m : Int) is < sp_like (I 108) (m : Int) (sp_cho (I 108) (sp_set VL m p) way) then (sp_cho (I 108) (sp_set VL m p) way) else -5)) := rfl
              rw [es]
              refine ⟨_, am_r_wp tT (am_k_up rfl (am_k_up rfl (am_k_up rfl (am_k_id)))), ⟨?_, ?_⟩, ?_, fun i _ => rfl, fun i _ => rfl, fun j hj => (show am_up I 118 m (I 107 20) 118 j = I 118 j from am_up_ne2 (by omega))⟩
              · show 1 = (if a = 0 ∧ (sp_cho (I 108) (sp_set VL m p) way) = is then 0 else 1)
                split <;> omega
              · show (I 107 23) = (if sp_like (I 108) (m : Int) is < sp_like (I 108) (m : Int) (sp_cho (I 108) (sp_set VL m p) way) then (sp_cho (I 108) (sp_set VL m p) way) else -5)
                split <;> omega
              · show 0 = (if (if sp_like (I 108) (m : Int) is < sp_like (I 108) (m : Int) (sp_cho (I 108) (sp_set VL m p) way) then (sp_cho (I 108) (sp_set VL m p) way) else -5) = -5 then 0 else 1)
                (repeat' split) <;> omega
            · show am_E _ _ _ 101 [(6, .inl ((sp_cho (I 108) (sp_set VL m p) way))), (0, .inr (.inr (.inl (some 107)))), (1, .inl (m : Int)), (2, .inl kk), (3, .inl t), (4, .inl way), (5, .inl is)] [.inr (.inr (.inl (some 107)))] (am_mm D (am_up (am_up I 118 m (I 107 20)) 107 22 1) J ρ) _
              refine am_e_ss 3 (q := (109, [(6, .inl ((sp_cho (I 108) (sp_set VL m p) way))), (0, .inr (.inr (.inl (some 107)))), (1, .inl (m : Int)), (2, .inl kk), (3, .inl t), (4, .inl way), (5, .inl is)], [], (am_mm D (am_up (am_up (am_up I 118 m (I 107 20)) 107 22 1) 107 21 1) J ρ))) rfl ?_
              refine am_e_return rfl rfl ?_
              have es : (sp_pl2 (I 108) 0 p).foldl (sp_t1 (sp_fo (I 108) VL m way) (sp_lkm (I 108) m) is) (a, -5) = ((if a = 0 ∧ (sp_cho (I 108) (sp_set VL m p) way) = is then 0 else 1), (if sp_like (I 108) (m : Int) is < sp_like (I 108) (m : Int) (sp_cho (I 108) (sp_set VL m p) way) then (sp_cho (I 108) (sp_set VL m p) way) else -5)) := rfl
              rw [es]
              refine ⟨_, am_r_wp tT (am_k_up rfl (am_k_up rfl (am_k_up rfl (am_k_id)))), ⟨?_, ?_⟩, ?_, fun i _ => rfl, fun i _ => rfl, fun j hj => (show am_up I 118 m (I 107 20) 118 j = I 118 j from am_up_ne2 (by omega))⟩
              · show 1 = (if a = 0 ∧ (sp_cho (I 108) (sp_set VL m p) way) = is then 0 else 1)
                split <;> omega
              · show (I 107 23) = (if sp_like (I 108) (m : Int) is < sp_like (I 108) (m : Int) (sp_cho (I 108) (sp_set VL m p) way) then (sp_cho (I 108) (sp_set VL m p) way) else -5)
                split <;> omega
              · show 1 = (if (if sp_like (I 108) (m : Int) is < sp_like (I 108) (m : Int) (sp_cho (I 108) (sp_set VL m p) way) then (sp_cho (I 108) (sp_set VL m p) way) else -5) = -5 then 0 else 1)
                (repeat' split) <;> omega
          · show am_E _ _ _ 85 [(6, .inl ((sp_cho (I 108) (sp_set VL m p) way))), (0, .inr (.inr (.inl (some 107)))), (1, .inl (m : Int)), (2, .inl kk), (3, .inl t), (4, .inl way), (5, .inl is)] [] (am_mm D (am_up (am_up I 118 m (I 107 20)) 107 22 1) J ρ) _
            refine am_e_ss 7 (q := (98, [(6, .inl ((sp_cho (I 108) (sp_set VL m p) way))), (0, .inr (.inr (.inl (some 107)))), (1, .inl (m : Int)), (2, .inl kk), (3, .inl t), (4, .inl way), (5, .inl is)], [.inl (-5), .inl ((sp_cho (I 108) (sp_set VL m p) way)), .inr (.inr (.inl (some 107)))], (am_mm D (am_up (am_up (am_up I 118 m (I 107 20)) 107 22 1) 107 23 (sp_cho (I 108) (sp_set VL m p) way)) J ρ))) rfl ?_
            refine am_e_icmp2 rfl ⟨by omega, by omega⟩ ⟨by omega, by omega⟩ (fun (h18 : (sp_cho (I 108) (sp_set VL m p) way) = (-5)) => ?_) (fun (h18 : ¬ ((sp_cho (I 108) (sp_set VL m p) way) = (-5))) => ?_)
            · show am_E _ _ _ 105 [(6, .inl ((sp_cho (I 108) (sp_set VL m p) way))), (0, .inr (.inr (.inl (some 107)))), (1, .inl (m : Int)), (2, .inl kk), (3, .inl t), (4, .inl way), (5, .inl is)] [.inr (.inr (.inl (some 107)))] (am_mm D (am_up (am_up (am_up I 118 m (I 107 20)) 107 22 1) 107 23 (sp_cho (I 108) (sp_set VL m p) way)) J ρ) _
              refine am_e_ss 2 (q := (109, [(6, .inl ((sp_cho (I 108) (sp_set VL m p) way))), (0, .inr (.inr (.inl (some 107)))), (1, .inl (m : Int)), (2, .inl kk), (3, .inl t), (4, .inl way), (5, .inl is)], [], (am_mm D (am_up (am_up (am_up (am_up I 118 m (I 107 20)) 107 22 1) 107 23 (sp_cho (I 108) (sp_set VL m p) way)) 107 21 0) J ρ))) rfl ?_
              refine am_e_return rfl rfl ?_
              have es : (sp_pl2 (I 108) 0 p).foldl (sp_t1 (sp_fo (I 108) VL m way) (sp_lkm (I 108) m) is) (a, -5) = ((if a = 0 ∧ (sp_cho (I 108) (sp_set VL m p) way) = is then 0 else 1), (if sp_like (I 108) (m : Int) is < sp_like (I 108) (m : Int) (sp_cho (I 108) (sp_set VL m p) way) then (sp_cho (I 108) (sp_set VL m p) way) else -5)) := rfl
              rw [es]
              refine ⟨_, am_r_wp tT (am_k_up rfl (am_k_up rfl (am_k_up rfl (am_k_up rfl (am_k_id))))), ⟨?_, ?_⟩, ?_, fun i _ => rfl, fun i _ => rfl, fun j hj => (show am_up I 118 m (I 107 20) 118 j = I 118 j from am_up_ne2 (by omega))⟩
              · show 1 = (if a = 0 ∧ (sp_cho (I 108) (sp_set VL m p) way) = is then 0 else 1)
                split <;> omega
              · show (sp_cho (I 108) (sp_set VL m p) way) = (if sp_like (I 108) (m : Int) is < sp_like (I 108) (m : Int) (sp_cho (I 108) (sp_set VL m p) way) then (sp_cho (I 108) (sp_set VL m p) way) else -5)
                split <;> omega
              · show 0 = (if (if sp_like (I 108) (m : Int) is < sp_like (I 108) (m : Int) (sp_cho (I 108) (sp_set VL m p) way) then (sp_cho (I 108) (sp_set VL m p) way) else -5) = -5 then 0 else 1)
                (repeat' split) <;> omega
            · show am_E _ _ _ 101 [(6, .inl ((sp_cho (I 108) (sp_set VL m p) way))), (0, .inr (.inr (.inl (some 107)))), (1, .inl (m : Int)), (2, .inl kk), (3, .inl t), (4, .inl way), (5, .inl is)] [.inr (.inr (.inl (some 107)))] (am_mm D (am_up (am_up (am_up I 118 m (I 107 20)) 107 22 1) 107 23 (sp_cho (I 108) (sp_set VL m p) way)) J ρ) _
              refine am_e_ss 3 (q := (109, [(6, .inl ((sp_cho (I 108) (sp_set VL m p) way))), (0, .inr (.inr (.inl (some 107)))), (1, .inl (m : Int)), (2, .inl kk), (3, .inl t), (4, .inl way), (5, .inl is)], [], (am_mm D (am_up (am_up (am_up (am_up I 118 m (I 107 20)) 107 22 1) 107 23 (sp_cho (I 108) (sp_set VL m p) way)) 107 21 1) J ρ))) rfl ?_
              refine am_e_return rfl rfl ?_
              have es : (sp_pl2 (I 108) 0 p).foldl (sp_t1 (sp_fo (I 108) VL m way) (sp_lkm (I 108) m) is) (a, -5) = ((if a = 0 ∧ (sp_cho (I 108) (sp_set VL m p) way) = is then 0 else 1), (if sp_like (I 108) (m : Int) is < sp_like (I 108) (m : Int) (sp_cho (I 108) (sp_set VL m p) way) then (sp_cho (I 108) (sp_set VL m p) way) else -5)) := rfl
              rw [es]
              refine ⟨_, am_r_wp tT (am_k_up rfl (am_k_up rfl (am_k_up rfl (am_k_up rfl (am_k_id))))), ⟨?_, ?_⟩, ?_, fun i _ => rfl, fun i _ => rfl, fun j hj => (show am_up I 118 m (I 107 20) 118 j = I 118 j from am_up_ne2 (by omega))⟩
              · show 1 = (if a = 0 ∧ (sp_cho (I 108) (sp_set VL m p) way) = is then 0 else 1)
                split <;> omega
              · show (sp_cho (I 108) (sp_set VL m p) way) = (if sp_like (I 108) (m : Int) is < sp_like (I 108) (m : Int) (sp_cho (I 108) (sp_set VL m p) way) then (sp_cho (I 108) (sp_set VL m p) way) else -5)
                split <;> omega
              · show 1 = (if (if sp_like (I 108) (m : Int) is < sp_like (I 108) (m : Int) (sp_cho (I 108) (sp_set VL m p) way) then (sp_cho (I 108) (sp_set VL m p) way) else -5) = -5 then 0 else 1)
                (repeat' split) <;> omega
theorem r_of_l {X : Nat × (Nat → Int)} {D : List (Nat × Nat)} {I J : Nat → Nat → Int} {ρ : Nat → Nat → Option Nat} (d : Nat) {B way is a t kk : Int} {m : Nat} {VL : Nat → List Nat} {p : List Nat} {n b : Nat} {s1 s2 : Int} {Q : Nat → Nat → Int} (ih : r_ofC X D J ρ (d + 5 + n) n) (hI : r_ofI I B way is a t kk m VL p (n + 1)) (hb : (b : Int) ≤ I 108 20) (hs : (s1, s2) = (((sp_lfk (I 108) p b).flatMap (fun x => sp_pl2 (I 108) n (p ++ [x]))).foldl (sp_t1 (sp_fo (I 108) VL m way) (sp_lkm (I 108) m) is) (a, -5))) (hs1 : s1 = Q 107 22) (hs01 : s1 = 0 ∨ s1 = 1) (hq : r_ofQ I Q m p (s1, s2)) : am_E X (d + 5 + n + 1) 180 113 [(6, .inl (b : Int)), (5, .inl is), (4, .inl way), (3, .inl t), (2, .inl kk), (1, .inl (m : Int)), (0, .inr (.inr (.inl (some 107))))] [] (am_mm D (am_wp tT I Q) J ρ) (fun r => ∃ Q, r = (none, am_mm D (am_wp tT I Q) J ρ) ∧ r_ofQ I Q m p ((sp_pl2 (I 108) (n + 1) p).foldl (sp_t1 (sp_fo (I 108) VL m way) (sp_lkm (I 108) m) is) (a, -5))) := by
  have hI0 := hI
  obtain ⟨⟨hok, hwf⟩, ⟨hm, hw, his, ha⟩, ⟨ht, hkk⟩, ⟨hops, hne⟩, hpb, ⟨hop, h21, h22, h23⟩, hO, hl, hvl0, hoth, hpr⟩ := hI
  have opb := sp_ops_b hok
  have hok2 := hok
  obtain ⟨o0, oG, oH, oD, o19, o20, o21, o22, o23, o24, oK, oV, oP, oM, oS, oY, oHd, oT, oC, oN⟩ := hok
  have hok := hok2
  obtain ⟨⟨z1, z2⟩, z3, z4, z5, z6⟩ := hq
  have hq : r_ofQ I Q m p (s1, s2) := ⟨⟨z1, z2⟩, z3, z4, z5, z6⟩
  have z2 : Q 107 23 = s2 := z2
  have z3 : Q 107 21 = (if s2 = -5 then 0 else 1) := z3
  have hI := hI0
  have z3b : (Q 107 21 = 0 ∧ s2 = -5) ∨ (Q 107 21 = 1 ∧ ¬ s2 = -5) := by rw [z3]; split <;> omega
  have hfb : ∀ q : List Nat, q.length ≤ 6 → True := fun _ _ => True.intro
  refine am_e_ss 5 (q := (122, [(6, .inl (b : Int)), (5, .inl is), (4, .inl way), (3, .inl t), (2, .inl kk), (1, .inl (m : Int)), (0, .inr (.inr (.inl (some 107))))], [.inl ((I 108 20)), .inl (b : Int)], (am_mm D (am_wp tT I Q) J ρ))) rfl ?_
  refine am_e_icmp2 rfl ⟨by omega, by omega⟩ ⟨by omega, by omega⟩ (fun (h1 : (I 108 20) ≤ (b : Int)) => ?_) (fun (h1 : ¬ ((I 108 20) ≤ (b : Int))) => ?_)
  · show am_E _ _ _ 187 [(6, .inl (b : Int)), (5, .inl is), (4, .inl way), (3, .inl t), (2, .inl kk), (1, .inl (m : Int)), (0, .inr (.inr (.inl (some 107))))] [] (am_mm D (am_wp tT I Q) J ρ) _
    refine am_e_return rfl rfl ?_
    have hfin : (s1, s2) = (sp_pl2 (I 108) (n + 1) p).foldl (sp_t1 (sp_fo (I 108) VL m way) (sp_lkm (I 108) m) is) (a, -5) := by
      show _ = ((sp_lft (I 108) p).flatMap (fun x => sp_pl2 (I 108) n (p ++ [x]))).foldl (sp_t1 (sp_fo (I 108) VL m way) (sp_lkm (I 108) m) is) (a, -5)
      by_cases hd : s2 = -5
      · unfold sp_lft
        rw [show (I 108 20).toNat = b by omega]
        exact hs
      · obtain ⟨rr, hr⟩ := sp_lfk_pre (S := I 108) (p := p) (b := b) (I 108 20).toNat (by omega)
        unfold sp_lft
        rw [hr, List.flatMap_append, List.foldl_append, ← hs, sp_t1_stop (s := (s1, s2)) hd]
    rw [← hfin]
    exact ⟨Q, rfl, hq⟩
  · show am_E _ _ _ 125 [(6, .inl (b : Int)), (5, .inl is), (4, .inl way), (3, .inl t), (2, .inl kk), (1, .inl (m : Int)), (0, .inr (.inr (.inl (some 107))))] [] (am_mm D (am_wp tT I Q) J ρ) _
    refine am_e_ss 2 (q := (129, [(6, .inl (b : Int)), (5, .inl is), (4, .inl way), (3, .inl t), (2, .inl kk), (1, .inl (m : Int)), (0, .inr (.inr (.inl (some 107))))], [.inl ((Q 107 21))], (am_mm D (am_wp tT I Q) J ρ))) rfl ?_
    refine am_e_if2 rfl ⟨by omega, by omega⟩ (fun (h2 : ¬ (Q 107 21) = 0) => ?_) (fun (h2 : ¬ (¬ (Q 107 21) = 0)) => ?_)
    · show am_E _ _ _ 187 [(6, .inl (b : Int)), (5, .inl is), (4, .inl way), (3, .inl t), (2, .inl kk), (1, .inl (m : Int)), (0, .inr (.inr (.inl (some 107))))] [] (am_mm D (am_wp tT I Q) J ρ) _
      refine am_e_return rfl rfl ?_
      have hfin : (s1, s2) = (sp_pl2 (I 108) (n + 1) p).foldl (sp_t1 (sp_fo (I 108) VL m way) (sp_lkm (I 108) m) is) (a, -5) := by
        show _ = ((sp_lft (I 108) p).flatMap (fun x => sp_pl2 (I 108) n (p ++ [x]))).foldl (sp_t1 (sp_fo (I 108) VL m way) (sp_lkm (I 108) m) is) (a, -5)
        by_cases hd : s2 = -5
        · unfold sp_lft
          rw [show (I 108 20).toNat = b by omega]
          exact hs
        · obtain ⟨rr, hr⟩ := sp_lfk_pre (S := I 108) (p := p) (b := b) (I 108 20).toNat (by omega)
          unfold sp_lft
          rw [hr, List.flatMap_append, List.foldl_append, ← hs, sp_t1_stop (s := (s1, s2)) hd]
      rw [← hfin]
      exact ⟨Q, rfl, hq⟩
    · show am_E _ _ _ 132 [(6, .inl (b : Int)), (5, .inl is), (4, .inl way), (3, .inl t), (2, .inl kk), (1, .inl (m : Int)), (0, .inr (.inr (.inl (some 107))))] [] (am_mm D (am_wp tT I Q) J ρ) _
      refine am_e_ss 2 (q := (135, [(6, .inl (b : Int)), (5, .inl is), (4, .inl way), (3, .inl t), (2, .inl kk), (1, .inl (m : Int)), (0, .inr (.inr (.inl (some 107))))], [.inl (b : Int), .inr (.inr (.inl (some 107)))], (am_mm D (am_wp tT I Q) J ρ))) rfl ?_
      refine am_e_virtual (Q := fun r => r = (some (.inl ((am_bi ((I 108 (13 + b)) = 0)))), (am_mm D (am_wp tT I Q) J ρ))) rfl rfl (Nat.le_of_ble_eq_true rfl) rfl rfl (Nat.le_of_ble_eq_true rfl) (Nat.le_of_ble_eq_true rfl) (r_isOpen _ (v := (b : Int)) ⟨by omega, by omega⟩ (by exact oD b (by omega))) ?_
      rintro r rfl
      show am_E _ _ _ 138 [(6, .inl (b : Int)), (5, .inl is), (4, .inl way), (3, .inl t), (2, .inl kk), (1, .inl (m : Int)), (0, .inr (.inr (.inl (some 107))))] [.inl ((am_bi ((I 108 (13 + b)) = 0)))] (am_mm D (am_wp tT I Q) J ρ) _
      refine am_e_ifeq rfl (fun h3 => ?_) (fun h3 => ?_)
      · show am_E _ _ _ 181 [(6, .inl (b : Int)), (5, .inl is), (4, .inl way), (3, .inl t), (2, .inl kk), (1, .inl (m : Int)), (0, .inr (.inr (.inl (some 107))))] [] (am_mm D (am_wp tT I Q) J ρ) _
        refine am_e_ss 2 (q := (113, [(6, .inl ((b : Int) + 1)), (5, .inl is), (4, .inl way), (3, .inl t), (2, .inl kk), (1, .inl (m : Int)), (0, .inr (.inr (.inl (some 107))))], [], (am_mm D (am_wp tT I Q) J ρ))) rfl ?_
        have hs2 : (s1, s2) = (((sp_lfk (I 108) p (b + 1)).flatMap (fun x => sp_pl2 (I 108) n (p ++ [x]))).foldl (sp_t1 (sp_fo (I 108) VL m way) (sp_lkm (I 108) m) is) (a, -5)) := by rw [sp_lfk_s0 (Or.inl (by omega))]; exact hs
        exact am_less (lv := [(6, .inl ((b + 1) : Int)), (5, .inl is), (4, .inl way), (3, .inl t), (2, .inl kk), (1, .inl (m : Int)), (0, .inr (.inr (.inl (some 107))))]) rfl (List.forall_mem_cons.mpr ⟨rfl, List.forall_mem_cons.mpr ⟨rfl, List.forall_mem_cons.mpr ⟨rfl, List.forall_mem_cons.mpr ⟨rfl, List.forall_mem_cons.mpr ⟨rfl, List.forall_mem_cons.mpr ⟨rfl, List.forall_mem_cons.mpr ⟨rfl, List.forall_mem_nil _⟩⟩⟩⟩⟩⟩⟩) (r_of_l d (n := n) (b := b + 1) ih hI (by omega) hs2 hs1 hs01 hq)
      · show am_E _ _ _ 141 [(6, .inl (b : Int)), (5, .inl is), (4, .inl way), (3, .inl t), (2, .inl kk), (1, .inl (m : Int)), (0, .inr (.inr (.inl (some 107))))] [] (am_mm D (am_wp tT I Q) J ρ) _
        have hbit : (Int32.ofInt (Int32.ofInt t >>> (Int32.ofInt (b : Int) &&& 31)).toInt &&& Int32.ofInt 1).toInt = if p.contains b then 1 else 0 := by
          rw [ht]
          exact am_bitk_of _ b (by omega)
        have hbit2 : (Int32.ofInt (Int32.ofInt t >>> (Int32.ofInt (b : Int) &&& 31)).toInt &&& Int32.ofInt 1).toInt = 0 ∨ (Int32.ofInt (Int32.ofInt t >>> (Int32.ofInt (b : Int) &&& 31)).toInt &&& Int32.ofInt 1).toInt = 1 := by rw [hbit]; split <;> simp
        refine am_e_ss 5 (q := (147, [(6, .inl (b : Int)), (5, .inl is), (4, .inl way), (3, .inl t), (2, .inl kk), (1, .inl (m : Int)), (0, .inr (.inr (.inl (some 107))))], [.inl ((Int32.ofInt (Int32.ofInt t >>> (Int32.ofInt (b : Int) &&& 31)).toInt &&& Int32.ofInt 1).toInt)], (am_mm D (am_wp tT I Q) J ρ))) rfl ?_
        refine am_e_if2 rfl ⟨by omega, by omega⟩ (fun (h4 : ¬ (Int32.ofInt (Int32.ofInt t >>> (Int32.ofInt (b : Int) &&& 31)).toInt &&& Int32.ofInt 1).toInt = 0) => ?_) (fun (h4 : ¬ (¬ (Int32.ofInt (Int32.ofInt t >>> (Int32.ofInt (b : Int) &&& 31)).toInt &&& Int32.ofInt 1).toInt = 0)) => ?_)
        · show am_E _ _ _ 181 [(6, .inl (b : Int)), (5, .inl is), (4, .inl way), (3, .inl t), (2, .inl kk), (1, .inl (m : Int)), (0, .inr (.inr (.inl (some 107))))] [] (am_mm D (am_wp tT I Q) J ρ) _
          refine am_e_ss 2 (q := (113, [(6, .inl ((b : Int) + 1)), (5, .inl is), (4, .inl way), (3, .inl t), (2, .inl kk), (1, .inl (m : Int)), (0, .inr (.inr (.inl (some 107))))], [], (am_mm D (am_wp tT I Q) J ρ))) rfl ?_
          have hcc : ¬ I 108 (13 + b) = 0 ∨ b ∈ p := by
            by_cases e : I 108 (13 + b) = 0
            · right
              by_cases e2 : b ∈ p
              · exact e2
              · exfalso
                rw [if_neg (by rw [List.contains_eq_mem]; simp [e2])] at hbit
                omega
            · exact Or.inl e
          have hs2 : (s1, s2) = (((sp_lfk (I 108) p (b + 1)).flatMap (fun x => sp_pl2 (I 108) n (p ++ [x]))).foldl (sp_t1 (sp_fo (I 108) VL m way) (sp_lkm (I 108) m) is) (a, -5)) := by rw [sp_lfk_s0 hcc]; exact hs
          exact am_less (lv := [(6, .inl ((b + 1) : Int)), (5, .inl is), (4, .inl way), (3, .inl t), (2, .inl kk), (1, .inl (m : Int)), (0, .inr (.inr (.inl (some 107))))]) rfl (List.forall_mem_cons.mpr ⟨rfl, List.forall_mem_cons.mpr ⟨rfl, List.forall_mem_cons.mpr ⟨rfl, List.forall_mem_cons.mpr ⟨rfl, List.forall_mem_cons.mpr ⟨rfl, List.forall_mem_cons.mpr ⟨rfl, List.forall_mem_cons.mpr ⟨rfl, List.forall_mem_nil _⟩⟩⟩⟩⟩⟩⟩) (r_of_l d (n := n) (b := b + 1) ih hI (by omega) hs2 hs1 hs01 hq)
        · show am_E _ _ _ 150 [(6, .inl (b : Int)), (5, .inl is), (4, .inl way), (3, .inl t), (2, .inl kk), (1, .inl (m : Int)), (0, .inr (.inr (.inl (some 107))))] [] (am_mm D (am_wp tT I Q) J ρ) _
          refine am_e_ss 8 (q := (162, [(6, .inl (b : Int)), (5, .inl is), (4, .inl way), (3, .inl t), (2, .inl kk), (1, .inl (m : Int)), (0, .inr (.inr (.inl (some 107))))], [.inl (b : Int), .inl ((6 * (m : Int)) + kk), .inr (.inr (.inl (some 117)))], (am_mm D (am_wp tT I Q) J ρ))) rfl ?_
          refine am_e_iastore (m := 36) rfl rfl (by omega) (by omega) (by omega) ?_
          show am_E _ _ _ 163 [(6, .inl (b : Int)), (5, .inl is), (4, .inl way), (3, .inl t), (2, .inl kk), (1, .inl (m : Int)), (0, .inr (.inr (.inl (some 107))))] [] (am_mm D (am_up (am_wp tT I Q) 117 (((6 * (m : Int)) + kk)).toNat (b : Int)) J ρ) _
          have et2 : (Int32.ofInt t ||| Int32.ofInt (Int32.ofInt 1 <<< (Int32.ofInt (b : Int) &&& 31)).toInt).toInt = am_bits (fun x => (p ++ [b]).contains x) 6 := by
            rw [ht, am_bits_set _ b (by omega)]
            refine am_bits_cg 6 (fun x hx => ?_)
            rw [List.contains_eq_mem, List.contains_eq_mem]
            simp only [List.mem_append, List.mem_singleton, Bool.decide_or]
            congr 1
          have hpr2 : am_rowl ((am_up (am_wp tT I Q) 117 (((6 * (m : Int)) + kk)).toNat (b : Int)) 117) (6 * m) (p ++ [b]) := by
            refine am_rowl_snoc (am_rowl_cg hpr (fun i hi => (am_up_ne2 (by omega)).trans (z5 i hi))) ?_
            rw [show 6 * m + p.length = ((6 * (m : Int)) + kk).toNat by omega]
            exact am_up_at2
          have hpl : (p ++ [b]).length = p.length + 1 := by rw [List.length_append]; rfl
          have hI2 : r_ofI (am_up (am_wp tT I Q) 117 (((6 * (m : Int)) + kk)).toNat (b : Int)) B way is s1 (Int32.ofInt t ||| Int32.ofInt (Int32.ofInt 1 <<< (Int32.ofInt (b : Int) &&& 31)).toInt).toInt (kk + 1) m VL (p ++ [b]) n := by
            refine ⟨⟨hok, hwf⟩, ⟨hm, hw, his, hs01⟩, ⟨et2, by omega⟩, ⟨by (show sp_ops (I 108) = _); omega, hne⟩, ?_, ⟨hop, by (show Q 107 21 = 0); omega, by (show Q 107 22 = s1); omega, by (show Q 107 23 = -5); omega⟩, hO, hl, hvl0, ?_, hpr2⟩
            · intro x hx
              rcases List.mem_append.mp hx with h | h
              · exact hpb x h
              · have : x = b := by simpa using h
                show x < (I 108 20).toNat
                omega
            · intro j hj hjm
              refine ⟨(z6 j hjm).trans (hoth j hj hjm).1, am_rowl_cg (hoth j hj hjm).2 (fun i hi => (am_up_ne2 ?_).trans (z4 _ ?_))⟩
              · have := (hvl0 j hj).1; omega
              · have := (hvl0 j hj).1; omega
          refine am_e_ss 12 (q := (178, [(6, .inl (b : Int)), (5, .inl is), (4, .inl way), (3, .inl t), (2, .inl kk), (1, .inl (m : Int)), (0, .inr (.inr (.inl (some 107))))], [.inl is, .inl way, .inl ((Int32.ofInt t ||| Int32.ofInt (Int32.ofInt 1 <<< (Int32.ofInt (b : Int) &&& 31)).toInt).toInt), .inl (kk + 1), .inl (m : Int), .inr (.inr (.inl (some 107)))], (am_mm D (am_up (am_wp tT I Q) 117 (((6 * (m : Int)) + kk)).toNat (b : Int)) J ρ))) rfl ?_
          refine am_e_virtual (Q := fun r => ∃ Q55, r = (none, (am_mm D (am_wp tT (am_up (am_wp tT I Q) 117 (((6 * (m : Int)) + kk)).toNat (b : Int)) Q55) J ρ)) ∧ r_ofQ (am_up (am_wp tT I Q) 117 (((6 * (m : Int)) + kk)).toNat (b : Int)) Q55 m (p ++ [b]) ((sp_pl2 (I 108) n (p ++ [b])).foldl (sp_t1 (sp_fo (I 108) VL m way) (sp_lkm (I 108) m) is) (s1, -5))) rfl rfl (Nat.le_of_ble_eq_true rfl) rfl rfl (Nat.le_of_ble_eq_true rfl) (Nat.le_of_ble_eq_true rfl) (ih _ B way is s1 _ _ m VL (p ++ [b]) hI2) ?_
          rintro r ⟨Q55, rfl, ⟨⟨z1', z2'⟩, y3, y4, y5, y6⟩⟩
          show am_E _ _ _ 181 [(6, .inl (b : Int)), (5, .inl is), (4, .inl way), (3, .inl t), (2, .inl kk), (1, .inl (m : Int)), (0, .inr (.inr (.inl (some 107))))] [] (am_mm D (am_wp tT (am_up (am_wp tT I Q) 117 (((6 * (m : Int)) + kk)).toNat (b : Int)) Q55) J ρ) _
          refine am_e_ss 2 (q := (113, [(6, .inl ((b : Int) + 1)), (5, .inl is), (4, .inl way), (3, .inl t), (2, .inl kk), (1, .inl (m : Int)), (0, .inr (.inr (.inl (some 107))))], [], (am_mm D (am_wp tT (am_up (am_wp tT I Q) 117 (((6 * (m : Int)) + kk)).toNat (b : Int)) Q55) J ρ))) rfl ?_
          have hnp : ¬ b ∈ p := by
            intro e
            rw [if_pos (by rw [List.contains_eq_mem]; simp [e])] at hbit
            omega
          have es5 : s2 = -5 := by omega
          have hs2 : (Q55 107 22, Q55 107 23) = (((sp_lfk (I 108) p (b + 1)).flatMap (fun x => sp_pl2 (I 108) n (p ++ [x]))).foldl (sp_t1 (sp_fo (I 108) VL m way) (sp_lkm (I 108) m) is) (a, -5)) := by
            rw [sp_lfk_s1 (by omega) hnp, List.flatMap_append, List.foldl_append, ← hs, es5]
            rw [List.flatMap_cons, List.flatMap_nil, List.append_nil]
            exact Prod.ext z1' z2'
          have hq2 : r_ofQ I (am_wp tT (am_up (am_wp tT I Q) 117 (((6 * (m : Int)) + kk)).toNat (b : Int)) Q55) m p (Q55 107 22, Q55 107 23) := by
            refine ⟨⟨rfl, rfl⟩, ?_, ?_, ?_, ?_⟩
            · refine y3.trans ?_
              rw [z2']
            · intro i hi; exact (y4 i hi).trans ((am_up_ne2 (by omega)).trans (z4 i hi))
            · intro i hi; exact (y5 i (by omega)).trans ((am_up_ne2 (by omega)).trans (z5 i hi))
            · intro j hj; exact (y6 j hj).trans (z6 j hj)
          refine am_e_wp tT (am_k_wp am_k_sub (am_k_up rfl (am_k_wp am_k_sub (am_k_id)))) ?_
          exact am_less (lv := [(6, .inl ((b + 1) : Int)), (5, .inl is), (4, .inl way), (3, .inl t), (2, .inl kk), (1, .inl (m : Int)), (0, .inr (.inr (.inl (some 107))))]) rfl (List.forall_mem_cons.mpr ⟨rfl, List.forall_mem_cons.mpr ⟨rfl, List.forall_mem_cons.mpr ⟨rfl, List.forall_mem_cons.mpr ⟨rfl, List.forall_mem_cons.mpr ⟨rfl, List.forall_mem_cons.mpr ⟨rfl, List.forall_mem_cons.mpr ⟨rfl, List.forall_mem_nil _⟩⟩⟩⟩⟩⟩⟩) (r_of_l d (n := n) (b := b + 1) ih hI (by omega) hs2 rfl (by rw [show Q55 107 22 = _ from z1']; exact sp_t1_01 hs01) hq2)
termination_by 7 - b
decreasing_by all_goals omega
