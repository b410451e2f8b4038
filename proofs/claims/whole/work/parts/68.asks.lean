/-! THE CLASS: orders, choices, who could change them -/
theorem c_speaksI {X : Nat × (Nat → Int)} {D : List (Nat × Nat)} {I J : Nat → Nat → Int} {ρ : Nat → Nat → Option Nat} (d : Nat) {z : Int} {p : Nat → Bool} (hp : I 71 6 = am_bits p 6) (hz : 0 ≤ z ∧ z < 6) : am_E X d 70 0 [(0, .inr (.inr (.inl (some 71)))), (1, .inl z)] [] (am_mm D I J ρ) (fun r => r = (some (.inl (am_bi (p z.toNat = true))), am_mm D I J ρ)) := by
  obtain ⟨m, rfl⟩ : ∃ m : Nat, z = (m : Int) := ⟨z.toNat, by omega⟩
  exact c_speaks d hp (by omega)
theorem c_tellM {X : Nat × (Nat → Int)} {D : List (Nat × Nat)} {I J : Nat → Nat → Int} {ρ : Nat → Nat → Option Nat} (d : Nat) {S : Nat → Int} {B way g : Int} {VL : Nat → List Nat} {m : Nat} (hok : r_ok S B) (hwf : sp_wfS S) (hm : m < (S 19).toNat) (hh : S (7 + m) = 0) (hway : 0 ≤ way ∧ way ≤ 5) (hg : g = 0 ∨ g = 1) (h5 : sp_ops S ≤ 5) (h71 : ρ 71 1 = some 2) (h12 : I 1 2 = S 19) (hr0 : I 2 0 = S 0) (hhr : I 2 1 = am_bits (sp_hp S) 6) (hlk : ∀ b : Nat, b < (S 20).toNat → I (20 + m) b = sp_like S (m : Int) b) (hord : c_ords I S) (hv : sp_vcs S VL) (hvoi : c_voi I VL (S 19).toNat) : am_E X (d + 5) 82 0 [(0, .inr (.inr (.inl (some 71)))), (1, .inl (m : Int)), (2, .inl way), (3, .inl g)] [] (am_mm D I J ρ) (fun r => ∃ Q, r = (some (.inl (if sp_ops S = 0 then -5 else sp_ff1 g (sp_cho S VL way) (fun x => sp_like S (m : Int) x) (fun p => sp_cho S (sp_set VL m p) way) (sp_pl2 S (sp_ops S).toNat []))), am_mm D (am_wp uW I Q) J ρ) ∧ c_voi Q VL (S 19).toNat) := by
  have h19 := r_ok_19 hok
  have h6m : m = 0 ∨ m = 1 ∨ m = 2 ∨ m = 3 ∨ m = 4 ∨ m = 5 := by omega
  rcases h6m with rfl | rfl | rfl | rfl | rfl | rfl
  · exact c_tell_0 d hok hwf hm hh hway hg h5 h71 h12 hr0 hhr hlk hord hv hvoi
  · exact c_tell_1 d hok hwf hm hh hway hg h5 h71 h12 hr0 hhr hlk hord hv hvoi
  · exact c_tell_2 d hok hwf hm hh hway hg h5 h71 h12 hr0 hhr hlk hord hv hvoi
  · exact c_tell_3 d hok hwf hm hh hway hg h5 h71 h12 hr0 hhr hlk hord hv hvoi
  · exact c_tell_4 d hok hwf hm hh hway hg h5 h71 h12 hr0 hhr hlk hord hv hvoi
  · exact c_tell_5 d hok hwf hm hh hway hg h5 h71 h12 hr0 hhr hlk hord hv hvoi
theorem sp_t1_ff {F : List Nat → Int} {lk : Int → Int} {u : Int} : ∀ {L : List (List Nat)} {a : Int}, (∀ p ∈ L, 0 ≤ F p) → (L.foldl (sp_t1 F lk u) (a, -5)).2 = sp_ff1 1 u lk F L := by
  intro L
  induction L with
  | nil => intro a _; rfl
  | cons p L ih =>
    intro a h
    have hp := h p List.mem_cons_self
    have st : sp_t1 F lk u (a, -5) p = ((if a = 0 ∧ F p = u then 0 else 1), (if lk u < lk (F p) then F p else -5)) := if_pos rfl
    rw [List.foldl_cons, st]
    generalize (if a = 0 ∧ F p = u then (0 : Int) else 1) = a'
    by_cases e : lk u < lk (F p)
    · have e9 : sp_ff1 1 u lk F (p :: L) = F p := if_pos ⟨hp, Or.inr ⟨rfl, e⟩⟩
      rw [if_pos e, e9, sp_t1_stop (by show ¬ F p = -5; omega)]
    · have e9 : sp_ff1 1 u lk F (p :: L) = sp_ff1 1 u lk F L := if_neg (fun h => by rcases h.2 with h | h; exact absurd h.1 (by decide); exact e h.2)
      rw [if_neg e, e9, ih (fun q hq => h q (List.mem_cons_of_mem _ hq))]
theorem sp_t1_al {F : List Nat → Int} {lk : Int → Int} {u : Int} : ∀ {L : List (List Nat)} {a : Int}, (a = 0 ∨ a = 1) → (∀ p ∈ L, 0 ≤ F p) → (((L.foldl (sp_t1 F lk u) (a, -5)).1 = 0 ∧ (L.foldl (sp_t1 F lk u) (a, -5)).2 = -5) ↔ (a = 0 ∧ sp_ff1 0 u lk F L = -5)) := by
  intro L
  induction L with
  | nil => intro a _ _; exact ⟨fun h => ⟨h.1, rfl⟩, fun h => ⟨h.1, rfl⟩⟩
  | cons p L ih =>
    intro a ha h
    have hp := h p List.mem_cons_self
    have st : sp_t1 F lk u (a, -5) p = ((if a = 0 ∧ F p = u then 0 else 1), (if lk u < lk (F p) then F p else -5)) := if_pos rfl
    have ih2 : ∀ a : Int, (a = 0 ∨ a = 1) → (((L.foldl (sp_t1 F lk u) (a, -5)).1 = 0 ∧ (L.foldl (sp_t1 F lk u) (a, -5)).2 = -5) ↔ (a = 0 ∧ sp_ff1 0 u lk F L = -5)) := fun a ha => ih ha (fun q hq => h q (List.mem_cons_of_mem _ hq))
    rw [List.foldl_cons, st]
    by_cases e : lk u < lk (F p)
    · have hne : ¬ F p = u := by intro h; rw [h] at e; omega
      have e9 : sp_ff1 0 u lk F (p :: L) = F p := if_pos ⟨hp, Or.inl ⟨rfl, hne⟩⟩
      rw [if_pos e, e9, sp_t1_stop (by show ¬ F p = -5; omega)]
      exact ⟨fun h => by have h2 : F p = -5 := h.2; omega, fun h => by have h2 : F p = -5 := h.2; omega⟩
    · rw [if_neg e]
      by_cases e2 : F p = u
      · have e9 : sp_ff1 0 u lk F (p :: L) = sp_ff1 0 u lk F L := if_neg (fun h => by rcases h.2 with h | h; exact h.2 e2; exact absurd h.1 (by decide))
        rw [e9]
        by_cases e3 : a = 0
        · rw [if_pos ⟨e3, e2⟩, ih2 0 (Or.inl rfl)]; exact ⟨fun h => ⟨e3, h.2⟩, fun h => ⟨rfl, h.2⟩⟩
        · rw [if_neg (fun h => e3 h.1), ih2 1 (Or.inr rfl)]; exact ⟨fun h => absurd h.1 (by decide), fun h => absurd h.1 e3⟩
      · have e9 : sp_ff1 0 u lk F (p :: L) = F p := if_pos ⟨hp, Or.inl ⟨rfl, e2⟩⟩
        rw [e9, if_neg (fun h => e2 h.2), ih2 1 (Or.inr rfl)]
        exact ⟨fun h => absurd h.1 (by decide), fun h => by have h2 : F p = -5 := h.2; omega⟩
theorem sp_tell_F {S : Nat → Int} {B way : Int} {m : Nat} (hok : r_ok S B) (h5 : sp_ops S ≤ 5) (ho : ¬ sp_ops S = 0) (hh : S (7 + m) = 0) : ∀ p ∈ sp_pl2 S (sp_ops S).toNat [], 0 ≤ sp_cho S (sp_set (sp_vl S 0) m p) way := by
  intro p hp
  have hv := (nx_voice hok h5 ho p hp).1
  exact (sp_cho_b (way := way) hok (sp_vcs_vo hok (sp_set_vcs sp_vl_vcs hv hh)) ho).1
theorem sp_tell_g {S : Nat → Int} {B way : Int} {m : Nat} (hok : r_ok S B) (h5 : sp_ops S ≤ 5) (hh : S (7 + m) = 0) : (if sp_ops S = 0 then -5 else sp_ff1 1 (sp_cho S (sp_vl S 0) way) (fun x => sp_like S (m : Int) x) (fun p => sp_cho S (sp_set (sp_vl S 0) m p) way) (sp_pl2 S (sp_ops S).toNat [])) = (sp_tell S m way).2 := by
  unfold sp_tell
  by_cases ho : sp_ops S = 0
  · rw [if_pos ho, if_pos ho]
  · rw [if_neg ho, if_neg ho]
    exact (sp_t1_ff (sp_tell_F hok h5 ho hh)).symm
theorem sp_tell_a {S : Nat → Int} {B way : Int} {m : Nat} (hok : r_ok S B) (h5 : sp_ops S ≤ 5) (hh : S (7 + m) = 0) : (if sp_ops S = 0 then -5 else sp_ff1 0 (sp_cho S (sp_vl S 0) way) (fun x => sp_like S (m : Int) x) (fun p => sp_cho S (sp_set (sp_vl S 0) m p) way) (sp_pl2 S (sp_ops S).toNat [])) = -5 ↔ sp_aln S m way = 0 := by
  unfold sp_aln sp_tell
  by_cases ho : sp_ops S = 0
  · rw [if_pos ho, if_pos ho, if_pos ⟨rfl, rfl⟩]
    exact ⟨fun _ => rfl, fun _ => rfl⟩
  · rw [if_neg ho, if_neg ho]
    have h := sp_t1_al (F := sp_fo S (sp_vl S 0) m way) (lk := sp_lkm S m) (u := sp_cho S (sp_vl S 0) way) (a := 0) (Or.inl rfl) (sp_tell_F (way := way) hok h5 ho hh)
    constructor
    · intro e; exact if_pos (h.mpr ⟨rfl, e⟩)
    · intro e
      refine (h.mp ?_).2
      by_cases e2 : ((sp_pl2 S (sp_ops S).toNat []).foldl (sp_t1 (sp_fo S (sp_vl S 0) m way) (sp_lkm S m) (sp_cho S (sp_vl S 0) way)) (0, -5)).1 = 0 ∧ ((sp_pl2 S (sp_ops S).toNat []).foldl (sp_t1 (sp_fo S (sp_vl S 0) m way) (sp_lkm S m) (sp_cho S (sp_vl S 0) way)) (0, -5)).2 = -5
      · exact e2
      · rw [if_neg e2] at e; omega
def sp_lkl (S : Nat → Int) (c : Nat → Int) : List Nat → Int
  | [] => -5
  | x :: r => if (x : Int) < S 22 ∧ ¬ c x = S (62 + x) then (x : Int) else sp_lkl S c r
theorem sp_lkl_c {S c : Nat → Int} {x : Nat} {r : List Nat} : sp_lkl S c (x :: r) = if (x : Int) < S 22 ∧ ¬ c x = S (62 + x) then (x : Int) else sp_lkl S c r := rfl
theorem sp_lookf_l {S c : Nat → Int} {B : Int} (hok : r_ok S B) : ∀ k b, b + k = (S 20).toNat → sp_lkl S c (sp_sfx S b k) = sp_lookf S c ((min (S 20) (S 22)).toNat - b) b := by
  have h19 := r_ok_19 hok
  have h22 : 0 ≤ S 22 := by
    obtain ⟨o0, oG, oH, oD, o19, o20, o21, o22, _⟩ := hok
    exact o22.1
  intro k
  induction k with
  | zero => intro b hb; rw [show (min (S 20) (S 22)).toNat - b = 0 by omega]; rfl
  | succ k ih =>
    intro b hb
    rw [sp_sfx_s]
    by_cases e : (b : Int) < S 22
    · obtain ⟨n, hn⟩ : ∃ n, (min (S 20) (S 22)).toNat - b = n + 1 := ⟨(min (S 20) (S 22)).toNat - b - 1, by omega⟩
      have ih := ih (b + 1) (by omega)
      rw [show (min (S 20) (S 22)).toNat - (b + 1) = n by omega] at ih
      rw [hn]
      show _ = (if S (13 + b) = 0 ∧ ¬ c b = S (62 + b) then (b : Int) else sp_lookf S c n (b + 1))
      by_cases e1 : S (13 + b) = 0
      · rw [if_pos e1, sp_lkl_c]
        by_cases e2 : c b = S (62 + b)
        · rw [if_neg (fun h => h.2 e2), if_neg (fun h => h.2 e2), ih]
        · rw [if_pos ⟨e, e2⟩, if_pos ⟨e1, e2⟩]
      · rw [if_neg e1, if_neg (fun h => e1 h.1), ih]
    · have ih := ih (b + 1) (by omega)
      rw [show (min (S 20) (S 22)).toNat - (b + 1) = 0 by omega] at ih
      rw [show (min (S 20) (S 22)).toNat - b = 0 by omega]
      show _ = (-5 : Int)
      by_cases e1 : S (13 + b) = 0
      · rw [if_pos e1, sp_lkl_c, if_neg (fun h => e h.1), ih]; rfl
      · rw [if_neg e1, ih]; rfl
theorem sp_looked_l {S : Nat → Int} {B : Int} (hok : r_ok S B) : sp_looked S = sp_lkl S (fun b => sp_tls (sp_vl S 0) 0 b (S 19).toNat) (sp_ob S) := by
  have h := sp_lookf_l (c := fun b : Nat => sp_cof (sp_Vr (sp_vl S 0)) (sp_Zr (sp_vl S 0)) b 0 (S 19).toNat) hok (S 20).toNat 0 (by omega)
  rw [sp_sfx_ob, Nat.sub_zero] at h
  unfold sp_looked
  rw [← h]
  congr 1
  funext b
  exact sp_cof_tls (sp_vcs_l hok sp_vl_vcs) _ (Nat.le_refl _)
theorem c_order {X : Nat × (Nat → Int)} {D : List (Nat × Nat)} {I J : Nat → Nat → Int} {ρ : Nat → Nat → Option Nat} (d : Nat) {S : Nat → Int} {B : Int} (hok : r_ok S B) (hwf : sp_wfS S) (hh : c_hall D I ρ 0 S) {m w k : Int} (hm : -2147483648 ≤ m ∧ m < 2147483648) (hw : -2147483648 ≤ w ∧ w < 2147483648) (hk : -2147483648 ≤ k ∧ k < 2147483648) : am_E X (d + 5) 98 0 [(0, .inr (.inr (.inl (some 0)))), (1, .inl m), (2, .inl w), (3, .inl k)] [] (am_mm D I J ρ) (fun q => ∃ Q ρ2, q = (some (.inl (sp_order S m w k)), am_mm D (am_wp uZ I Q) J ρ2) ∧ ∀ k j, k ≠ 71 → ρ2 k j = ρ k j) := by
  have hh0 := hh
  obtain ⟨⟨h12, h14, h16, h18, h110⟩, ⟨hr0, hhr, hhd, hgl⟩, ⟨htp, hhn⟩, hbk, hlo, hmem, c, hρc, ⟨hsc0, hcc, hc0, hcs⟩⟩ := hh
  have hsc : (am_S ++ D)[c]? = some (1, 10) := hsc0.1.1
  have h12 : I 1 2 = S 19 := h12
  have h14 : I 1 4 = S 20 := h14
  have h16 : I 1 6 = S 21 := h16
  have h18 : I 1 8 = S 23 := h18
  have h110 : I 1 10 = S 22 := h110
  have hr0 : I 2 0 = S 0 := hr0
  have hhr : I 2 1 = am_bits (sp_hp S) 6 := hhr
  have hhd : I 2 2 = am_bits (sp_dp S) 6 := hhd
  have hgl : ∀ m, m < (S 19).toNat → I 3 m = S (1 + m) := hgl
  have htp : ∀ i, i < (S 23).toNat → I 17 i = S (68 + i) := htp
  have hhn : ∀ i, i < (S 22).toNat → I 18 i = S (62 + i) := hhn
  have hbk : ∀ b, b < (S 20).toNat → I (6 + b) 0 = S (38 + b) ∧ I (6 + b) 1 = S (44 + b) ∧ I (6 + b) 2 = S (50 + b) ∧ I (6 + b) 3 = S (56 + b) := hbk
  have hlo : ∀ m b : Nat, m < (S 19).toNat → b < (S 20).toNat → I (20 + m) b = sp_like S m b ∧ I (27 + m) b = sp_odds S m b := hlo
  have hmem : c_mems D I ρ 4 S := hmem
  have hρc : ρ 1 5 = some c := hρc
  have hh := hh0
  have h19 := r_ok_19 hok
  have hokx := hok
  obtain ⟨o0, oG, oH, oD, o19, o20, o21, o22, o23, o24, oK, oV, oP, oM, oS, oY, oHd, oT, oC, oN⟩ := hok
  have hok := hokx
  have ob := sp_ops_b hok
  refine am_e_ss 2 (q := (2, [(0, .inr (.inr (.inl (some 0)))), (1, .inl m), (2, .inl w), (3, .inl k)], [.inl m, .inr (.inr (.inl (some 0)))], (am_mm D I J ρ))) rfl ?_
  refine am_e_virtual (Q := fun r => r = (some (.inl ((am_bi (0 ≤ m ∧ m ≤ S 19 - 1)))), (am_mm D I J ρ))) rfl rfl (Nat.le_of_ble_eq_true rfl) rfl rfl (Nat.le_of_ble_eq_true rfl) (Nat.le_of_ble_eq_true rfl) (c_isMember _ (v := m) hok ⟨by omega, by omega⟩ h12) ?_
  rintro r rfl
  show am_E _ _ _ 5 [(0, .inr (.inr (.inl (some 0)))), (1, .inl m), (2, .inl w), (3, .inl k)] [.inl ((am_bi (0 ≤ m ∧ m ≤ S 19 - 1)))] (am_mm D I J ρ) _
  refine am_e_ifeq rfl (fun hw1 => ?_) (fun hw1 => ?_)
  · show am_E _ _ _ 27 [(0, .inr (.inr (.inl (some 0)))), (1, .inl m), (2, .inl w), (3, .inl k)] [] (am_mm D I J ρ) _
    refine am_e_ss 1 (q := (28, [(0, .inr (.inr (.inl (some 0)))), (1, .inl m), (2, .inl w), (3, .inl k)], [.inl (-1)], (am_mm D I J ρ))) rfl ?_
    refine am_e_ireturn rfl rfl ?_
    rw [show sp_order S m w k = -1 by (unfold sp_order; (repeat' split) <;> first | rfl | (exfalso; omega))]
    exact ⟨I, ρ, am_r_wp uZ am_k_id, fun _ _ _ => rfl⟩
  · show am_E _ _ _ 8 [(0, .inr (.inr (.inl (some 0)))), (1, .inl m), (2, .inl w), (3, .inl k)] [] (am_mm D I J ρ) _
    refine am_e_ss 1 (q := (9, [(0, .inr (.inr (.inl (some 0)))), (1, .inl m), (2, .inl w), (3, .inl k)], [.inl w], (am_mm D I J ρ))) rfl ?_
    refine am_e_if2 rfl ⟨by omega, by omega⟩ (fun (hw2 : w < 0) => ?_) (fun (hw2 : ¬ (w < 0)) => ?_)
    · show am_E _ _ _ 27 [(0, .inr (.inr (.inl (some 0)))), (1, .inl m), (2, .inl w), (3, .inl k)] [] (am_mm D I J ρ) _
      refine am_e_ss 1 (q := (28, [(0, .inr (.inr (.inl (some 0)))), (1, .inl m), (2, .inl w), (3, .inl k)], [.inl (-1)], (am_mm D I J ρ))) rfl ?_
      refine am_e_ireturn rfl rfl ?_
      rw [show sp_order S m w k = -1 by (unfold sp_order; (repeat' split) <;> first | rfl | (exfalso; omega))]
      exact ⟨I, ρ, am_r_wp uZ am_k_id, fun _ _ _ => rfl⟩
    · show am_E _ _ _ 12 [(0, .inr (.inr (.inl (some 0)))), (1, .inl m), (2, .inl w), (3, .inl k)] [] (am_mm D I J ρ) _
      refine am_e_ss 2 (q := (14, [(0, .inr (.inr (.inl (some 0)))), (1, .inl m), (2, .inl w), (3, .inl k)], [.inl 1, .inl w], (am_mm D I J ρ))) rfl ?_
      refine am_e_icmp2 rfl ⟨by omega, by omega⟩ ⟨by omega, by omega⟩ (fun (hw3 : 1 < w) => ?_) (fun (hw3 : ¬ (1 < w)) => ?_)
      · show am_E _ _ _ 27 [(0, .inr (.inr (.inl (some 0)))), (1, .inl m), (2, .inl w), (3, .inl k)] [] (am_mm D I J ρ) _
        refine am_e_ss 1 (q := (28, [(0, .inr (.inr (.inl (some 0)))), (1, .inl m), (2, .inl w), (3, .inl k)], [.inl (-1)], (am_mm D I J ρ))) rfl ?_
        refine am_e_ireturn rfl rfl ?_
        rw [show sp_order S m w k = -1 by (unfold sp_order; (repeat' split) <;> first | rfl | (exfalso; omega))]
        exact ⟨I, ρ, am_r_wp uZ am_k_id, fun _ _ _ => rfl⟩
      · show am_E _ _ _ 17 [(0, .inr (.inr (.inl (some 0)))), (1, .inl m), (2, .inl w), (3, .inl k)] [] (am_mm D I J ρ) _
        refine am_e_ss 1 (q := (18, [(0, .inr (.inr (.inl (some 0)))), (1, .inl m), (2, .inl w), (3, .inl k)], [.inl k], (am_mm D I J ρ))) rfl ?_
        refine am_e_if2 rfl ⟨by omega, by omega⟩ (fun (hw4 : k < 0) => ?_) (fun (hw4 : ¬ (k < 0)) => ?_)
        · show am_E _ _ _ 27 [(0, .inr (.inr (.inl (some 0)))), (1, .inl m), (2, .inl w), (3, .inl k)] [] (am_mm D I J ρ) _
          refine am_e_ss 1 (q := (28, [(0, .inr (.inr (.inl (some 0)))), (1, .inl m), (2, .inl w), (3, .inl k)], [.inl (-1)], (am_mm D I J ρ))) rfl ?_
          refine am_e_ireturn rfl rfl ?_
          rw [show sp_order S m w k = -1 by (unfold sp_order; (repeat' split) <;> first | rfl | (exfalso; omega))]
          exact ⟨I, ρ, am_r_wp uZ am_k_id, fun _ _ _ => rfl⟩
        · show am_E _ _ _ 21 [(0, .inr (.inr (.inl (some 0)))), (1, .inl m), (2, .inl w), (3, .inl k)] [] (am_mm D I J ρ) _
          refine am_e_ss 2 (q := (24, [(0, .inr (.inr (.inl (some 0)))), (1, .inl m), (2, .inl w), (3, .inl k)], [.inl 6, .inl k], (am_mm D I J ρ))) rfl ?_
          refine am_e_icmp2 rfl ⟨by omega, by omega⟩ ⟨by omega, by omega⟩ (fun (hw5 : k < 6) => ?_) (fun (hw5 : ¬ (k < 6)) => ?_)
          · show am_E _ _ _ 29 [(0, .inr (.inr (.inl (some 0)))), (1, .inl m), (2, .inl w), (3, .inl k)] [] (am_mm D I J ρ) _
            refine am_e_ss 5 (q := (40, [(0, .inr (.inr (.inl (some 0)))), (1, .inl m), (2, .inl w), (3, .inl k)], [.inr (.inr (.inl (some 2))), .inr (.inr (.inl (some 71)))], (am_mm D I J ρ))) rfl ?_
            refine am_e_virtual (Q := fun r => ∃ Q223, r = (none, (am_mm D (am_wp uC I Q223) J (am_up ρ 71 1 (some 2)))) ∧ c_ords Q223 S ∧ c_voi Q223 (sp_vl S 0) (S 19).toNat) rfl rfl (Nat.le_of_ble_eq_true rfl) rfl rfl (Nat.le_of_ble_eq_true rfl) (Nat.le_of_ble_eq_true rfl) (c_collect_2 _ hok (c_hall_vh hok hh) hwf) ?_
            rintro r ⟨Q223, rfl, ⟨hord, hvoi⟩⟩
            show am_E _ _ _ 43 [(0, .inr (.inr (.inl (some 0)))), (1, .inl m), (2, .inl w), (3, .inl k)] [] (am_mm D (am_wp uC I Q223) J (am_up ρ 71 1 (some 2))) _
            have hordK : c_ords (am_wp uC I Q223) S := ⟨hord.1, hord.2.1, fun j hj => am_rowl_cg (hord.2.2 j hj) (fun i _ => am_wp_in (show uC (74 + j) _ = true from (by rcases (show j = 0 ∨ j = 1 ∨ j = 2 ∨ j = 3 ∨ j = 4 ∨ j = 5 by omega) with rfl | rfl | rfl | rfl | rfl | rfl <;> rfl)))⟩
            have hvoiK : c_voi (am_wp uC I Q223) (sp_vl S 0) (S 19).toNat := ⟨hvoi.1, fun j hj hn => am_rowl_cg (hvoi.2.1 j hj hn) (fun i _ => am_wp_in (show uC (81 + j) _ = true from (by rcases (show j = 0 ∨ j = 1 ∨ j = 2 ∨ j = 3 ∨ j = 4 ∨ j = 5 by omega) with rfl | rfl | rfl | rfl | rfl | rfl <;> rfl))), hvoi.2.2.1, fun a b ha hb => (am_wp_in (show uC (91 + a) b = true from (by rcases (show a = 0 ∨ a = 1 ∨ a = 2 ∨ a = 3 ∨ a = 4 ∨ a = 5 by omega) with rfl | rfl | rfl | rfl | rfl | rfl <;> rfl))).trans (hvoi.2.2.2 a b ha hb)⟩
            have ho3 := hord.1
            refine am_e_ss 4 (q := (51, [(0, .inr (.inr (.inl (some 0)))), (1, .inl m), (2, .inl w), (3, .inl k)], [.inl ((Q223 71 3)), .inl k], (am_mm D (am_wp uC I Q223) J (am_up ρ 71 1 (some 2))))) rfl ?_
            refine am_e_icmp2 rfl ⟨by omega, by omega⟩ ⟨by omega, by omega⟩ (fun (hw6 : (Q223 71 3) ≤ k) => ?_) (fun (hw6 : ¬ ((Q223 71 3) ≤ k)) => ?_)
            · show am_E _ _ _ 70 [(0, .inr (.inr (.inl (some 0)))), (1, .inl m), (2, .inl w), (3, .inl k)] [] (am_mm D (am_wp uC I Q223) J (am_up ρ 71 1 (some 2))) _
              refine am_e_ss 1 (q := (72, [(0, .inr (.inr (.inl (some 0)))), (1, .inl m), (2, .inl w), (3, .inl k)], [.inl (-5)], (am_mm D (am_wp uC I Q223) J (am_up ρ 71 1 (some 2))))) rfl ?_
              refine am_e_ireturn rfl rfl ?_
              have ol := sp_ord_len (S := S) (m := m.toNat)
              have sl := sp_says_len (S := S) (m := m.toNat)
              have ev : sp_order S m w k = (-5) := by
                unfold sp_order sp_get
                rw [if_neg (by omega), if_neg (by omega), if_neg (by omega)]
                rw [List.getElem?_eq_none (by split <;> omega)]
              rw [ev]
              exact ⟨_, (am_up ρ 71 1 (some 2)), am_r_wp uZ (am_k_wp (uC_uZ) (am_k_id)), fun k j hk => if_neg (by omega)⟩
            · show am_E _ _ _ 54 [(0, .inr (.inr (.inl (some 0)))), (1, .inl m), (2, .inl w), (3, .inl k)] [] (am_mm D (am_wp uC I Q223) J (am_up ρ 71 1 (some 2))) _
              refine am_e_ss 2 (q := (56, [(0, .inr (.inr (.inl (some 0)))), (1, .inl m), (2, .inl w), (3, .inl k)], [.inl 1, .inl w], (am_mm D (am_wp uC I Q223) J (am_up ρ 71 1 (some 2))))) rfl ?_
              refine am_e_icmp2 rfl ⟨by omega, by omega⟩ ⟨by omega, by omega⟩ (fun (hw7 : ¬ w = 1) => ?_) (fun (hw7 : ¬ (¬ w = 1)) => ?_)
              · show am_E _ _ _ 73 [(0, .inr (.inr (.inl (some 0)))), (1, .inl m), (2, .inl w), (3, .inl k)] [] (am_mm D (am_wp uC I Q223) J (am_up ρ 71 1 (some 2))) _
                refine am_e_ss 1 (q := (74, [(0, .inr (.inr (.inl (some 0)))), (1, .inl m), (2, .inl w), (3, .inl k)], [.inl w], (am_mm D (am_wp uC I Q223) J (am_up ρ 71 1 (some 2))))) rfl ?_
                refine am_e_if2 rfl ⟨by omega, by omega⟩ (fun (hw8 : ¬ w = 0) => ?_) (fun (hw8 : ¬ (¬ w = 0)) => ?_)
                · show am_E _ _ _ 91 [(0, .inr (.inr (.inl (some 0)))), (1, .inl m), (2, .inl w), (3, .inl k)] [] (am_mm D (am_wp uC I Q223) J (am_up ρ 71 1 (some 2))) _
                  refine am_e_ss 4 (q := (99, [(0, .inr (.inr (.inl (some 0)))), (1, .inl m), (2, .inl w), (3, .inl k)], [.inl m, .inr (.inr (.inl (some 80)))], (am_mm D (am_wp uC I Q223) J (am_up ρ 71 1 (some 2))))) rfl ?_
                  refine am_e_aaload (m := 6) (c := 23) rfl rfl (by decide) (by omega) (by omega) (by omega) ?_
                  rw [show ((am_mm D (am_wp uC I Q223) J (am_up ρ 71 1 (some 2)))).2.2.2 80 (m).toNat = some (81 + (m).toNat) from (am_r80 (ρ := am_up ρ 71 1 (some 2)) (by omega))]
                  show am_E _ _ _ 100 [(0, .inr (.inr (.inl (some 0)))), (1, .inl m), (2, .inl w), (3, .inl k)] [.inr (.inr (.inl (some (81 + (m).toNat))))] (am_mm D (am_wp uC I Q223) J (am_up ρ 71 1 (some 2))) _
                  refine am_e_ss 1 (q := (101, [(0, .inr (.inr (.inl (some 0)))), (1, .inl m), (2, .inl w), (3, .inl k)], [.inl k, .inr (.inr (.inl (some (81 + (m).toNat))))], (am_mm D (am_wp uC I Q223) J (am_up ρ 71 1 (some 2))))) rfl ?_
                  refine am_e_iaload (m := 6) rfl (am_k81 (by omega)) (by omega) (by omega) (by omega) ?_
                  show am_E _ _ _ 102 [(0, .inr (.inr (.inl (some 0)))), (1, .inl m), (2, .inl w), (3, .inl k)] [.inl (((am_wp uC I Q223) (81 + (m).toNat) (k).toNat))] (am_mm D (am_wp uC I Q223) J (am_up ρ 71 1 (some 2))) _
                  refine am_e_ireturn rfl rfl ?_
                  exfalso; omega
                · show am_E _ _ _ 77 [(0, .inr (.inr (.inl (some 0)))), (1, .inl m), (2, .inl w), (3, .inl k)] [] (am_mm D (am_wp uC I Q223) J (am_up ρ 71 1 (some 2))) _
                  refine am_e_ss 4 (q := (85, [(0, .inr (.inr (.inl (some 0)))), (1, .inl m), (2, .inl w), (3, .inl k)], [.inl m, .inr (.inr (.inl (some 73)))], (am_mm D (am_wp uC I Q223) J (am_up ρ 71 1 (some 2))))) rfl ?_
                  refine am_e_aaload (m := 6) (c := 23) rfl rfl (by decide) (by omega) (by omega) (by omega) ?_
                  rw [show ((am_mm D (am_wp uC I Q223) J (am_up ρ 71 1 (some 2)))).2.2.2 73 (m).toNat = some (74 + (m).toNat) from (am_r73 (ρ := am_up ρ 71 1 (some 2)) (by omega))]
                  show am_E _ _ _ 86 [(0, .inr (.inr (.inl (some 0)))), (1, .inl m), (2, .inl w), (3, .inl k)] [.inr (.inr (.inl (some (74 + (m).toNat))))] (am_mm D (am_wp uC I Q223) J (am_up ρ 71 1 (some 2))) _
                  refine am_e_ss 1 (q := (87, [(0, .inr (.inr (.inl (some 0)))), (1, .inl m), (2, .inl w), (3, .inl k)], [.inl k, .inr (.inr (.inl (some (74 + (m).toNat))))], (am_mm D (am_wp uC I Q223) J (am_up ρ 71 1 (some 2))))) rfl ?_
                  refine am_e_iaload (m := 6) rfl (am_k74 (by omega)) (by omega) (by omega) (by omega) ?_
                  show am_E _ _ _ 88 [(0, .inr (.inr (.inl (some 0)))), (1, .inl m), (2, .inl w), (3, .inl k)] [.inl (((am_wp uC I Q223) (74 + (m).toNat) (k).toNat))] (am_mm D (am_wp uC I Q223) J (am_up ρ 71 1 (some 2))) _
                  refine am_e_ss 1 (q := (102, [(0, .inr (.inr (.inl (some 0)))), (1, .inl m), (2, .inl w), (3, .inl k)], [.inl (((am_wp uC I Q223) (74 + (m).toNat) (k).toNat))], (am_mm D (am_wp uC I Q223) J (am_up ρ 71 1 (some 2))))) rfl ?_
                  refine am_e_ireturn rfl rfl ?_
                  have ol := sp_ord_len (S := S) (m := m.toNat)
                  have sl := sp_says_len (S := S) (m := m.toNat)
                  have ev : sp_order S m w k = ((am_wp uC I Q223) (74 + (m).toNat) (k).toNat) := by
                    unfold sp_order sp_get
                    rw [if_neg (by omega), if_neg (by omega), if_neg (by omega)]
                    rw [if_pos (by omega), List.getElem?_eq_getElem (show k.toNat < (sp_ord S m.toNat).length by omega)]
                    have hr := am_rowl_d (hordK.2.2 m.toNat (by omega)) (show k.toNat < (sp_ord S m.toNat).length by omega)
                    rw [hr, am_getD]
                  rw [ev]
                  exact ⟨_, (am_up ρ 71 1 (some 2)), am_r_wp uZ (am_k_wp (uC_uZ) (am_k_id)), fun k j hk => if_neg (by omega)⟩
              · show am_E _ _ _ 59 [(0, .inr (.inr (.inl (some 0)))), (1, .inl m), (2, .inl w), (3, .inl k)] [] (am_mm D (am_wp uC I Q223) J (am_up ρ 71 1 (some 2))) _
                refine am_e_ss 3 (q := (64, [(0, .inr (.inr (.inl (some 0)))), (1, .inl m), (2, .inl w), (3, .inl k)], [.inl m, .inr (.inr (.inl (some 71)))], (am_mm D (am_wp uC I Q223) J (am_up ρ 71 1 (some 2))))) rfl ?_
                refine am_e_virtual (Q := fun r => r = (some (.inl ((am_bi (sp_spk (sp_vl S 0) (S 19).toNat (m).toNat = true)))), (am_mm D (am_wp uC I Q223) J (am_up ρ 71 1 (some 2))))) rfl rfl (Nat.le_of_ble_eq_true rfl) rfl rfl (Nat.le_of_ble_eq_true rfl) (Nat.le_of_ble_eq_true rfl) (c_speaksI _ (p := sp_spk (sp_vl S 0) (S 19).toNat) hvoi.1 ⟨by omega, by omega⟩) ?_
                rintro r rfl
                show am_E _ _ _ 67 [(0, .inr (.inr (.inl (some 0)))), (1, .inl m), (2, .inl w), (3, .inl k)] [.inl ((am_bi (sp_spk (sp_vl S 0) (S 19).toNat (m).toNat = true)))] (am_mm D (am_wp uC I Q223) J (am_up ρ 71 1 (some 2))) _
                refine am_e_ifne rfl (fun hw9 => ?_) (fun hw9 => ?_)
                · show am_E _ _ _ 73 [(0, .inr (.inr (.inl (some 0)))), (1, .inl m), (2, .inl w), (3, .inl k)] [] (am_mm D (am_wp uC I Q223) J (am_up ρ 71 1 (some 2))) _
                  refine am_e_ss 1 (q := (74, [(0, .inr (.inr (.inl (some 0)))), (1, .inl m), (2, .inl w), (3, .inl k)], [.inl w], (am_mm D (am_wp uC I Q223) J (am_up ρ 71 1 (some 2))))) rfl ?_
                  refine am_e_if2 rfl ⟨by omega, by omega⟩ (fun (hw10 : ¬ w = 0) => ?_) (fun (hw10 : ¬ (¬ w = 0)) => ?_)
                  · show am_E _ _ _ 91 [(0, .inr (.inr (.inl (some 0)))), (1, .inl m), (2, .inl w), (3, .inl k)] [] (am_mm D (am_wp uC I Q223) J (am_up ρ 71 1 (some 2))) _
                    refine am_e_ss 4 (q := (99, [(0, .inr (.inr (.inl (some 0)))), (1, .inl m), (2, .inl w), (3, .inl k)], [.inl m, .inr (.inr (.inl (some 80)))], (am_mm D (am_wp uC I Q223) J (am_up ρ 71 1 (some 2))))) rfl ?_
                    refine am_e_aaload (m := 6) (c := 23) rfl rfl (by decide) (by omega) (by omega) (by omega) ?_
                    rw [show ((am_mm D (am_wp uC I Q223) J (am_up ρ 71 1 (some 2)))).2.2.2 80 (m).toNat = some (81 + (m).toNat) from (am_r80 (ρ := am_up ρ 71 1 (some 2)) (by omega))]
                    show am_E _ _ _ 100 [(0, .inr (.inr (.inl (some 0)))), (1, .inl m), (2, .inl w), (3, .inl k)] [.inr (.inr (.inl (some (81 + (m).toNat))))] (am_mm D (am_wp uC I Q223) J (am_up ρ 71 1 (some 2))) _
                    refine am_e_ss 1 (q := (101, [(0, .inr (.inr (.inl (some 0)))), (1, .inl m), (2, .inl w), (3, .inl k)], [.inl k, .inr (.inr (.inl (some (81 + (m).toNat))))], (am_mm D (am_wp uC I Q223) J (am_up ρ 71 1 (some 2))))) rfl ?_
                    refine am_e_iaload (m := 6) rfl (am_k81 (by omega)) (by omega) (by omega) (by omega) ?_
                    show am_E _ _ _ 102 [(0, .inr (.inr (.inl (some 0)))), (1, .inl m), (2, .inl w), (3, .inl k)] [.inl (((am_wp uC I Q223) (81 + (m).toNat) (k).toNat))] (am_mm D (am_wp uC I Q223) J (am_up ρ 71 1 (some 2))) _
                    refine am_e_ireturn rfl rfl ?_
                    have ol := sp_ord_len (S := S) (m := m.toNat)
                    have sl := sp_says_len (S := S) (m := m.toNat)
                    have ev : sp_order S m w k = ((am_wp uC I Q223) (81 + (m).toNat) (k).toNat) := by
                      unfold sp_order sp_get
                      rw [if_neg (by omega), if_neg (by omega), if_neg (by omega)]
                      have hn : ¬ sp_says S m.toNat = [] := by
                        intro hL
                        have h : sp_spk (sp_vl S 0) (S 19).toNat m.toNat = true := by assumption
                        unfold sp_spk at h
                        rw [show sp_vl S 0 m.toNat = sp_says S m.toNat from rfl, hL] at h
                        simp at h
                      have hlp := List.length_pos_iff.mpr hn
                      rw [if_neg (by omega), List.getElem?_eq_getElem (show k.toNat < (sp_says S m.toNat).length by omega)]
                      have hr := am_rowl_d (hvoiK.2.1 m.toNat (by omega) hn) (show k.toNat < (sp_says S m.toNat).length by omega)
                      rw [hr]
                      show (((sp_says S m.toNat)[k.toNat] : Nat) : Int) = (((sp_says S m.toNat).getD k.toNat 0 : Nat) : Int)
                      rw [am_getD (show k.toNat < (sp_says S m.toNat).length by omega)]
                    rw [ev]
                    exact ⟨_, (am_up ρ 71 1 (some 2)), am_r_wp uZ (am_k_wp (uC_uZ) (am_k_id)), fun k j hk => if_neg (by omega)⟩
                  · show am_E _ _ _ 77 [(0, .inr (.inr (.inl (some 0)))), (1, .inl m), (2, .inl w), (3, .inl k)] [] (am_mm D (am_wp uC I Q223) J (am_up ρ 71 1 (some 2))) _
                    refine am_e_ss 4 (q := (85, [(0, .inr (.inr (.inl (some 0)))), (1, .inl m), (2, .inl w), (3, .inl k)], [.inl m, .inr (.inr (.inl (some 73)))], (am_mm D (am_wp uC I Q223) J (am_up ρ 71 1 (some 2))))) rfl ?_
                    refine am_e_aaload (m := 6) (c := 23) rfl rfl (by decide) (by omega) (by omega) (by omega) ?_
                    rw [show ((am_mm D (am_wp uC I Q223) J (am_up ρ 71 1 (some 2)))).2.2.2 73 (m).toNat = some (74 + (m).toNat) from (am_r73 (ρ := am_up ρ 71 1 (some 2)) (by omega))]
                    show am_E _ _ _ 86 [(0, .inr (.inr (.inl (some 0)))), (1, .inl m), (2, .inl w), (3, .inl k)] [.inr (.inr (.inl (some (74 + (m).toNat))))] (am_mm D (am_wp uC I Q223) J (am_up ρ 71 1 (some 2))) _
                    refine am_e_ss 1 (q := (87, [(0, .inr (.inr (.inl (some 0)))), (1, .inl m), (2, .inl w), (3, .inl k)], [.inl k, .inr (.inr (.inl (some (74 + (m).toNat))))], (am_mm D (am_wp uC I Q223) J (am_up ρ 71 1 (some 2))))) rfl ?_
                    refine am_e_iaload (m := 6) rfl (am_k74 (by omega)) (by omega) (by omega) (by omega) ?_
                    show am_E _ _ _ 88 [(0, .inr (.inr (.inl (some 0)))), (1, .inl m), (2, .inl w), (3, .inl k)] [.inl (((am_wp uC I Q223) (74 + (m).toNat) (k).toNat))] (am_mm D (am_wp uC I Q223) J (am_up ρ 71 1 (some 2))) _
                    refine am_e_ss 1 (q := (102, [(0, .inr (.inr (.inl (some 0)))), (1, .inl m), (2, .inl w), (3, .inl k)], [.inl (((am_wp uC I Q223) (74 + (m).toNat) (k).toNat))], (am_mm D (am_wp uC I Q223) J (am_up ρ 71 1 (some 2))))) rfl ?_
                    refine am_e_ireturn rfl rfl ?_
                    have ol := sp_ord_len (S := S) (m := m.toNat)
                    have sl := sp_says_len (S := S) (m := m.toNat)
                    have ev : sp_order S m w k = ((am_wp uC I Q223) (74 + (m).toNat) (k).toNat) := by
                      unfold sp_order sp_get
                      rw [if_neg (by omega), if_neg (by omega), if_neg (by omega)]
                      rw [if_pos (by omega), List.getElem?_eq_getElem (show k.toNat < (sp_ord S m.toNat).length by omega)]
                      have hr := am_rowl_d (hordK.2.2 m.toNat (by omega)) (show k.toNat < (sp_ord S m.toNat).length by omega)
                      rw [hr, am_getD]
                    rw [ev]
                    exact ⟨_, (am_up ρ 71 1 (some 2)), am_r_wp uZ (am_k_wp (uC_uZ) (am_k_id)), fun k j hk => if_neg (by omega)⟩
                · show am_E _ _ _ 70 [(0, .inr (.inr (.inl (some 0)))), (1, .inl m), (2, .inl w), (3, .inl k)] [] (am_mm D (am_wp uC I Q223) J (am_up ρ 71 1 (some 2))) _
                  refine am_e_ss 1 (q := (72, [(0, .inr (.inr (.inl (some 0)))), (1, .inl m), (2, .inl w), (3, .inl k)], [.inl (-5)], (am_mm D (am_wp uC I Q223) J (am_up ρ 71 1 (some 2))))) rfl ?_
                  refine am_e_ireturn rfl rfl ?_
                  have ol := sp_ord_len (S := S) (m := m.toNat)
                  have sl := sp_says_len (S := S) (m := m.toNat)
                  have ev : sp_order S m w k = (-5) := by
                    unfold sp_order sp_get
                    rw [if_neg (by omega), if_neg (by omega), if_neg (by omega)]
                    have hn : sp_says S m.toNat = [] := by
                      cases hL : sp_says S m.toNat with
                      | nil => rfl
                      | cons a r => exact absurd (show sp_spk (sp_vl S 0) (S 19).toNat m.toNat = true by (unfold sp_spk; rw [show sp_vl S 0 m.toNat = sp_says S m.toNat from rfl, hL]; simp; omega)) (by assumption)
                    rw [if_neg (by omega), hn]
                    rfl
                  rw [ev]
                  exact ⟨_, (am_up ρ 71 1 (some 2)), am_r_wp uZ (am_k_wp (uC_uZ) (am_k_id)), fun k j hk => if_neg (by omega)⟩
          · show am_E _ _ _ 27 [(0, .inr (.inr (.inl (some 0)))), (1, .inl m), (2, .inl w), (3, .inl k)] [] (am_mm D I J ρ) _
            refine am_e_ss 1 (q := (28, [(0, .inr (.inr (.inl (some 0)))), (1, .inl m), (2, .inl w), (3, .inl k)], [.inl (-1)], (am_mm D I J ρ))) rfl ?_
            refine am_e_ireturn rfl rfl ?_
            rw [show sp_order S m w k = -1 by (unfold sp_order; (repeat' split) <;> first | rfl | (exfalso; omega))]
            exact ⟨I, ρ, am_r_wp uZ am_k_id, fun _ _ _ => rfl⟩
theorem c_chosen {X : Nat × (Nat → Int)} {D : List (Nat × Nat)} {I J : Nat → Nat → Int} {ρ : Nat → Nat → Option Nat} (d : Nat) {S : Nat → Int} {B : Int} (hok : r_ok S B) (hwf : sp_wfS S) (hh : c_hall D I ρ 0 S) {way w : Int} (hway : -2147483648 ≤ way ∧ way < 2147483648) (hw : -2147483648 ≤ w ∧ w < 2147483648) : am_E X (d + 5) 99 0 [(0, .inr (.inr (.inl (some 0)))), (1, .inl way), (2, .inl w)] [] (am_mm D I J ρ) (fun q => ∃ Q ρ2, q = (some (.inl (sp_chosen S way w)), am_mm D (am_wp uZ I Q) J ρ2) ∧ ∀ k j, k ≠ 71 → ρ2 k j = ρ k j) := by
  have hh0 := hh
  obtain ⟨⟨h12, h14, h16, h18, h110⟩, ⟨hr0, hhr, hhd, hgl⟩, ⟨htp, hhn⟩, hbk, hlo, hmem, c, hρc, ⟨hsc0, hcc, hc0, hcs⟩⟩ := hh
  have hsc : (am_S ++ D)[c]? = some (1, 10) := hsc0.1.1
  have h12 : I 1 2 = S 19 := h12
  have h14 : I 1 4 = S 20 := h14
  have h16 : I 1 6 = S 21 := h16
  have h18 : I 1 8 = S 23 := h18
  have h110 : I 1 10 = S 22 := h110
  have hr0 : I 2 0 = S 0 := hr0
  have hhr : I 2 1 = am_bits (sp_hp S) 6 := hhr
  have hhd : I 2 2 = am_bits (sp_dp S) 6 := hhd
  have hgl : ∀ m, m < (S 19).toNat → I 3 m = S (1 + m) := hgl
  have htp : ∀ i, i < (S 23).toNat → I 17 i = S (68 + i) := htp
  have hhn : ∀ i, i < (S 22).toNat → I 18 i = S (62 + i) := hhn
  have hbk : ∀ b, b < (S 20).toNat → I (6 + b) 0 = S (38 + b) ∧ I (6 + b) 1 = S (44 + b) ∧ I (6 + b) 2 = S (50 + b) ∧ I (6 + b) 3 = S (56 + b) := hbk
  have hlo : ∀ m b : Nat, m < (S 19).toNat → b < (S 20).toNat → I (20 + m) b = sp_like S m b ∧ I (27 + m) b = sp_odds S m b := hlo
  have hmem : c_mems D I ρ 4 S := hmem
  have hρc : ρ 1 5 = some c := hρc
  have hh := hh0
  have h19 := r_ok_19 hok
  have hokx := hok
  obtain ⟨o0, oG, oH, oD, o19, o20, o21, o22, o23, o24, oK, oV, oP, oM, oS, oY, oHd, oT, oC, oN⟩ := hok
  have hok := hokx
  have ob := sp_ops_b hok
  refine am_e_ss 1 (q := (1, [(0, .inr (.inr (.inl (some 0)))), (1, .inl way), (2, .inl w)], [.inl way], (am_mm D I J ρ))) rfl ?_
  refine am_e_static (Q := fun r => r = (some (.inl ((am_bi (0 ≤ way ∧ way ≤ 5)))), (am_mm D I J ρ))) rfl (Nat.le_of_ble_eq_true rfl) rfl (Nat.le_of_ble_eq_true rfl) (Nat.le_of_ble_eq_true rfl) (c_isWay _ (v := way) ⟨by omega, by omega⟩) ?_
  rintro r rfl
  show am_E _ _ _ 4 [(0, .inr (.inr (.inl (some 0)))), (1, .inl way), (2, .inl w)] [.inl ((am_bi (0 ≤ way ∧ way ≤ 5)))] (am_mm D I J ρ) _
  refine am_e_ifeq rfl (fun hw1 => ?_) (fun hw1 => ?_)
  · show am_E _ _ _ 16 [(0, .inr (.inr (.inl (some 0)))), (1, .inl way), (2, .inl w)] [] (am_mm D I J ρ) _
    refine am_e_ss 1 (q := (17, [(0, .inr (.inr (.inl (some 0)))), (1, .inl way), (2, .inl w)], [.inl (-1)], (am_mm D I J ρ))) rfl ?_
    refine am_e_ireturn rfl rfl ?_
    rw [show sp_chosen S way w = -1 by (unfold sp_chosen; (repeat' split) <;> first | rfl | (exfalso; omega))]
    exact ⟨I, ρ, am_r_wp uZ am_k_id, fun _ _ _ => rfl⟩
  · show am_E _ _ _ 7 [(0, .inr (.inr (.inl (some 0)))), (1, .inl way), (2, .inl w)] [] (am_mm D I J ρ) _
    refine am_e_ss 1 (q := (8, [(0, .inr (.inr (.inl (some 0)))), (1, .inl way), (2, .inl w)], [.inl w], (am_mm D I J ρ))) rfl ?_
    refine am_e_if2 rfl ⟨by omega, by omega⟩ (fun (hw2 : w < 0) => ?_) (fun (hw2 : ¬ (w < 0)) => ?_)
    · show am_E _ _ _ 16 [(0, .inr (.inr (.inl (some 0)))), (1, .inl way), (2, .inl w)] [] (am_mm D I J ρ) _
      refine am_e_ss 1 (q := (17, [(0, .inr (.inr (.inl (some 0)))), (1, .inl way), (2, .inl w)], [.inl (-1)], (am_mm D I J ρ))) rfl ?_
      refine am_e_ireturn rfl rfl ?_
      rw [show sp_chosen S way w = -1 by (unfold sp_chosen; (repeat' split) <;> first | rfl | (exfalso; omega))]
      exact ⟨I, ρ, am_r_wp uZ am_k_id, fun _ _ _ => rfl⟩
    · show am_E _ _ _ 11 [(0, .inr (.inr (.inl (some 0)))), (1, .inl way), (2, .inl w)] [] (am_mm D I J ρ) _
      refine am_e_ss 2 (q := (13, [(0, .inr (.inr (.inl (some 0)))), (1, .inl way), (2, .inl w)], [.inl 1, .inl w], (am_mm D I J ρ))) rfl ?_
      refine am_e_icmp2 rfl ⟨by omega, by omega⟩ ⟨by omega, by omega⟩ (fun (hw3 : w ≤ 1) => ?_) (fun (hw3 : ¬ (w ≤ 1)) => ?_)
      · show am_E _ _ _ 18 [(0, .inr (.inr (.inl (some 0)))), (1, .inl way), (2, .inl w)] [] (am_mm D I J ρ) _
        refine am_e_ss 5 (q := (29, [(0, .inr (.inr (.inl (some 0)))), (1, .inl way), (2, .inl w)], [.inr (.inr (.inl (some 2))), .inr (.inr (.inl (some 71)))], (am_mm D I J ρ))) rfl ?_
        refine am_e_virtual (Q := fun r => ∃ Q224, r = (none, (am_mm D (am_wp uC I Q224) J (am_up ρ 71 1 (some 2)))) ∧ c_ords Q224 S ∧ c_voi Q224 (sp_vl S 0) (S 19).toNat) rfl rfl (Nat.le_of_ble_eq_true rfl) rfl rfl (Nat.le_of_ble_eq_true rfl) (Nat.le_of_ble_eq_true rfl) (c_collect_2 _ hok (c_hall_vh hok hh) hwf) ?_
        rintro r ⟨Q224, rfl, ⟨hord, hvoi⟩⟩
        show am_E _ _ _ 32 [(0, .inr (.inr (.inl (some 0)))), (1, .inl way), (2, .inl w)] [] (am_mm D (am_wp uC I Q224) J (am_up ρ 71 1 (some 2))) _
        have hordK : c_ords (am_wp uC I Q224) S := ⟨hord.1, hord.2.1, fun j hj => am_rowl_cg (hord.2.2 j hj) (fun i _ => am_wp_in (show uC (74 + j) _ = true from (by rcases (show j = 0 ∨ j = 1 ∨ j = 2 ∨ j = 3 ∨ j = 4 ∨ j = 5 by omega) with rfl | rfl | rfl | rfl | rfl | rfl <;> rfl)))⟩
        have hvoiK : c_voi (am_wp uC I Q224) (sp_vl S 0) (S 19).toNat := ⟨hvoi.1, fun j hj hn => am_rowl_cg (hvoi.2.1 j hj hn) (fun i _ => am_wp_in (show uC (81 + j) _ = true from (by rcases (show j = 0 ∨ j = 1 ∨ j = 2 ∨ j = 3 ∨ j = 4 ∨ j = 5 by omega) with rfl | rfl | rfl | rfl | rfl | rfl <;> rfl))), hvoi.2.2.1, fun a b ha hb => (am_wp_in (show uC (91 + a) b = true from (by rcases (show a = 0 ∨ a = 1 ∨ a = 2 ∨ a = 3 ∨ a = 4 ∨ a = 5 by omega) with rfl | rfl | rfl | rfl | rfl | rfl <;> rfl))).trans (hvoi.2.2.2 a b ha hb)⟩
        have hhK : c_hall D (am_wp uC I Q224) (am_up ρ 71 1 (some 2)) 0 S := c_hall_cg hok (Or.inl rfl) hh (fun c i hc => am_wp_off (show uC c i = false from (by cases e : uC c i with | false => rfl | true => exact absurd (uZ_fx hc) (by rw [uC_uZ c i e]; decide)))) (fun k j hk => if_neg (by omega))
        have hvhK := c_hall_vh hok hhK
        refine am_e_ss 2 (q := (34, [(0, .inr (.inr (.inl (some 0)))), (1, .inl way), (2, .inl w)], [.inl 1, .inl w], (am_mm D (am_wp uC I Q224) J (am_up ρ 71 1 (some 2))))) rfl ?_
        refine am_e_icmp2 rfl ⟨by omega, by omega⟩ ⟨by omega, by omega⟩ (fun (hw4 : ¬ w = 1) => ?_) (fun (hw4 : ¬ (¬ w = 1)) => ?_)
        · show am_E _ _ _ 44 [(0, .inr (.inr (.inl (some 0)))), (1, .inl way), (2, .inl w)] [] (am_mm D (am_wp uC I Q224) J (am_up ρ 71 1 (some 2))) _
          refine am_e_ss 3 (q := (49, [(0, .inr (.inr (.inl (some 0)))), (1, .inl way), (2, .inl w)], [.inl way, .inr (.inr (.inl (some 71)))], (am_mm D (am_wp uC I Q224) J (am_up ρ 71 1 (some 2))))) rfl ?_
          refine am_e_virtual (Q := fun r => r = (some (.inl ((sp_cho S (sp_vl S 0) way))), (am_mm D (am_wp uC I Q224) J (am_up ρ 71 1 (some 2))))) rfl rfl (Nat.le_of_ble_eq_true rfl) rfl rfl (Nat.le_of_ble_eq_true rfl) (Nat.le_of_ble_eq_true rfl) (c_pick_2 _ (VL := sp_vl S 0) hok hordK (fun _ => hvoiK) sp_vl_vcs ⟨by omega, by omega⟩ (if_pos ⟨rfl, rfl⟩) h12 hr0 hhr) ?_
          rintro r rfl
          show am_E _ _ _ 52 [(0, .inr (.inr (.inl (some 0)))), (1, .inl way), (2, .inl w)] [.inl ((sp_cho S (sp_vl S 0) way))] (am_mm D (am_wp uC I Q224) J (am_up ρ 71 1 (some 2))) _
          refine am_e_ireturn rfl rfl ?_
          rw [show sp_chosen S way w = sp_cho S (sp_vl S 0) way by (unfold sp_chosen; rw [if_neg (by omega), if_neg (by omega), show w = 0 by omega])]
          exact ⟨_, (am_up ρ 71 1 (some 2)), am_r_wp uZ (am_k_wp (uC_uZ) (am_k_id)), fun k j hk => if_neg (by omega)⟩
        · show am_E _ _ _ 37 [(0, .inr (.inr (.inl (some 0)))), (1, .inl way), (2, .inl w)] [] (am_mm D (am_wp uC I Q224) J (am_up ρ 71 1 (some 2))) _
          refine am_e_ss 2 (q := (41, [(0, .inr (.inr (.inl (some 0)))), (1, .inl way), (2, .inl w)], [.inr (.inr (.inl (some 71)))], (am_mm D (am_wp uC I Q224) J (am_up ρ 71 1 (some 2))))) rfl ?_
          refine am_e_virtual (Q := fun r => ∃ Q225, r = (none, (am_mm D (am_wp uV (am_wp uC I Q224) Q225) J (am_up ρ 71 1 (some 2)))) ∧ (¬ sp_ops S = 0 → c_voi Q225 (sp_vl S 1) (S 19).toNat)) rfl rfl (Nat.le_of_ble_eq_true rfl) rfl rfl (Nat.le_of_ble_eq_true rfl) (Nat.le_of_ble_eq_true rfl) (c_speakTrue_2 _ hok (if_pos ⟨rfl, rfl⟩) hvhK hordK) ?_
          rintro r ⟨Q225, rfl, hvt⟩
          show am_E _ _ _ 44 [(0, .inr (.inr (.inl (some 0)))), (1, .inl way), (2, .inl w)] [] (am_mm D (am_wp uV (am_wp uC I Q224) Q225) J (am_up ρ 71 1 (some 2))) _
          have hordT : c_ords (am_wp uV (am_wp uC I Q224) Q225) S := ⟨hord.1, hord.2.1, fun j hj => am_rowl_cg (hordK.2.2 j hj) (fun i _ => am_wp_off (show uV (74 + j) _ = false from (by rcases (show j = 0 ∨ j = 1 ∨ j = 2 ∨ j = 3 ∨ j = 4 ∨ j = 5 by omega) with rfl | rfl | rfl | rfl | rfl | rfl <;> rfl)))⟩
          have hvoiT : ¬ sp_ops S = 0 → c_voi (am_wp uV (am_wp uC I Q224) Q225) (sp_vl S 1) (S 19).toNat := fun ho => ⟨(hvt ho).1, fun j hj hn => am_rowl_cg ((hvt ho).2.1 j hj hn) (fun i _ => am_wp_in (show uV (81 + j) _ = true from (by rcases (show j = 0 ∨ j = 1 ∨ j = 2 ∨ j = 3 ∨ j = 4 ∨ j = 5 by omega) with rfl | rfl | rfl | rfl | rfl | rfl <;> rfl))), (hvt ho).2.2.1, fun a b ha hb => (am_wp_in (show uV (91 + a) b = true from (by rcases (show a = 0 ∨ a = 1 ∨ a = 2 ∨ a = 3 ∨ a = 4 ∨ a = 5 by omega) with rfl | rfl | rfl | rfl | rfl | rfl <;> rfl))).trans ((hvt ho).2.2.2 a b ha hb)⟩
          refine am_e_ss 3 (q := (49, [(0, .inr (.inr (.inl (some 0)))), (1, .inl way), (2, .inl w)], [.inl way, .inr (.inr (.inl (some 71)))], (am_mm D (am_wp uV (am_wp uC I Q224) Q225) J (am_up ρ 71 1 (some 2))))) rfl ?_
          refine am_e_virtual (Q := fun r => r = (some (.inl ((sp_cho S (sp_vl S 1) way))), (am_mm D (am_wp uV (am_wp uC I Q224) Q225) J (am_up ρ 71 1 (some 2))))) rfl rfl (Nat.le_of_ble_eq_true rfl) rfl rfl (Nat.le_of_ble_eq_true rfl) (Nat.le_of_ble_eq_true rfl) (c_pick_2 _ (VL := sp_vl S 1) hok hordT hvoiT sp_vl_vcs ⟨by omega, by omega⟩ (if_pos ⟨rfl, rfl⟩) h12 hr0 hhr) ?_
          rintro r rfl
          show am_E _ _ _ 52 [(0, .inr (.inr (.inl (some 0)))), (1, .inl way), (2, .inl w)] [.inl ((sp_cho S (sp_vl S 1) way))] (am_mm D (am_wp uV (am_wp uC I Q224) Q225) J (am_up ρ 71 1 (some 2))) _
          refine am_e_ireturn rfl rfl ?_
          rw [show sp_chosen S way w = sp_cho S (sp_vl S 1) way by (unfold sp_chosen; rw [if_neg (by omega), if_neg (by omega), show w = 1 by omega])]
          exact ⟨_, (am_up ρ 71 1 (some 2)), am_r_wp uZ (am_k_wp (uV_uZ) (am_k_wp (uC_uZ) (am_k_id))), fun k j hk => if_neg (by omega)⟩
      · show am_E _ _ _ 16 [(0, .inr (.inr (.inl (some 0)))), (1, .inl way), (2, .inl w)] [] (am_mm D I J ρ) _
        refine am_e_ss 1 (q := (17, [(0, .inr (.inr (.inl (some 0)))), (1, .inl way), (2, .inl w)], [.inl (-1)], (am_mm D I J ρ))) rfl ?_
        refine am_e_ireturn rfl rfl ?_
        rw [show sp_chosen S way w = -1 by (unfold sp_chosen; (repeat' split) <;> first | rfl | (exfalso; omega))]
        exact ⟨I, ρ, am_r_wp uZ am_k_id, fun _ _ _ => rfl⟩
theorem c_tellI {X : Nat × (Nat → Int)} {D : List (Nat × Nat)} {I J : Nat → Nat → Int} {ρ : Nat → Nat → Option Nat} (d : Nat) {S : Nat → Int} {B way g z : Int} {VL : Nat → List Nat} (hok : r_ok S B) (hwf : sp_wfS S) (hm : 0 ≤ z ∧ z < S 19) (hh : S (7 + z.toNat) = 0) (hway : 0 ≤ way ∧ way ≤ 5) (hg : g = 0 ∨ g = 1) (h5 : sp_ops S ≤ 5) (h71 : ρ 71 1 = some 2) (h12 : I 1 2 = S 19) (hr0 : I 2 0 = S 0) (hhr : I 2 1 = am_bits (sp_hp S) 6) (hlk : ∀ b : Nat, b < (S 20).toNat → I (20 + z.toNat) b = sp_like S (z.toNat : Int) b) (hord : c_ords I S) (hv : sp_vcs S VL) (hvoi : c_voi I VL (S 19).toNat) : am_E X (d + 5) 82 0 [(0, .inr (.inr (.inl (some 71)))), (1, .inl z), (2, .inl way), (3, .inl g)] [] (am_mm D I J ρ) (fun r => ∃ Q, r = (some (.inl (if sp_ops S = 0 then -5 else sp_ff1 g (sp_cho S VL way) (fun x => sp_like S (z.toNat : Int) x) (fun p => sp_cho S (sp_set VL z.toNat p) way) (sp_pl2 S (sp_ops S).toNat []))), am_mm D (am_wp uW I Q) J ρ) ∧ c_voi Q VL (S 19).toNat) := by
  obtain ⟨m, rfl⟩ : ∃ m : Nat, z = (m : Int) := ⟨z.toNat, by omega⟩
  exact c_tellM d hok hwf (by omega) hh hway hg h5 h71 h12 hr0 hhr hlk hord hv hvoi
theorem c_gain {X : Nat × (Nat → Int)} {D : List (Nat × Nat)} {I J : Nat → Nat → Int} {ρ : Nat → Nat → Option Nat} (d : Nat) {S : Nat → Int} {B : Int} (hok : r_ok S B) (hwf : sp_wfS S) (hh : c_hall D I ρ 0 S) {m way : Int} (hm : -2147483648 ≤ m ∧ m < 2147483648) (hway : -2147483648 ≤ way ∧ way < 2147483648) : am_E X (d + 6) 101 0 [(0, .inr (.inr (.inl (some 0)))), (1, .inl m), (2, .inl way)] [] (am_mm D I J ρ) (fun q => ∃ Q ρ2, q = (some (.inl (sp_gain S m way)), am_mm D (am_wp uZ I Q) J ρ2) ∧ ∀ k j, k ≠ 71 → ρ2 k j = ρ k j) := by
  have hh0 := hh
  obtain ⟨⟨h12, h14, h16, h18, h110⟩, ⟨hr0, hhr, hhd, hgl⟩, ⟨htp, hhn⟩, hbk, hlo, hmem, c, hρc, ⟨hsc0, hcc, hc0, hcs⟩⟩ := hh
  have hsc : (am_S ++ D)[c]? = some (1, 10) := hsc0.1.1
  have h12 : I 1 2 = S 19 := h12
  have h14 : I 1 4 = S 20 := h14
  have h16 : I 1 6 = S 21 := h16
  have h18 : I 1 8 = S 23 := h18
  have h110 : I 1 10 = S 22 := h110
  have hr0 : I 2 0 = S 0 := hr0
  have hhr : I 2 1 = am_bits (sp_hp S) 6 := hhr
  have hhd : I 2 2 = am_bits (sp_dp S) 6 := hhd
  have hgl : ∀ m, m < (S 19).toNat → I 3 m = S (1 + m) := hgl
  have htp : ∀ i, i < (S 23).toNat → I 17 i = S (68 + i) := htp
  have hhn : ∀ i, i < (S 22).toNat → I 18 i = S (62 + i) := hhn
  have hbk : ∀ b, b < (S 20).toNat → I (6 + b) 0 = S (38 + b) ∧ I (6 + b) 1 = S (44 + b) ∧ I (6 + b) 2 = S (50 + b) ∧ I (6 + b) 3 = S (56 + b) := hbk
  have hlo : ∀ m b : Nat, m < (S 19).toNat → b < (S 20).toNat → I (20 + m) b = sp_like S m b ∧ I (27 + m) b = sp_odds S m b := hlo
  have hmem : c_mems D I ρ 4 S := hmem
  have hρc : ρ 1 5 = some c := hρc
  have hh := hh0
  have h19 := r_ok_19 hok
  have hokx := hok
  obtain ⟨o0, oG, oH, oD, o19, o20, o21, o22, o23, o24, oK, oV, oP, oM, oS, oY, oHd, oT, oC, oN⟩ := hok
  have hok := hokx
  have ob := sp_ops_b hok
  refine am_e_ss 2 (q := (2, [(0, .inr (.inr (.inl (some 0)))), (1, .inl m), (2, .inl way)], [.inl m, .inr (.inr (.inl (some 0)))], (am_mm D I J ρ))) rfl ?_
  refine am_e_virtual (Q := fun r => r = (some (.inl ((am_bi (0 ≤ m ∧ m ≤ S 19 - 1)))), (am_mm D I J ρ))) rfl rfl (Nat.le_of_ble_eq_true rfl) rfl rfl (Nat.le_of_ble_eq_true rfl) (Nat.le_of_ble_eq_true rfl) (c_isMember _ (v := m) hok ⟨by omega, by omega⟩ h12) ?_
  rintro r rfl
  show am_E _ _ _ 5 [(0, .inr (.inr (.inl (some 0)))), (1, .inl m), (2, .inl way)] [.inl ((am_bi (0 ≤ m ∧ m ≤ S 19 - 1)))] (am_mm D I J ρ) _
  refine am_e_ifeq rfl (fun hw1 => ?_) (fun hw1 => ?_)
  · show am_E _ _ _ 15 [(0, .inr (.inr (.inl (some 0)))), (1, .inl m), (2, .inl way)] [] (am_mm D I J ρ) _
    refine am_e_ss 1 (q := (16, [(0, .inr (.inr (.inl (some 0)))), (1, .inl m), (2, .inl way)], [.inl (-1)], (am_mm D I J ρ))) rfl ?_
    refine am_e_ireturn rfl rfl ?_
    rw [show sp_gain S m way = (-1) by (unfold sp_gain; (repeat' split) <;> first | rfl | (exfalso; omega))]
    exact ⟨I, ρ, am_r_wp uZ am_k_id, fun _ _ _ => rfl⟩
  · show am_E _ _ _ 8 [(0, .inr (.inr (.inl (some 0)))), (1, .inl m), (2, .inl way)] [] (am_mm D I J ρ) _
    refine am_e_ss 1 (q := (9, [(0, .inr (.inr (.inl (some 0)))), (1, .inl m), (2, .inl way)], [.inl way], (am_mm D I J ρ))) rfl ?_
    refine am_e_static (Q := fun r => r = (some (.inl ((am_bi (0 ≤ way ∧ way ≤ 5)))), (am_mm D I J ρ))) rfl (Nat.le_of_ble_eq_true rfl) rfl (Nat.le_of_ble_eq_true rfl) (Nat.le_of_ble_eq_true rfl) (c_isWay _ (v := way) ⟨by omega, by omega⟩) ?_
    rintro r rfl
    show am_E _ _ _ 12 [(0, .inr (.inr (.inl (some 0)))), (1, .inl m), (2, .inl way)] [.inl ((am_bi (0 ≤ way ∧ way ≤ 5)))] (am_mm D I J ρ) _
    refine am_e_ifne rfl (fun hw2 => ?_) (fun hw2 => ?_)
    · show am_E _ _ _ 17 [(0, .inr (.inr (.inl (some 0)))), (1, .inl m), (2, .inl way)] [] (am_mm D I J ρ) _
      refine am_e_ss 4 (q := (25, [(0, .inr (.inr (.inl (some 0)))), (1, .inl m), (2, .inl way)], [.inl m, .inr (.inr (.inl (some 2)))], (am_mm D I J ρ))) rfl ?_
      refine am_e_virtual (Q := fun r => r = (some (.inl ((am_bi (sp_hp S (m).toNat = true)))), (am_mm D I J ρ))) rfl rfl (Nat.le_of_ble_eq_true rfl) rfl rfl (Nat.le_of_ble_eq_true rfl) (Nat.le_of_ble_eq_true rfl) (c_isHereI_2 _ (p := sp_hp S) hhr ⟨by omega, by omega⟩) ?_
      rintro r rfl
      show am_E _ _ _ 28 [(0, .inr (.inr (.inl (some 0)))), (1, .inl m), (2, .inl way)] [.inl ((am_bi (sp_hp S (m).toNat = true)))] (am_mm D I J ρ) _
      refine am_e_ifne rfl (fun hw3 => ?_) (fun hw3 => ?_)
      · show am_E _ _ _ 34 [(0, .inr (.inr (.inl (some 0)))), (1, .inl m), (2, .inl way)] [] (am_mm D I J ρ) _
        have hhz : S (7 + (m).toNat) = 0 := (sp_hp_t.mp (by assumption)).2
        have hhz2 : S (7 + m).toNat = 0 := by rw [← show 7 + (m).toNat = (7 + m).toNat by omega]; exact hhz
        refine am_e_ss 5 (q := (45, [(0, .inr (.inr (.inl (some 0)))), (1, .inl m), (2, .inl way)], [.inr (.inr (.inl (some 2))), .inr (.inr (.inl (some 71)))], (am_mm D I J ρ))) rfl ?_
        refine am_e_virtual (Q := fun r => ∃ Q226, r = (none, (am_mm D (am_wp uC I Q226) J (am_up ρ 71 1 (some 2)))) ∧ c_ords Q226 S ∧ c_voi Q226 (sp_vl S 0) (S 19).toNat) rfl rfl (Nat.le_of_ble_eq_true rfl) rfl rfl (Nat.le_of_ble_eq_true rfl) (Nat.le_of_ble_eq_true rfl) (c_collect_2 _ hok (c_hall_vh hok hh) hwf) ?_
        rintro r ⟨Q226, rfl, ⟨hord, hvoi⟩⟩
        show am_E _ _ _ 48 [(0, .inr (.inr (.inl (some 0)))), (1, .inl m), (2, .inl way)] [] (am_mm D (am_wp uC I Q226) J (am_up ρ 71 1 (some 2))) _
        have hordK : c_ords (am_wp uC I Q226) S := ⟨hord.1, hord.2.1, fun j hj => am_rowl_cg (hord.2.2 j hj) (fun i _ => am_wp_in (show uC (74 + j) _ = true from (by rcases (show j = 0 ∨ j = 1 ∨ j = 2 ∨ j = 3 ∨ j = 4 ∨ j = 5 by omega) with rfl | rfl | rfl | rfl | rfl | rfl <;> rfl)))⟩
        have hvoiK : c_voi (am_wp uC I Q226) (sp_vl S 0) (S 19).toNat := ⟨hvoi.1, fun j hj hn => am_rowl_cg (hvoi.2.1 j hj hn) (fun i _ => am_wp_in (show uC (81 + j) _ = true from (by rcases (show j = 0 ∨ j = 1 ∨ j = 2 ∨ j = 3 ∨ j = 4 ∨ j = 5 by omega) with rfl | rfl | rfl | rfl | rfl | rfl <;> rfl))), hvoi.2.2.1, fun a b ha hb => (am_wp_in (show uC (91 + a) b = true from (by rcases (show a = 0 ∨ a = 1 ∨ a = 2 ∨ a = 3 ∨ a = 4 ∨ a = 5 by omega) with rfl | rfl | rfl | rfl | rfl | rfl <;> rfl))).trans (hvoi.2.2.2 a b ha hb)⟩
        have ho3 := hord.1
        refine am_e_ss 4 (q := (56, [(0, .inr (.inr (.inl (some 0)))), (1, .inl m), (2, .inl way)], [.inl 5, .inl ((Q226 71 3))], (am_mm D (am_wp uC I Q226) J (am_up ρ 71 1 (some 2))))) rfl ?_
        refine am_e_icmp2 rfl ⟨by omega, by omega⟩ ⟨by omega, by omega⟩ (fun (hw4 : (Q226 71 3) ≤ 5) => ?_) (fun (hw4 : ¬ ((Q226 71 3) ≤ 5)) => ?_)
        · show am_E _ _ _ 62 [(0, .inr (.inr (.inl (some 0)))), (1, .inl m), (2, .inl way)] [] (am_mm D (am_wp uC I Q226) J (am_up ρ 71 1 (some 2))) _
          refine am_e_ss 5 (q := (69, [(0, .inr (.inr (.inl (some 0)))), (1, .inl m), (2, .inl way)], [.inl 1, .inl way, .inl m, .inr (.inr (.inl (some 71)))], (am_mm D (am_wp uC I Q226) J (am_up ρ 71 1 (some 2))))) rfl ?_
          refine am_e_virtual (Q := fun r => ∃ Q227, r = (some (.inl ((if sp_ops S = 0 then -5 else sp_ff1 1 (sp_cho S (sp_vl S 0) way) (fun x => sp_like S (((m).toNat : Nat) : Int) x) (fun p => sp_cho S (sp_set (sp_vl S 0) (m).toNat p) way) (sp_pl2 S (sp_ops S).toNat [])))), (am_mm D (am_wp uW (am_wp uC I Q226) Q227) J (am_up ρ 71 1 (some 2)))) ∧ c_voi Q227 (sp_vl S 0) (S 19).toNat) rfl rfl (Nat.le_of_ble_eq_true rfl) rfl rfl (Nat.le_of_ble_eq_true rfl) (Nat.le_of_ble_eq_true rfl) (c_tellI _ (VL := sp_vl S 0) hok hwf ⟨by omega, by omega⟩ hhz ⟨by omega, by omega⟩ (by omega) (by omega) (if_pos ⟨rfl, rfl⟩) h12 hr0 hhr (fun b hb => (am_wp_off (show uC (20 + (m).toNat) b = false from (by rcases (show (m).toNat = 0 ∨ (m).toNat = 1 ∨ (m).toNat = 2 ∨ (m).toNat = 3 ∨ (m).toNat = 4 ∨ (m).toNat = 5 by omega) with h | h | h | h | h | h <;> rw [h] <;> rfl))).trans (hlo (m).toNat b (by omega) hb).1) hordK sp_vl_vcs hvoiK) ?_
          rintro r ⟨Q227, rfl, hvoi2⟩
          show am_E _ _ _ 72 [(0, .inr (.inr (.inl (some 0)))), (1, .inl m), (2, .inl way)] [.inl ((if sp_ops S = 0 then -5 else sp_ff1 1 (sp_cho S (sp_vl S 0) way) (fun x => sp_like S (((m).toNat : Nat) : Int) x) (fun p => sp_cho S (sp_set (sp_vl S 0) (m).toNat p) way) (sp_pl2 S (sp_ops S).toNat [])))] (am_mm D (am_wp uW (am_wp uC I Q226) Q227) J (am_up ρ 71 1 (some 2))) _
          refine am_e_ireturn rfl rfl ?_
          rw [show sp_gain S m way = (sp_tell S m.toNat way).2 by (unfold sp_gain; rw [if_neg (by omega), if_neg (by omega), if_neg (by omega), if_neg (by omega)]), ← sp_tell_g hok (by omega) hhz]
          exact ⟨_, (am_up ρ 71 1 (some 2)), am_r_wp uZ (am_k_wp (uW_uZ) (am_k_wp (uC_uZ) (am_k_id))), fun k j hk => if_neg (by omega)⟩
        · show am_E _ _ _ 59 [(0, .inr (.inr (.inl (some 0)))), (1, .inl m), (2, .inl way)] [] (am_mm D (am_wp uC I Q226) J (am_up ρ 71 1 (some 2))) _
          refine am_e_ss 1 (q := (61, [(0, .inr (.inr (.inl (some 0)))), (1, .inl m), (2, .inl way)], [.inl (-9)], (am_mm D (am_wp uC I Q226) J (am_up ρ 71 1 (some 2))))) rfl ?_
          refine am_e_ireturn rfl rfl ?_
          rw [show sp_gain S m way = -9 by (unfold sp_gain; rw [if_neg (by omega), if_neg (by omega), if_neg (by omega), if_pos (by omega)])]
          exact ⟨_, (am_up ρ 71 1 (some 2)), am_r_wp uZ (am_k_wp (uC_uZ) (am_k_id)), fun k j hk => if_neg (by omega)⟩
      · show am_E _ _ _ 31 [(0, .inr (.inr (.inl (some 0)))), (1, .inl m), (2, .inl way)] [] (am_mm D I J ρ) _
        refine am_e_ss 1 (q := (33, [(0, .inr (.inr (.inl (some 0)))), (1, .inl m), (2, .inl way)], [.inl (-3)], (am_mm D I J ρ))) rfl ?_
        refine am_e_ireturn rfl rfl ?_
        have hp := sp_hp_t (S := S) (m := (m).toNat)
        have e7 : 7 + (m).toNat = (7 + m).toNat ∨ m < 0 := by omega
        have hn : ¬ S (7 + m).toNat = 0 := by
          intro h
          rw [← show 7 + (m).toNat = (7 + m).toNat by omega] at h
          exact absurd (hp.mpr ⟨by omega, h⟩) (by assumption)
        rw [show sp_gain S m way = (-3) by (unfold sp_gain; (repeat' split) <;> first | rfl | (exfalso; omega))]
        exact ⟨I, ρ, am_r_wp uZ am_k_id, fun _ _ _ => rfl⟩
    · show am_E _ _ _ 15 [(0, .inr (.inr (.inl (some 0)))), (1, .inl m), (2, .inl way)] [] (am_mm D I J ρ) _
      refine am_e_ss 1 (q := (16, [(0, .inr (.inr (.inl (some 0)))), (1, .inl m), (2, .inl way)], [.inl (-1)], (am_mm D I J ρ))) rfl ?_
      refine am_e_ireturn rfl rfl ?_
      rw [show sp_gain S m way = (-1) by (unfold sp_gain; (repeat' split) <;> first | rfl | (exfalso; omega))]
      exact ⟨I, ρ, am_r_wp uZ am_k_id, fun _ _ _ => rfl⟩
theorem sp_ff1_b {g u : Int} {lk : Int → Int} {F : List Nat → Int} : ∀ {L : List (List Nat)}, (∀ p ∈ L, 0 ≤ F p ∧ F p ≤ 5) → (sp_ff1 g u lk F L = -5 ∨ (0 ≤ sp_ff1 g u lk F L ∧ sp_ff1 g u lk F L ≤ 5)) := by
  intro L
  induction L with
  | nil => intro _; exact Or.inl rfl
  | cons p L ih =>
    intro h
    rw [sp_ff1_c]
    split
    · exact Or.inr (h p List.mem_cons_self)
    · exact ih (fun q hq => h q (List.mem_cons_of_mem _ hq))
theorem c_alone_l {X : Nat × (Nat → Int)} {D : List (Nat × Nat)} {I J : Nat → Nat → Int} {ρ : Nat → Nat → Option Nat} (d : Nat) {S : Nat → Int} {B way st : Int} {m : Nat} (hok : r_ok S B) (hwf : sp_wfS S) (hway : 0 ≤ way ∧ way ≤ 5) (h5 : sp_ops S ≤ 5) (h71 : ρ 71 1 = some 2) (h12 : I 1 2 = S 19) (hr0 : I 2 0 = S 0) (hhr : I 2 1 = am_bits (sp_hp S) 6) (hlo : ∀ m b : Nat, m < (S 19).toNat → b < (S 20).toNat → I (20 + m) b = sp_like S m b ∧ I (27 + m) b = sp_odds S m b) (hord : c_ords I S) (hvoi : c_voi I (sp_vl S 0) (S 19).toNat) (hm : (m : Int) ≤ S 19) (hset : st = am_bits (sp_alp S way) m) : am_E X (d + 6) 100 41 [(3, .inl (m : Int)), (2, .inl st), (1, .inl way), (0, .inr (.inr (.inl (some 0))))] [] (am_mm D I J ρ) (fun q => ∃ Q, q = (some (.inl (am_bits (sp_alp S way) (S 19).toNat)), am_mm D (am_wp uZ I Q) J ρ)) := by
  have h19 := r_ok_19 hok
  have ob := sp_ops_b hok
  refine am_e_ss 4 (q := (49, [(3, .inl (m : Int)), (2, .inl st), (1, .inl way), (0, .inr (.inr (.inl (some 0))))], [.inl ((I 1 2)), .inl (m : Int)], (am_mm D I J ρ))) rfl ?_
  refine am_e_icmp2 rfl ⟨by omega, by omega⟩ ⟨by omega, by omega⟩ (fun (hw1 : (I 1 2) ≤ (m : Int)) => ?_) (fun (hw1 : ¬ ((I 1 2) ≤ (m : Int))) => ?_)
  · show am_E _ _ _ 93 [(3, .inl (m : Int)), (2, .inl st), (1, .inl way), (0, .inr (.inr (.inl (some 0))))] [] (am_mm D I J ρ) _
    refine am_e_ss 1 (q := (94, [(3, .inl (m : Int)), (2, .inl st), (1, .inl way), (0, .inr (.inr (.inl (some 0))))], [.inl st], (am_mm D I J ρ))) rfl ?_
    refine am_e_ireturn rfl rfl ?_
    rw [hset, show m = (S 19).toNat by omega]
    exact ⟨I, am_r_wp uZ am_k_id⟩
  · show am_E _ _ _ 52 [(3, .inl (m : Int)), (2, .inl st), (1, .inl way), (0, .inr (.inr (.inl (some 0))))] [] (am_mm D I J ρ) _
    refine am_e_ss 4 (q := (60, [(3, .inl (m : Int)), (2, .inl st), (1, .inl way), (0, .inr (.inr (.inl (some 0))))], [.inl (m : Int), .inr (.inr (.inl (some 2)))], (am_mm D I J ρ))) rfl ?_
    refine am_e_virtual (Q := fun r => r = (some (.inl ((am_bi (sp_hp S m = true)))), (am_mm D I J ρ))) rfl rfl (Nat.le_of_ble_eq_true rfl) rfl rfl (Nat.le_of_ble_eq_true rfl) (Nat.le_of_ble_eq_true rfl) (c_isHere_2 _ (p := sp_hp S) hhr (by omega)) ?_
    rintro r rfl
    show am_E _ _ _ 63 [(3, .inl (m : Int)), (2, .inl st), (1, .inl way), (0, .inr (.inr (.inl (some 0))))] [.inl ((am_bi (sp_hp S m = true)))] (am_mm D I J ρ) _
    refine am_e_ifeq rfl (fun hw2 => ?_) (fun hw2 => ?_)
    · show am_E _ _ _ 87 [(3, .inl (m : Int)), (2, .inl st), (1, .inl way), (0, .inr (.inr (.inl (some 0))))] [] (am_mm D I J ρ) _
      refine am_e_ss 2 (q := (41, [(3, .inl ((m : Int) + 1)), (2, .inl st), (1, .inl way), (0, .inr (.inr (.inl (some 0))))], [], (am_mm D I J ρ))) rfl ?_
      have hordK := hord
      have hvoiK := hvoi
      have hloK := hlo
      have e9 : st = am_bits (sp_alp S way) (m + 1) := by
        rw [hset]
        show _ = am_bits (sp_alp S way) m + (if sp_alp S way m then 2 ^ m else 0)
        rw [if_neg (by unfold sp_alp; rw [decide_eq_true_eq]; exact fun h => absurd (sp_hp_t.mpr ⟨by omega, h.1⟩) (by assumption))]
        omega
      refine (am_less (lv := [(3, .inl ((m + 1) : Int)), (2, .inl st), (1, .inl way), (0, .inr (.inr (.inl (some 0))))]) rfl (List.forall_mem_cons.mpr ⟨rfl, List.forall_mem_cons.mpr ⟨rfl, List.forall_mem_cons.mpr ⟨rfl, List.forall_mem_cons.mpr ⟨rfl, List.forall_mem_nil _⟩⟩⟩⟩) (c_alone_l (I := I) d (m := m + 1) hok hwf hway h5 h71 h12 hr0 hhr hloK hordK hvoiK (by omega) e9)).imp ?_
      rintro q ⟨Q9, rfl⟩
      exact ⟨Q9, am_r_wk uZ (am_k_id)⟩
    · show am_E _ _ _ 66 [(3, .inl (m : Int)), (2, .inl st), (1, .inl way), (0, .inr (.inr (.inl (some 0))))] [] (am_mm D I J ρ) _
      have hhm : S (7 + m) = 0 := (sp_hp_t.mp (by assumption)).2
      refine am_e_ss 5 (q := (73, [(3, .inl (m : Int)), (2, .inl st), (1, .inl way), (0, .inr (.inr (.inl (some 0))))], [.inl 0, .inl way, .inl (m : Int), .inr (.inr (.inl (some 71)))], (am_mm D I J ρ))) rfl ?_
      refine am_e_virtual (Q := fun r => ∃ Q228, r = (some (.inl ((if sp_ops S = 0 then -5 else sp_ff1 0 (sp_cho S (sp_vl S 0) way) (fun x => sp_like S (m : Int) x) (fun p => sp_cho S (sp_set (sp_vl S 0) m p) way) (sp_pl2 S (sp_ops S).toNat [])))), (am_mm D (am_wp uW I Q228) J ρ)) ∧ c_voi Q228 (sp_vl S 0) (S 19).toNat) rfl rfl (Nat.le_of_ble_eq_true rfl) rfl rfl (Nat.le_of_ble_eq_true rfl) (Nat.le_of_ble_eq_true rfl) (c_tellM _ (m := m) (VL := sp_vl S 0) hok hwf (by omega) hhm ⟨by omega, by omega⟩ (Or.inl rfl) (by omega) h71 h12 hr0 hhr (fun b hb => (hlo m b (by omega) hb).1) hord sp_vl_vcs hvoi) ?_
      rintro r ⟨Q228, rfl, hvoi2⟩
      show am_E _ _ _ 76 [(3, .inl (m : Int)), (2, .inl st), (1, .inl way), (0, .inr (.inr (.inl (some 0))))] [.inl ((if sp_ops S = 0 then -5 else sp_ff1 0 (sp_cho S (sp_vl S 0) way) (fun x => sp_like S (m : Int) x) (fun p => sp_cho S (sp_set (sp_vl S 0) m p) way) (sp_pl2 S (sp_ops S).toNat [])))] (am_mm D (am_wp uW I Q228) J ρ) _
      have vb : (if sp_ops S = 0 then -5 else sp_ff1 0 (sp_cho S (sp_vl S 0) way) (fun x => sp_like S (m : Int) x) (fun p => sp_cho S (sp_set (sp_vl S 0) m p) way) (sp_pl2 S (sp_ops S).toNat [])) = -5 ∨ (0 ≤ (if sp_ops S = 0 then -5 else sp_ff1 0 (sp_cho S (sp_vl S 0) way) (fun x => sp_like S (m : Int) x) (fun p => sp_cho S (sp_set (sp_vl S 0) m p) way) (sp_pl2 S (sp_ops S).toNat [])) ∧ (if sp_ops S = 0 then -5 else sp_ff1 0 (sp_cho S (sp_vl S 0) way) (fun x => sp_like S (m : Int) x) (fun p => sp_cho S (sp_set (sp_vl S 0) m p) way) (sp_pl2 S (sp_ops S).toNat [])) ≤ 5) := by
        by_cases ho : sp_ops S = 0
        · left; rw [if_pos ho]
        · rw [if_neg ho]
          exact sp_ff1_b (fun p hp => by have hv := (nx_voice hok h5 ho p hp).1; have := sp_cho_b (way := way) hok (sp_vcs_vo hok (sp_set_vcs (sp_vl_vcs (t := 0)) hv hhm)) ho; omega)
      refine am_e_ss 1 (q := (78, [(3, .inl (m : Int)), (2, .inl st), (1, .inl way), (0, .inr (.inr (.inl (some 0))))], [.inl (-5), .inl ((if sp_ops S = 0 then -5 else sp_ff1 0 (sp_cho S (sp_vl S 0) way) (fun x => sp_like S (m : Int) x) (fun p => sp_cho S (sp_set (sp_vl S 0) m p) way) (sp_pl2 S (sp_ops S).toNat [])))], (am_mm D (am_wp uW I Q228) J ρ))) rfl ?_
      refine am_e_icmp2 rfl ⟨by omega, by omega⟩ ⟨by omega, by omega⟩ (fun (hw3 : (if sp_ops S = 0 then -5 else sp_ff1 0 (sp_cho S (sp_vl S 0) way) (fun x => sp_like S (m : Int) x) (fun p => sp_cho S (sp_set (sp_vl S 0) m p) way) (sp_pl2 S (sp_ops S).toNat [])) = (-5)) => ?_) (fun (hw3 : ¬ ((if sp_ops S = 0 then -5 else sp_ff1 0 (sp_cho S (sp_vl S 0) way) (fun x => sp_like S (m : Int) x) (fun p => sp_cho S (sp_set (sp_vl S 0) m p) way) (sp_pl2 S (sp_ops S).toNat [])) = (-5))) => ?_)
      · show am_E _ _ _ 87 [(3, .inl (m : Int)), (2, .inl st), (1, .inl way), (0, .inr (.inr (.inl (some 0))))] [] (am_mm D (am_wp uW I Q228) J ρ) _
        refine am_e_ss 2 (q := (41, [(3, .inl ((m : Int) + 1)), (2, .inl st), (1, .inl way), (0, .inr (.inr (.inl (some 0))))], [], (am_mm D (am_wp uW I Q228) J ρ))) rfl ?_
        have hordK : c_ords (am_wp uW I Q228) S := ⟨hord.1, hord.2.1, fun j hj => am_rowl_cg (hord.2.2 j hj) (fun i _ => am_wp_off (show uW (74 + j) _ = false from (by rcases (show j = 0 ∨ j = 1 ∨ j = 2 ∨ j = 3 ∨ j = 4 ∨ j = 5 by omega) with rfl | rfl | rfl | rfl | rfl | rfl <;> rfl)))⟩
        have hvoiK : c_voi (am_wp uW I Q228) (sp_vl S 0) (S 19).toNat := ⟨hvoi2.1, fun j hj hn => am_rowl_cg (hvoi2.2.1 j hj hn) (fun i _ => am_wp_in (show uW (81 + j) _ = true from (by rcases (show j = 0 ∨ j = 1 ∨ j = 2 ∨ j = 3 ∨ j = 4 ∨ j = 5 by omega) with rfl | rfl | rfl | rfl | rfl | rfl <;> rfl))), hvoi2.2.2.1, fun a b ha hb => (am_wp_in (show uW (91 + a) b = true from (by rcases (show a = 0 ∨ a = 1 ∨ a = 2 ∨ a = 3 ∨ a = 4 ∨ a = 5 by omega) with rfl | rfl | rfl | rfl | rfl | rfl <;> rfl))).trans (hvoi2.2.2.2 a b ha hb)⟩
        have hloK : ∀ m b : Nat, m < (S 19).toNat → b < (S 20).toNat → (am_wp uW I Q228) (20 + m) b = sp_like S m b ∧ (am_wp uW I Q228) (27 + m) b = sp_odds S m b := fun m b hm hb => ⟨(am_wp_off (show uW (20 + m) b = false from (by rcases (show m = 0 ∨ m = 1 ∨ m = 2 ∨ m = 3 ∨ m = 4 ∨ m = 5 by omega) with rfl | rfl | rfl | rfl | rfl | rfl <;> rfl))).trans (hlo m b hm hb).1, (am_wp_off (show uW (27 + m) b = false from (by rcases (show m = 0 ∨ m = 1 ∨ m = 2 ∨ m = 3 ∨ m = 4 ∨ m = 5 by omega) with rfl | rfl | rfl | rfl | rfl | rfl <;> rfl))).trans (hlo m b hm hb).2⟩
        have hta := sp_tell_a (way := way) hok (show sp_ops S ≤ 5 by omega) hhm
        have e9 : st = am_bits (sp_alp S way) (m + 1) := by
          rw [hset]
          show _ = am_bits (sp_alp S way) m + (if sp_alp S way m then 2 ^ m else 0)
          have h0 := hta.mp (by assumption)
          rw [if_neg (by unfold sp_alp; rw [decide_eq_true_eq]; omega)]
          omega
        refine (am_less (lv := [(3, .inl ((m + 1) : Int)), (2, .inl st), (1, .inl way), (0, .inr (.inr (.inl (some 0))))]) rfl (List.forall_mem_cons.mpr ⟨rfl, List.forall_mem_cons.mpr ⟨rfl, List.forall_mem_cons.mpr ⟨rfl, List.forall_mem_cons.mpr ⟨rfl, List.forall_mem_nil _⟩⟩⟩⟩) (c_alone_l (I := am_wp uW I Q228) d (m := m + 1) hok hwf hway h5 h71 h12 hr0 hhr hloK hordK hvoiK (by omega) e9)).imp ?_
        rintro q ⟨Q9, rfl⟩
        exact ⟨Q9, am_r_wk uZ (am_k_wp (uW_uZ) (am_k_id))⟩
      · show am_E _ _ _ 81 [(3, .inl (m : Int)), (2, .inl st), (1, .inl way), (0, .inr (.inr (.inl (some 0))))] [] (am_mm D (am_wp uW I Q228) J ρ) _
        refine am_e_ss 8 (q := (41, [(3, .inl ((m : Int) + 1)), (2, .inl ((Int32.ofInt st ||| Int32.ofInt (Int32.ofInt 1 <<< (Int32.ofInt (m : Int) &&& 31)).toInt).toInt)), (1, .inl way), (0, .inr (.inr (.inl (some 0))))], [], (am_mm D (am_wp uW I Q228) J ρ))) rfl ?_
        have hordK : c_ords (am_wp uW I Q228) S := ⟨hord.1, hord.2.1, fun j hj => am_rowl_cg (hord.2.2 j hj) (fun i _ => am_wp_off (show uW (74 + j) _ = false from (by rcases (show j = 0 ∨ j = 1 ∨ j = 2 ∨ j = 3 ∨ j = 4 ∨ j = 5 by omega) with rfl | rfl | rfl | rfl | rfl | rfl <;> rfl)))⟩
        have hvoiK : c_voi (am_wp uW I Q228) (sp_vl S 0) (S 19).toNat := ⟨hvoi2.1, fun j hj hn => am_rowl_cg (hvoi2.2.1 j hj hn) (fun i _ => am_wp_in (show uW (81 + j) _ = true from (by rcases (show j = 0 ∨ j = 1 ∨ j = 2 ∨ j = 3 ∨ j = 4 ∨ j = 5 by omega) with rfl | rfl | rfl | rfl | rfl | rfl <;> rfl))), hvoi2.2.2.1, fun a b ha hb => (am_wp_in (show uW (91 + a) b = true from (by rcases (show a = 0 ∨ a = 1 ∨ a = 2 ∨ a = 3 ∨ a = 4 ∨ a = 5 by omega) with rfl | rfl | rfl | rfl | rfl | rfl <;> rfl))).trans (hvoi2.2.2.2 a b ha hb)⟩
        have hloK : ∀ m b : Nat, m < (S 19).toNat → b < (S 20).toNat → (am_wp uW I Q228) (20 + m) b = sp_like S m b ∧ (am_wp uW I Q228) (27 + m) b = sp_odds S m b := fun m b hm hb => ⟨(am_wp_off (show uW (20 + m) b = false from (by rcases (show m = 0 ∨ m = 1 ∨ m = 2 ∨ m = 3 ∨ m = 4 ∨ m = 5 by omega) with rfl | rfl | rfl | rfl | rfl | rfl <;> rfl))).trans (hlo m b hm hb).1, (am_wp_off (show uW (27 + m) b = false from (by rcases (show m = 0 ∨ m = 1 ∨ m = 2 ∨ m = 3 ∨ m = 4 ∨ m = 5 by omega) with rfl | rfl | rfl | rfl | rfl | rfl <;> rfl))).trans (hlo m b hm hb).2⟩
        have hta := sp_tell_a (way := way) hok (show sp_ops S ≤ 5 by omega) hhm
        have e9 : (Int32.ofInt st ||| Int32.ofInt (Int32.ofInt 1 <<< (Int32.ofInt (m : Int) &&& 31)).toInt).toInt = am_bits (sp_alp S way) (m + 1) := by
          rw [hset]
          refine am_bits_or (by omega) (decide_eq_true ⟨hhm, ?_⟩)
          rcases sp_aln_01 S m way with h | h
          · exact absurd (hta.mpr h) (by assumption)
          · exact h
        refine (am_less (lv := [(3, .inl ((m + 1) : Int)), (2, .inl ((Int32.ofInt st ||| Int32.ofInt (Int32.ofInt 1 <<< (Int32.ofInt (m : Int) &&& 31)).toInt).toInt)), (1, .inl way), (0, .inr (.inr (.inl (some 0))))]) rfl (List.forall_mem_cons.mpr ⟨rfl, List.forall_mem_cons.mpr ⟨rfl, List.forall_mem_cons.mpr ⟨rfl, List.forall_mem_cons.mpr ⟨rfl, List.forall_mem_nil _⟩⟩⟩⟩) (c_alone_l (I := am_wp uW I Q228) d (m := m + 1) hok hwf hway h5 h71 h12 hr0 hhr hloK hordK hvoiK (by omega) e9)).imp ?_
        rintro q ⟨Q9, rfl⟩
        exact ⟨Q9, am_r_wk uZ (am_k_wp (uW_uZ) (am_k_id))⟩
termination_by 7 - m
decreasing_by all_goals omega
theorem c_alone {X : Nat × (Nat → Int)} {D : List (Nat × Nat)} {I J : Nat → Nat → Int} {ρ : Nat → Nat → Option Nat} (d : Nat) {S : Nat → Int} {B : Int} (hok : r_ok S B) (hwf : sp_wfS S) (hh : c_hall D I ρ 0 S) {way : Int} (hway : -2147483648 ≤ way ∧ way < 2147483648) : am_E X (d + 6) 100 0 [(0, .inr (.inr (.inl (some 0)))), (1, .inl way)] [] (am_mm D I J ρ) (fun q => ∃ Q ρ2, q = (some (.inl (sp_alone S way)), am_mm D (am_wp uZ I Q) J ρ2) ∧ ∀ k j, k ≠ 71 → ρ2 k j = ρ k j) := by
  have hh0 := hh
  obtain ⟨⟨h12, h14, h16, h18, h110⟩, ⟨hr0, hhr, hhd, hgl⟩, ⟨htp, hhn⟩, hbk, hlo, hmem, c, hρc, ⟨hsc0, hcc, hc0, hcs⟩⟩ := hh
  have hsc : (am_S ++ D)[c]? = some (1, 10) := hsc0.1.1
  have h12 : I 1 2 = S 19 := h12
  have h14 : I 1 4 = S 20 := h14
  have h16 : I 1 6 = S 21 := h16
  have h18 : I 1 8 = S 23 := h18
  have h110 : I 1 10 = S 22 := h110
  have hr0 : I 2 0 = S 0 := hr0
  have hhr : I 2 1 = am_bits (sp_hp S) 6 := hhr
  have hhd : I 2 2 = am_bits (sp_dp S) 6 := hhd
  have hgl : ∀ m, m < (S 19).toNat → I 3 m = S (1 + m) := hgl
  have htp : ∀ i, i < (S 23).toNat → I 17 i = S (68 + i) := htp
  have hhn : ∀ i, i < (S 22).toNat → I 18 i = S (62 + i) := hhn
  have hbk : ∀ b, b < (S 20).toNat → I (6 + b) 0 = S (38 + b) ∧ I (6 + b) 1 = S (44 + b) ∧ I (6 + b) 2 = S (50 + b) ∧ I (6 + b) 3 = S (56 + b) := hbk
  have hlo : ∀ m b : Nat, m < (S 19).toNat → b < (S 20).toNat → I (20 + m) b = sp_like S m b ∧ I (27 + m) b = sp_odds S m b := hlo
  have hmem : c_mems D I ρ 4 S := hmem
  have hρc : ρ 1 5 = some c := hρc
  have hh := hh0
  have h19 := r_ok_19 hok
  have hokx := hok
  obtain ⟨o0, oG, oH, oD, o19, o20, o21, o22, o23, o24, oK, oV, oP, oM, oS, oY, oHd, oT, oC, oN⟩ := hok
  have hok := hokx
  have ob := sp_ops_b hok
  refine am_e_ss 1 (q := (1, [(0, .inr (.inr (.inl (some 0)))), (1, .inl way)], [.inl way], (am_mm D I J ρ))) rfl ?_
  refine am_e_static (Q := fun r => r = (some (.inl ((am_bi (0 ≤ way ∧ way ≤ 5)))), (am_mm D I J ρ))) rfl (Nat.le_of_ble_eq_true rfl) rfl (Nat.le_of_ble_eq_true rfl) (Nat.le_of_ble_eq_true rfl) (c_isWay _ (v := way) ⟨by omega, by omega⟩) ?_
  rintro r rfl
  show am_E _ _ _ 4 [(0, .inr (.inr (.inl (some 0)))), (1, .inl way)] [.inl ((am_bi (0 ≤ way ∧ way ≤ 5)))] (am_mm D I J ρ) _
  refine am_e_ifne rfl (fun hw1 => ?_) (fun hw1 => ?_)
  · show am_E _ _ _ 9 [(0, .inr (.inr (.inl (some 0)))), (1, .inl way)] [] (am_mm D I J ρ) _
    refine am_e_ss 5 (q := (20, [(0, .inr (.inr (.inl (some 0)))), (1, .inl way)], [.inr (.inr (.inl (some 2))), .inr (.inr (.inl (some 71)))], (am_mm D I J ρ))) rfl ?_
    refine am_e_virtual (Q := fun r => ∃ Q229, r = (none, (am_mm D (am_wp uC I Q229) J (am_up ρ 71 1 (some 2)))) ∧ c_ords Q229 S ∧ c_voi Q229 (sp_vl S 0) (S 19).toNat) rfl rfl (Nat.le_of_ble_eq_true rfl) rfl rfl (Nat.le_of_ble_eq_true rfl) (Nat.le_of_ble_eq_true rfl) (c_collect_2 _ hok (c_hall_vh hok hh) hwf) ?_
    rintro r ⟨Q229, rfl, ⟨hord, hvoi⟩⟩
    show am_E _ _ _ 23 [(0, .inr (.inr (.inl (some 0)))), (1, .inl way)] [] (am_mm D (am_wp uC I Q229) J (am_up ρ 71 1 (some 2))) _
    have hordK : c_ords (am_wp uC I Q229) S := ⟨hord.1, hord.2.1, fun j hj => am_rowl_cg (hord.2.2 j hj) (fun i _ => am_wp_in (show uC (74 + j) _ = true from (by rcases (show j = 0 ∨ j = 1 ∨ j = 2 ∨ j = 3 ∨ j = 4 ∨ j = 5 by omega) with rfl | rfl | rfl | rfl | rfl | rfl <;> rfl)))⟩
    have hvoiK : c_voi (am_wp uC I Q229) (sp_vl S 0) (S 19).toNat := ⟨hvoi.1, fun j hj hn => am_rowl_cg (hvoi.2.1 j hj hn) (fun i _ => am_wp_in (show uC (81 + j) _ = true from (by rcases (show j = 0 ∨ j = 1 ∨ j = 2 ∨ j = 3 ∨ j = 4 ∨ j = 5 by omega) with rfl | rfl | rfl | rfl | rfl | rfl <;> rfl))), hvoi.2.2.1, fun a b ha hb => (am_wp_in (show uC (91 + a) b = true from (by rcases (show a = 0 ∨ a = 1 ∨ a = 2 ∨ a = 3 ∨ a = 4 ∨ a = 5 by omega) with rfl | rfl | rfl | rfl | rfl | rfl <;> rfl))).trans (hvoi.2.2.2 a b ha hb)⟩
    have ho3 := hord.1
    refine am_e_ss 4 (q := (31, [(0, .inr (.inr (.inl (some 0)))), (1, .inl way)], [.inl 5, .inl ((Q229 71 3))], (am_mm D (am_wp uC I Q229) J (am_up ρ 71 1 (some 2))))) rfl ?_
    refine am_e_icmp2 rfl ⟨by omega, by omega⟩ ⟨by omega, by omega⟩ (fun (hw2 : (Q229 71 3) ≤ 5) => ?_) (fun (hw2 : ¬ ((Q229 71 3) ≤ 5)) => ?_)
    · show am_E _ _ _ 37 [(0, .inr (.inr (.inl (some 0)))), (1, .inl way)] [] (am_mm D (am_wp uC I Q229) J (am_up ρ 71 1 (some 2))) _
      refine am_e_ss 4 (q := (41, [(3, .inl 0), (2, .inl 0), (0, .inr (.inr (.inl (some 0)))), (1, .inl way)], [], (am_mm D (am_wp uC I Q229) J (am_up ρ 71 1 (some 2))))) rfl ?_
      rw [show sp_alone S way = am_bits (sp_alp S way) (S 19).toNat by (unfold sp_alone; rw [if_neg (by omega), if_neg (by omega)])]
      have hloK : ∀ m b : Nat, m < (S 19).toNat → b < (S 20).toNat → (am_wp uC I Q229) (20 + m) b = sp_like S m b ∧ (am_wp uC I Q229) (27 + m) b = sp_odds S m b := fun m b hm hb => ⟨(am_wp_off (show uC (20 + m) b = false from (by rcases (show m = 0 ∨ m = 1 ∨ m = 2 ∨ m = 3 ∨ m = 4 ∨ m = 5 by omega) with rfl | rfl | rfl | rfl | rfl | rfl <;> rfl))).trans (hlo m b hm hb).1, (am_wp_off (show uC (27 + m) b = false from (by rcases (show m = 0 ∨ m = 1 ∨ m = 2 ∨ m = 3 ∨ m = 4 ∨ m = 5 by omega) with rfl | rfl | rfl | rfl | rfl | rfl <;> rfl))).trans (hlo m b hm hb).2⟩
      refine (am_less (lv := [(3, .inl (0 : Int)), (2, .inl 0), (1, .inl way), (0, .inr (.inr (.inl (some 0))))]) rfl (List.forall_mem_cons.mpr ⟨rfl, List.forall_mem_cons.mpr ⟨rfl, List.forall_mem_cons.mpr ⟨rfl, List.forall_mem_cons.mpr ⟨rfl, List.forall_mem_nil _⟩⟩⟩⟩) (c_alone_l (I := am_wp uC I Q229) d (m := 0) hok hwf ⟨by omega, by omega⟩ (by omega) (if_pos ⟨rfl, rfl⟩) h12 hr0 hhr hloK hordK hvoiK (by omega) rfl)).imp ?_
      rintro q ⟨Q9, rfl⟩
      exact ⟨Q9, (am_up ρ 71 1 (some 2)), am_r_wk uZ (am_k_wp (uC_uZ) (am_k_id)), fun k j hk => if_neg (by omega)⟩
    · show am_E _ _ _ 34 [(0, .inr (.inr (.inl (some 0)))), (1, .inl way)] [] (am_mm D (am_wp uC I Q229) J (am_up ρ 71 1 (some 2))) _
      refine am_e_ss 1 (q := (36, [(0, .inr (.inr (.inl (some 0)))), (1, .inl way)], [.inl (-9)], (am_mm D (am_wp uC I Q229) J (am_up ρ 71 1 (some 2))))) rfl ?_
      refine am_e_ireturn rfl rfl ?_
      rw [show sp_alone S way = (-9) by (unfold sp_alone; (repeat' split) <;> first | rfl | (exfalso; omega))]
      exact ⟨_, (am_up ρ 71 1 (some 2)), am_r_wp uZ (am_k_wp (uC_uZ) (am_k_id)), fun k j hk => if_neg (by omega)⟩
  · show am_E _ _ _ 7 [(0, .inr (.inr (.inl (some 0)))), (1, .inl way)] [] (am_mm D I J ρ) _
    refine am_e_ss 1 (q := (8, [(0, .inr (.inr (.inl (some 0)))), (1, .inl way)], [.inl (-1)], (am_mm D I J ρ))) rfl ?_
    refine am_e_ireturn rfl rfl ?_
    rw [show sp_alone S way = (-1) by (unfold sp_alone; (repeat' split) <;> first | rfl | (exfalso; omega))]
    exact ⟨I, ρ, am_r_wp uZ am_k_id, fun _ _ _ => rfl⟩
theorem c_looked_l {X : Nat × (Nat → Int)} {D : List (Nat × Nat)} {I J : Nat → Nat → Int} {ρ : Nat → Nat → Option Nat} (d : Nat) {S : Nat → Int} {B : Int} {i : Nat} (hok : r_ok S B) (h110 : I 1 10 = S 22) (hhn : ∀ i, i < (S 22).toNat → I 18 i = S (62 + i)) (hord : c_ords I S) (hvoi : c_voi I (sp_vl S 0) (S 19).toNat) (hi : i ≤ (sp_ob S).length) : am_E X d 115 16 [(1, .inl (i : Int)), (0, .inr (.inr (.inl (some 0))))] [] (am_mm D I J ρ) (fun r => r = (some (.inl ((sp_lkl S (fun b => sp_tls (sp_vl S 0) 0 b (S 19).toNat) ((sp_ob S).drop i)))), (am_mm D I J ρ))) := by
  have h19 := r_ok_19 hok
  have ob := sp_ops_b hok
  have obl := sp_ob_len (S := S)
  have ho3 := hord.1
  have o22 : 0 ≤ S 22 ∧ S 22 ≤ 6 := by
    obtain ⟨o0, oG, oH, oD, o19, o20, o21, o22, _⟩ := hok
    exact o22
  refine am_e_ss 4 (q := (24, [(1, .inl (i : Int)), (0, .inr (.inr (.inl (some 0))))], [.inl ((I 71 3)), .inl (i : Int)], (am_mm D I J ρ))) rfl ?_
  refine am_e_icmp2 rfl ⟨by omega, by omega⟩ ⟨by omega, by omega⟩ (fun (hw1 : (I 71 3) ≤ (i : Int)) => ?_) (fun (hw1 : ¬ ((I 71 3) ≤ (i : Int))) => ?_)
  · show am_E _ _ _ 77 [(1, .inl (i : Int)), (0, .inr (.inr (.inl (some 0))))] [] (am_mm D I J ρ) _
    refine am_e_ss 1 (q := (79, [(1, .inl (i : Int)), (0, .inr (.inr (.inl (some 0))))], [.inl (-5)], (am_mm D I J ρ))) rfl ?_
    refine am_e_ireturn rfl rfl ?_
    rw [List.drop_eq_nil_of_le (by omega)]
    rfl
  · show am_E _ _ _ 27 [(1, .inl (i : Int)), (0, .inr (.inr (.inl (some 0))))] [] (am_mm D I J ρ) _
    have hil : i < (sp_ob S).length := by omega
    obtain ⟨x, hx⟩ : ∃ x, x = (sp_ob S)[i] := ⟨_, rfl⟩
    have hxi : I 72 i = (x : Int) := by rw [hx]; have := hord.2.1 i _ (List.getElem?_eq_getElem hil); rw [Nat.zero_add] at this; exact this
    have hx6 := sp_ob_6 hok x (by rw [hx]; exact List.getElem_mem hil)
    have hdr : (sp_ob S).drop i = x :: (sp_ob S).drop (i + 1) := by rw [hx]; exact List.drop_eq_getElem_cons hil
    have htb := sp_tls_b (VL := sp_vl S 0) (way := 0) (b := (x : Int)) (S 19).toNat (sp_vcs_l hok sp_vl_vcs)
    have h87 := (hvoi.2.2.1 x hx6).1
    have ext : (I 72 i).toNat = x := by omega
    have oHx : 0 ≤ S (62 + x) ∧ S (62 + x) ≤ 12 := by
      obtain ⟨o0, oG, oH, oD, o19, o20, o21, o22, o23, o24, oK, oV, oP, oM, oS, oY, oHd, _⟩ := hok
      exact oHd x hx6
    refine am_e_ss 4 (q := (35, [(1, .inl (i : Int)), (0, .inr (.inr (.inl (some 0))))], [.inl (i : Int), .inr (.inr (.inl (some 72)))], (am_mm D I J ρ))) rfl ?_
    refine am_e_iaload (m := 6) rfl rfl (by omega) (by omega) (by omega) ?_
    show am_E _ _ _ 36 [(1, .inl (i : Int)), (0, .inr (.inr (.inl (some 0))))] [.inl ((I 72 i))] (am_mm D I J ρ) _
    refine am_e_ss 5 (q := (45, [(2, .inl ((I 72 i))), (1, .inl (i : Int)), (0, .inr (.inr (.inl (some 0))))], [.inl ((I 1 10)), .inl ((I 72 i))], (am_mm D I J ρ))) rfl ?_
    refine am_e_icmp2 rfl ⟨by omega, by omega⟩ ⟨by omega, by omega⟩ (fun (hw2 : (I 1 10) ≤ (I 72 i)) => ?_) (fun (hw2 : ¬ ((I 1 10) ≤ (I 72 i))) => ?_)
    · show am_E _ _ _ 71 [(2, .inl ((I 72 i))), (1, .inl (i : Int)), (0, .inr (.inr (.inl (some 0))))] [] (am_mm D I J ρ) _
      refine am_e_ss 2 (q := (16, [(1, .inl ((i : Int) + 1)), (2, .inl ((I 72 i))), (0, .inr (.inr (.inl (some 0))))], [], (am_mm D I J ρ))) rfl ?_
      rw [hdr, sp_lkl_c, if_neg (by (try dsimp only); omega)]
      exact am_less (lv := [(1, .inl ((i + 1) : Int)), (0, .inr (.inr (.inl (some 0))))]) rfl (List.forall_mem_cons.mpr ⟨rfl, List.forall_mem_cons.mpr ⟨rfl, List.forall_mem_nil _⟩⟩) (c_looked_l d (i := i + 1) hok h110 hhn hord hvoi (by omega))
    · show am_E _ _ _ 48 [(2, .inl ((I 72 i))), (1, .inl (i : Int)), (0, .inr (.inr (.inl (some 0))))] [] (am_mm D I J ρ) _
      have hhx := hhn x (by omega)
      have e18 : I 18 (I 72 i).toNat = S (62 + x) := by rw [ext]; exact hhx
      have e87 : I 87 (I 72 i).toNat = sp_tls (sp_vl S 0) 0 (x : Int) (S 19).toNat := by rw [ext]; exact h87
      refine am_e_ss 4 (q := (56, [(2, .inl ((I 72 i))), (1, .inl (i : Int)), (0, .inr (.inr (.inl (some 0))))], [.inl ((I 72 i)), .inr (.inr (.inl (some 18)))], (am_mm D I J ρ))) rfl ?_
      refine am_e_iaload (m := 6) rfl rfl (by omega) (by omega) (by omega) ?_
      show am_E _ _ _ 57 [(2, .inl ((I 72 i))), (1, .inl (i : Int)), (0, .inr (.inr (.inl (some 0))))] [.inl ((I 18 ((I 72 i)).toNat))] (am_mm D I J ρ) _
      refine am_e_ss 4 (q := (65, [(2, .inl ((I 72 i))), (1, .inl (i : Int)), (0, .inr (.inr (.inl (some 0))))], [.inl ((I 72 i)), .inr (.inr (.inl (some 87))), .inl ((I 18 ((I 72 i)).toNat))], (am_mm D I J ρ))) rfl ?_
      refine am_e_iaload (m := 6) rfl rfl (by omega) (by omega) (by omega) ?_
      show am_E _ _ _ 66 [(2, .inl ((I 72 i))), (1, .inl (i : Int)), (0, .inr (.inr (.inl (some 0))))] [.inl ((I 87 ((I 72 i)).toNat)), .inl ((I 18 ((I 72 i)).toNat))] (am_mm D I J ρ) _
      refine am_e_icmp2 rfl ⟨by omega, by omega⟩ ⟨by omega, by omega⟩ (fun (hw3 : (I 18 ((I 72 i)).toNat) = (I 87 ((I 72 i)).toNat)) => ?_) (fun (hw3 : ¬ ((I 18 ((I 72 i)).toNat) = (I 87 ((I 72 i)).toNat))) => ?_)
      · show am_E _ _ _ 71 [(2, .inl ((I 72 i))), (1, .inl (i : Int)), (0, .inr (.inr (.inl (some 0))))] [] (am_mm D I J ρ) _
        refine am_e_ss 2 (q := (16, [(1, .inl ((i : Int) + 1)), (2, .inl ((I 72 i))), (0, .inr (.inr (.inl (some 0))))], [], (am_mm D I J ρ))) rfl ?_
        rw [hdr, sp_lkl_c, if_neg (by (try dsimp only); omega)]
        exact am_less (lv := [(1, .inl ((i + 1) : Int)), (0, .inr (.inr (.inl (some 0))))]) rfl (List.forall_mem_cons.mpr ⟨rfl, List.forall_mem_cons.mpr ⟨rfl, List.forall_mem_nil _⟩⟩) (c_looked_l d (i := i + 1) hok h110 hhn hord hvoi (by omega))
      · show am_E _ _ _ 69 [(2, .inl ((I 72 i))), (1, .inl (i : Int)), (0, .inr (.inr (.inl (some 0))))] [] (am_mm D I J ρ) _
        refine am_e_ss 1 (q := (70, [(2, .inl ((I 72 i))), (1, .inl (i : Int)), (0, .inr (.inr (.inl (some 0))))], [.inl ((I 72 i))], (am_mm D I J ρ))) rfl ?_
        refine am_e_ireturn rfl rfl ?_
        rw [hdr, sp_lkl_c, if_pos (by (try dsimp only); omega), hxi]
termination_by ((sp_ob S).length - i)
decreasing_by all_goals omega
theorem c_looked {X : Nat × (Nat → Int)} {D : List (Nat × Nat)} {I J : Nat → Nat → Int} {ρ : Nat → Nat → Option Nat} (d : Nat) {S : Nat → Int} {B : Int} (hok : r_ok S B) (hwf : sp_wfS S) (hh : c_hall D I ρ 0 S)  : am_E X (d + 5) 115 0 [(0, .inr (.inr (.inl (some 0))))] [] (am_mm D I J ρ) (fun q => ∃ Q ρ2, q = (some (.inl (sp_looked S)), am_mm D (am_wp uZ I Q) J ρ2) ∧ ∀ k j, k ≠ 71 → ρ2 k j = ρ k j) := by
  have hh0 := hh
  obtain ⟨⟨h12, h14, h16, h18, h110⟩, ⟨hr0, hhr, hhd, hgl⟩, ⟨htp, hhn⟩, hbk, hlo, hmem, c, hρc, ⟨hsc0, hcc, hc0, hcs⟩⟩ := hh
  have hsc : (am_S ++ D)[c]? = some (1, 10) := hsc0.1.1
  have h12 : I 1 2 = S 19 := h12
  have h14 : I 1 4 = S 20 := h14
  have h16 : I 1 6 = S 21 := h16
  have h18 : I 1 8 = S 23 := h18
  have h110 : I 1 10 = S 22 := h110
  have hr0 : I 2 0 = S 0 := hr0
  have hhr : I 2 1 = am_bits (sp_hp S) 6 := hhr
  have hhd : I 2 2 = am_bits (sp_dp S) 6 := hhd
  have hgl : ∀ m, m < (S 19).toNat → I 3 m = S (1 + m) := hgl
  have htp : ∀ i, i < (S 23).toNat → I 17 i = S (68 + i) := htp
  have hhn : ∀ i, i < (S 22).toNat → I 18 i = S (62 + i) := hhn
  have hbk : ∀ b, b < (S 20).toNat → I (6 + b) 0 = S (38 + b) ∧ I (6 + b) 1 = S (44 + b) ∧ I (6 + b) 2 = S (50 + b) ∧ I (6 + b) 3 = S (56 + b) := hbk
  have hlo : ∀ m b : Nat, m < (S 19).toNat → b < (S 20).toNat → I (20 + m) b = sp_like S m b ∧ I (27 + m) b = sp_odds S m b := hlo
  have hmem : c_mems D I ρ 4 S := hmem
  have hρc : ρ 1 5 = some c := hρc
  have hh := hh0
  have h19 := r_ok_19 hok
  have hokx := hok
  obtain ⟨o0, oG, oH, oD, o19, o20, o21, o22, o23, o24, oK, oV, oP, oM, oS, oY, oHd, oT, oC, oN⟩ := hok
  have hok := hokx
  refine am_e_ss 5 (q := (11, [(0, .inr (.inr (.inl (some 0))))], [.inr (.inr (.inl (some 2))), .inr (.inr (.inl (some 71)))], (am_mm D I J ρ))) rfl ?_
  refine am_e_virtual (Q := fun r => ∃ Q230, r = (none, (am_mm D (am_wp uC I Q230) J (am_up ρ 71 1 (some 2)))) ∧ c_ords Q230 S ∧ c_voi Q230 (sp_vl S 0) (S 19).toNat) rfl rfl (Nat.le_of_ble_eq_true rfl) rfl rfl (Nat.le_of_ble_eq_true rfl) (Nat.le_of_ble_eq_true rfl) (c_collect_2 _ hok (c_hall_vh hok hh) hwf) ?_
  rintro r ⟨Q230, rfl, ⟨hord, hvoi⟩⟩
  show am_E _ _ _ 14 [(0, .inr (.inr (.inl (some 0))))] [] (am_mm D (am_wp uC I Q230) J (am_up ρ 71 1 (some 2))) _
  refine am_e_ss 2 (q := (16, [(1, .inl 0), (0, .inr (.inr (.inl (some 0))))], [], (am_mm D (am_wp uC I Q230) J (am_up ρ 71 1 (some 2))))) rfl ?_
  have hordK : c_ords (am_wp uC I Q230) S := ⟨hord.1, hord.2.1, fun j hj => am_rowl_cg (hord.2.2 j hj) (fun i _ => am_wp_in (show uC (74 + j) _ = true from (by rcases (show j = 0 ∨ j = 1 ∨ j = 2 ∨ j = 3 ∨ j = 4 ∨ j = 5 by omega) with rfl | rfl | rfl | rfl | rfl | rfl <;> rfl)))⟩
  have hvoiK : c_voi (am_wp uC I Q230) (sp_vl S 0) (S 19).toNat := ⟨hvoi.1, fun j hj hn => am_rowl_cg (hvoi.2.1 j hj hn) (fun i _ => am_wp_in (show uC (81 + j) _ = true from (by rcases (show j = 0 ∨ j = 1 ∨ j = 2 ∨ j = 3 ∨ j = 4 ∨ j = 5 by omega) with rfl | rfl | rfl | rfl | rfl | rfl <;> rfl))), hvoi.2.2.1, fun a b ha hb => (am_wp_in (show uC (91 + a) b = true from (by rcases (show a = 0 ∨ a = 1 ∨ a = 2 ∨ a = 3 ∨ a = 4 ∨ a = 5 by omega) with rfl | rfl | rfl | rfl | rfl | rfl <;> rfl))).trans (hvoi.2.2.2 a b ha hb)⟩
  rw [sp_looked_l hok]
  refine (am_less (lv := [(1, .inl (0 : Int)), (0, .inr (.inr (.inl (some 0))))]) rfl (List.forall_mem_cons.mpr ⟨rfl, List.forall_mem_cons.mpr ⟨rfl, List.forall_mem_nil _⟩⟩) (c_looked_l (I := am_wp uC I Q230) (d + 5) (i := 0) hok h110 hhn hordK hvoiK (by omega))).imp ?_
  intro q h
  rw [h]
  exact ⟨_, (am_up ρ 71 1 (some 2)), am_r_wp uZ (am_k_wp (uC_uZ) (am_k_id)), fun k j hk => if_neg (by omega)⟩
