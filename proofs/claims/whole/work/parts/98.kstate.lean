/-! THE CLASS: how far it is in reading: a result R, the club's cell c -/
def k_pk (c k i : Nat) : Prop := k ≠ c + 4 ∧ (k = c → i ≠ 1 ∧ i ≠ 3)
def k_tx (I : Nat → Nat → Int) (hs : Nat → Int) (z c p : Nat) : Prop := I c 1 = (p : Int) ∧ I c 9 = (z : Int) ∧ z ≤ 100 ∧ p ≤ z ∧ (∀ i, i < z → I 17 i = hs i) ∧ (∀ i, z ≤ i → hs i = -1) ∧ ∀ i, -1 ≤ hs i ∧ hs i ≤ 127
def k_cs2 (I : Nat → Nat → Int) (c p : Nat) : Option (List Int) → Prop
  | some L => I c 3 = (L.length : Int) ∧ (∀ i, i < L.length → I (c + 4) i = ps_tr (L.getD i 0)) ∧ L.length ≤ p
  | none => True
def k_cs (I0 I : Nat → Nat → Int) (hs : Nat → Int) (z c : Nat) (R : pt_R) : Prop := (∀ k i, k_pk c k i → I k i = I0 k i) ∧ k_tx I hs z c R.1 ∧ 18 ≤ c ∧ k_cs2 I c R.1 R.2
def k_sh (D : List (Nat × Nat)) (ρ : Nat → Nat → Option Nat) (c : Nat) : Prop := c_clk D ρ c ∧ am_Rf ρ c 8 = some 17
section
variable {I0 I : Nat → Nat → Int} {hs : Nat → Int} {z c p : Nat} {L : List Int} {R : pt_R}
theorem k_cs_1 (h : k_cs I0 I hs z c (p, some L)) (hp : p < z) : k_cs I0 (am_up I c 1 ((p : Int) + 1)) hs z c (p + 1, some L) := by
  obtain ⟨h1, ⟨t6, t7, tz, tp, th, te, tb⟩, h3, h7, h8, h9⟩ := h
  refine ⟨fun k i hk => ?_, ⟨am_up_at2, (am_up_ne2 (Or.inr (by decide))).trans t7, tz, hp, fun i hi => (am_up_ne2 (by omega)).trans (th i hi), te, tb⟩, h3, (am_up_ne2 (Or.inr (by decide))).trans h7, fun i hi => (am_up_ne2 (by omega)).trans (h8 i hi), Nat.le_succ_of_le h9⟩
  have h0 := h1 k i hk
  unfold k_pk at hk
  rw [am_up_ne2 (by omega)]
  exact h0
theorem k_cs_no (h : k_cs I0 I hs z c (p, some L)) : k_cs I0 I hs z c (p, none) := ⟨h.1, h.2.1, h.2.2.1, True.intro⟩
theorem k_cs_e {s x : Int} (h : k_cs I0 I hs z c (p, some L)) (hl : L.length < p) (hx : x = ps_tr s) : k_cs I0 (am_up (am_up I (c + 4) L.length x) c 3 ((L.length : Int) + 1)) hs z c (p, some (L ++ [s])) := by
  obtain ⟨h1, ⟨t6, t7, tz, tp, th, te, tb⟩, h3, h7, h8, h9⟩ := h
  have ec : ∀ i, i ≠ 3 → am_up (am_up I (c + 4) L.length x) c 3 ((L.length : Int) + 1) c i = I c i := fun i hi => (am_up_ne2 (Or.inr hi)).trans (am_up_ne2 (Or.inl (by omega)))
  refine ⟨fun k i hk => ?_, ⟨(ec _ (by decide)).trans t6, (ec _ (by decide)).trans t7, tz, tp, fun i hi => ?_, te, tb⟩, h3, ?_, fun i hi => ?_, ?_⟩
  · have h0 := h1 k i hk
    unfold k_pk at hk
    rw [am_up_ne2 (by omega), am_up_ne2 (by omega)]
    exact h0
  · rw [am_up_ne2 (by omega), am_up_ne2 (by omega)]; exact th i hi
  · rw [am_up_at2, List.length_append, List.length_singleton]; rfl
  · rw [List.length_append, List.length_singleton] at hi
    rw [am_up_ne2 (Or.inl (by omega))]
    by_cases ei : i = L.length
    · rw [ei, am_up_at2, List.getD_eq_getElem?_getD, List.getElem?_append_right (Nat.le_refl _), Nat.sub_self]; exact hx
    · rw [am_up_ne2 (Or.inr ei), h8 i (by omega), List.getD_eq_getElem?_getD, List.getD_eq_getElem?_getD, List.getElem?_append_left (by omega)]
  · rw [List.length_append, List.length_singleton]; exact hl
theorem k_cs_lt (h : k_cs I0 I hs z c (p, some L)) (hp : 0 ≤ hs p) : p < z := by
  obtain ⟨t6, t7, tz, tp, th, te, tb⟩ := h.2.1
  by_cases e2 : p < z
  · exact e2
  · have := te p (by omega); omega
end
theorem pt_w_t {h : Nat → Int} {s : Int} {w : List Int} {p : Nat} (e : h p = s) : pt_w h (s :: w) p = pt_w h w (p + 1) := if_pos e
theorem pt_w_f {h : Nat → Int} {s : Int} {w : List Int} {p : Nat} (e : ¬ h p = s) : pt_w h (s :: w) p = (p, false) := if_neg e
theorem pt_num_b {h : Nat → Int} {z : Nat} (hz : ∀ i, z ≤ i → h i = -1) (p : Nat) : -1 ≤ (pt_num h p).2.getD (-1) ∧ (pt_num h p).2.getD (-1) ≤ 99 ∧ (0 ≤ (pt_num h p).2.getD (-1) → ∃ q v, pt_num h p = (q, some v) ∧ (pt_num h p).2.getD (-1) = v) ∧ ((pt_num h p).2.getD (-1) < 0 → ∃ q, pt_num h p = (q, none)) := by
  rcases hN : pt_num h p with ⟨q, _ | v⟩
  · show -1 ≤ (-1 : Int) ∧ (-1 : Int) ≤ 99 ∧ (0 ≤ (-1 : Int) → _) ∧ ((-1 : Int) < 0 → _)
    exact ⟨by omega, by omega, fun e => by omega, fun _ => ⟨q, rfl⟩⟩
  · have hv := pt_num_ok hz hN
    show -1 ≤ v ∧ v ≤ 99 ∧ (0 ≤ v → _) ∧ (v < 0 → _)
    exact ⟨by omega, by omega, fun _ => ⟨q, v, rfl, rfl⟩, fun e => by omega⟩
theorem ps_tr_mk {a b v : Int} (ha : 0 ≤ a ∧ a ≤ 5) (hb : 0 ≤ b ∧ b ≤ 2) (hv : 0 ≤ v ∧ v ≤ 99) : (a * 3 + b) * 100 + v = ps_tr (a + 8 * b + 32 * v) := by
  unfold ps_tr
  rw [if_pos (by omega)]
  have e1 : (a + 8 * b + 32 * v) % 8 = a := by omega
  have e2 : (a + 8 * b + 32 * v) / 8 % 4 = b := by omega
  have e3 : (a + 8 * b + 32 * v) / 32 = v := by omega
  rw [e1, e2, e3]
theorem k_peek {X : Nat × (Nat → Int)} {D : List (Nat × Nat)} {I J : Nat → Nat → Int} {ρ : Nat → Nat → Option Nat} (d : Nat) {I0 : Nat → Nat → Int} {hs : Nat → Int} {z c p : Nat} {L : List Int} (hsh : k_sh D ρ c) (hcs : k_cs I0 I hs z c (p, some L))  : am_E X d 7 0 [(0, .inr (.inr (.inl (some c))))] [] (am_mm D I J ρ) (fun r => r = (some (.inl ((hs p))), (am_mm D I J ρ))) := by
  have hclk0 := hsh.1
  have hr8 := hsh.2
  have hclk := hclk0
  obtain ⟨⟨hsc, hs1, hs2, hs3, hs4⟩, hr1, hr2, hr3, hr4⟩ := hclk
  have p1 : I c 1 = (p : Int) := hcs.2.1.1
  have s9 : I c 9 = (z : Int) := hcs.2.1.2.1
  have tz := hcs.2.1.2.2.1
  have tpz : p ≤ z := hcs.2.1.2.2.2.1
  have th := hcs.2.1.2.2.2.2.1
  have te := hcs.2.1.2.2.2.2.2.1
  have tb := hcs.2.1.2.2.2.2.2.2
  have tbp := tb p
  have hc18 := hcs.2.2.1
  have n3 : I c 3 = (L.length : Int) := hcs.2.2.2.1
  have hll : L.length ≤ p := hcs.2.2.2.2.2
  refine am_e_ss 1 (q := (1, [(0, .inr (.inr (.inl (some c))))], [.inr (.inr (.inl (some c)))], (am_mm D I J ρ))) rfl ?_
  refine am_e_getfield (c := 1) (m := 10) (f := 1) rfl hsc rfl (by decide) (by decide) ?_
  show am_E _ _ _ 4 [(0, .inr (.inr (.inl (some c))))] [.inl ((I c 1))] (am_mm D I J ρ) _
  refine am_e_ss 1 (q := (5, [(0, .inr (.inr (.inl (some c))))], [.inr (.inr (.inl (some c))), .inl ((I c 1))], (am_mm D I J ρ))) rfl ?_
  refine am_e_getfield (c := 1) (m := 10) (f := 9) rfl hsc rfl (by decide) (by decide) ?_
  show am_E _ _ _ 8 [(0, .inr (.inr (.inl (some c))))] [.inl ((I c 9)), .inl ((I c 1))] (am_mm D I J ρ) _
  refine am_e_icmp2 rfl ⟨by omega, by omega⟩ ⟨by omega, by omega⟩ (fun (hw1 : (I c 9) ≤ (I c 1)) => ?_) (fun (hw1 : ¬ ((I c 9) ≤ (I c 1))) => ?_)
  · show am_E _ _ _ 23 [(0, .inr (.inr (.inl (some c))))] [] (am_mm D I J ρ) _
    refine am_e_ss 1 (q := (24, [(0, .inr (.inr (.inl (some c))))], [.inl (-1)], (am_mm D I J ρ))) rfl ?_
    refine am_e_ireturn rfl rfl ?_
    rw [te p (by omega)]
  · show am_E _ _ _ 11 [(0, .inr (.inr (.inl (some c))))] [] (am_mm D I J ρ) _
    refine am_e_ss 1 (q := (12, [(0, .inr (.inr (.inl (some c))))], [.inr (.inr (.inl (some c)))], (am_mm D I J ρ))) rfl ?_
    refine am_e_getfield (c := 1) (m := 10) (f := 8) rfl hsc rfl (by decide) (by decide) ?_
    rw [show am_gf (am_mm D I J ρ) 1 c 8 = .inr (.inr (.inl (some 17))) from (congrArg (fun x => (.inr (.inr (.inl x)) : am_V)) hr8)]
    show am_E _ _ _ 15 [(0, .inr (.inr (.inl (some c))))] [.inr (.inr (.inl (some 17)))] (am_mm D I J ρ) _
    refine am_e_ss 1 (q := (16, [(0, .inr (.inr (.inl (some c))))], [.inr (.inr (.inl (some c))), .inr (.inr (.inl (some 17)))], (am_mm D I J ρ))) rfl ?_
    refine am_e_getfield (c := 1) (m := 10) (f := 1) rfl hsc rfl (by decide) (by decide) ?_
    show am_E _ _ _ 19 [(0, .inr (.inr (.inl (some c))))] [.inl ((I c 1)), .inr (.inr (.inl (some 17)))] (am_mm D I J ρ) _
    refine am_e_iaload (m := 100) rfl rfl (by omega) (by omega) (by omega) ?_
    show am_E _ _ _ 20 [(0, .inr (.inr (.inl (some c))))] [.inl ((I 17 ((I c 1)).toNat))] (am_mm D I J ρ) _
    refine am_e_ss 1 (q := (24, [(0, .inr (.inr (.inl (some c))))], [.inl ((I 17 ((I c 1)).toNat))], (am_mm D I J ρ))) rfl ?_
    refine am_e_ireturn rfl rfl ?_
    rw [show (I c 1).toNat = p by omega, th p (by omega)]
theorem k_take {X : Nat × (Nat → Int)} {D : List (Nat × Nat)} {I J : Nat → Nat → Int} {ρ : Nat → Nat → Option Nat} (d : Nat) {I0 : Nat → Nat → Int} {hs : Nat → Int} {z c p : Nat} {L : List Int} (hsh : k_sh D ρ c) (hcs : k_cs I0 I hs z c (p, some L)) {s : Int} (hs0 : 0 ≤ s ∧ s ≤ 127) : am_E X (d + 1) 8 0 [(0, .inr (.inr (.inl (some c)))), (1, .inl s)] [] (am_mm D I J ρ) (fun r => ∃ K, r = (some (.inl (am_bi (hs p = s))), am_mm D K J ρ) ∧ k_cs I0 K hs z c ((if hs p = s then p + 1 else p, some L))) := by
  have hclk0 := hsh.1
  have hr8 := hsh.2
  have hclk := hclk0
  obtain ⟨⟨hsc, hs1, hs2, hs3, hs4⟩, hr1, hr2, hr3, hr4⟩ := hclk
  have p1 : I c 1 = (p : Int) := hcs.2.1.1
  have s9 : I c 9 = (z : Int) := hcs.2.1.2.1
  have tz := hcs.2.1.2.2.1
  have tpz : p ≤ z := hcs.2.1.2.2.2.1
  have th := hcs.2.1.2.2.2.2.1
  have te := hcs.2.1.2.2.2.2.2.1
  have tb := hcs.2.1.2.2.2.2.2.2
  have tbp := tb p
  have hc18 := hcs.2.2.1
  have n3 : I c 3 = (L.length : Int) := hcs.2.2.2.1
  have hll : L.length ≤ p := hcs.2.2.2.2.2
  refine am_e_ss 1 (q := (1, [(0, .inr (.inr (.inl (some c)))), (1, .inl s)], [.inr (.inr (.inl (some c)))], (am_mm D I J ρ))) rfl ?_
  refine am_e_virtual (Q := fun r => r = (some (.inl ((hs p))), (am_mm D I J ρ))) rfl rfl (Nat.le_of_ble_eq_true rfl) (am_kd_of hsc (by decide)) rfl (Nat.le_of_ble_eq_true rfl) (Nat.le_of_ble_eq_true rfl) (k_peek _ hsh hcs) ?_
  rintro r rfl
  show am_E _ _ _ 4 [(0, .inr (.inr (.inl (some c)))), (1, .inl s)] [.inl ((hs p))] (am_mm D I J ρ) _
  refine am_e_ss 1 (q := (5, [(0, .inr (.inr (.inl (some c)))), (1, .inl s)], [.inl s, .inl ((hs p))], (am_mm D I J ρ))) rfl ?_
  refine am_e_icmp2 rfl ⟨by omega, by omega⟩ ⟨by omega, by omega⟩ (fun (hw1 : (hs p) = s) => ?_) (fun (hw1 : ¬ ((hs p) = s)) => ?_)
  · show am_E _ _ _ 10 [(0, .inr (.inr (.inl (some c)))), (1, .inl s)] [] (am_mm D I J ρ) _
    refine am_e_ss 2 (q := (12, [(0, .inr (.inr (.inl (some c)))), (1, .inl s)], [.inr (.inr (.inl (some c))), .inr (.inr (.inl (some c)))], (am_mm D I J ρ))) rfl ?_
    refine am_e_getfield (c := 1) (m := 10) (f := 1) rfl hsc rfl (by decide) (by decide) ?_
    show am_E _ _ _ 15 [(0, .inr (.inr (.inl (some c)))), (1, .inl s)] [.inl ((I c 1)), .inr (.inr (.inl (some c)))] (am_mm D I J ρ) _
    refine am_e_ss 2 (q := (17, [(0, .inr (.inr (.inl (some c)))), (1, .inl s)], [.inl ((I c 1) + 1), .inr (.inr (.inl (some c)))], (am_mm D I J ρ))) rfl ?_
    refine am_e_putfield (c := 1) (m := 10) (f := 1) (M' := (am_mm D (am_up I c 1 ((I c 1) + 1)) J ρ)) rfl hsc rfl (by decide) (by decide) rfl ?_
    show am_E _ _ _ 20 [(0, .inr (.inr (.inl (some c)))), (1, .inl s)] [] (am_mm D (am_up I c 1 ((I c 1) + 1)) J ρ) _
    have u86 : I c 1 = ((p : Nat) : Int) := hcs.2.1.1
    rw [u86]
    have g86 := k_cs_1 hcs (k_cs_lt hcs (show 0 ≤ hs (p) by omega))
    have gb86 := tb (p + 1)
    generalize am_up I c 1 (((p : Nat) : Int) + 1) = K86 at g86 ⊢
    show am_E _ _ _ 20 [(0, .inr (.inr (.inl (some c)))), (1, .inl s)] [] (am_mm D K86 J ρ) _
    refine am_e_ss 1 (q := (21, [(0, .inr (.inr (.inl (some c)))), (1, .inl s)], [.inl 1], (am_mm D K86 J ρ))) rfl ?_
    refine am_e_ireturn rfl rfl ?_
    rw [am_bi_t (by omega)]
    exact ⟨_, rfl, by rw [if_pos (by omega)]; exact g86⟩
  · show am_E _ _ _ 8 [(0, .inr (.inr (.inl (some c)))), (1, .inl s)] [] (am_mm D I J ρ) _
    refine am_e_ss 1 (q := (9, [(0, .inr (.inr (.inl (some c)))), (1, .inl s)], [.inl 0], (am_mm D I J ρ))) rfl ?_
    refine am_e_ireturn rfl rfl ?_
    rw [am_bi_f (by omega)]
    exact ⟨_, rfl, by rw [if_neg (by omega)]; exact hcs⟩
theorem k_all0 {X : Nat × (Nat → Int)} {D : List (Nat × Nat)} {I J : Nat → Nat → Int} {ρ : Nat → Nat → Option Nat} (d : Nat) {I0 : Nat → Nat → Int} {hs : Nat → Int} {z c p : Nat} {L : List Int} (hsh : k_sh D ρ c) (hcs : k_cs I0 I hs z c (p, some L))  : am_E X (d + 4) 9 0 [(0, .inr (.inr (.inl (some c)))), (1, .inr (.inr (.inr 1)))] [] (am_mm D I J ρ) (fun r => ∃ K, r = (some (.inl (am_bi ((pt_w hs [114, 101, 97, 100] p).2 = true))), am_mm D K J ρ) ∧ k_cs I0 K hs z c (((pt_w hs [114, 101, 97, 100] p).1, some L))) := by
  have hclk0 := hsh.1
  have hr8 := hsh.2
  have hclk := hclk0
  obtain ⟨⟨hsc, hs1, hs2, hs3, hs4⟩, hr1, hr2, hr3, hr4⟩ := hclk
  have p1 : I c 1 = (p : Int) := hcs.2.1.1
  have s9 : I c 9 = (z : Int) := hcs.2.1.2.1
  have tz := hcs.2.1.2.2.1
  have tpz : p ≤ z := hcs.2.1.2.2.2.1
  have th := hcs.2.1.2.2.2.2.1
  have te := hcs.2.1.2.2.2.2.2.1
  have tb := hcs.2.1.2.2.2.2.2.2
  have tbp := tb p
  have hc18 := hcs.2.2.1
  have n3 : I c 3 = (L.length : Int) := hcs.2.2.2.1
  have hll : L.length ≤ p := hcs.2.2.2.2.2
  refine am_e_ss 4 (q := (4, [(2, .inl 0), (0, .inr (.inr (.inl (some c)))), (1, .inr (.inr (.inr 1)))], [.inr (.inr (.inr 1)), .inl 0], (am_mm D I J ρ))) rfl ?_
  refine am_e_virtual (Q := fun r => r = (some (.inl 4), (am_mm D I J ρ))) rfl rfl (Nat.le_of_ble_eq_true rfl) rfl rfl (Nat.le_of_ble_eq_true rfl) (Nat.le_of_ble_eq_true rfl) (am_len_0 _) ?_
  rintro r rfl
  show am_E _ _ _ 7 [(2, .inl 0), (0, .inr (.inr (.inl (some c)))), (1, .inr (.inr (.inr 1)))] [.inl 4, .inl 0] (am_mm D I J ρ) _
  refine am_e_s (q := (10, [(2, .inl 0), (0, .inr (.inr (.inl (some c)))), (1, .inr (.inr (.inr 1)))], [], (am_mm D I J ρ))) rfl rfl ?_
  refine am_e_ss 3 (q := (13, [(2, .inl 0), (0, .inr (.inr (.inl (some c)))), (1, .inr (.inr (.inr 1)))], [.inl 0, .inr (.inr (.inr 1)), .inr (.inr (.inl (some c)))], (am_mm D I J ρ))) rfl ?_
  refine am_e_virtual (Q := fun r => r = (some (.inl 114), (am_mm D I J ρ))) rfl rfl (Nat.le_of_ble_eq_true rfl) rfl rfl (Nat.le_of_ble_eq_true rfl) (Nat.le_of_ble_eq_true rfl) (am_chr_0_0 _) ?_
  rintro r rfl
  show am_E _ _ _ 16 [(2, .inl 0), (0, .inr (.inr (.inl (some c)))), (1, .inr (.inr (.inr 1)))] [.inl 114, .inr (.inr (.inl (some c)))] (am_mm D I J ρ) _
  refine am_e_virtual (Q := fun r => ∃ K87, r = (some (.inl ((am_bi (hs p = 114)))), (am_mm D K87 J ρ)) ∧ k_cs I0 K87 hs z c (((if hs p = 114 then p + 1 else p), some L))) rfl rfl (Nat.le_of_ble_eq_true rfl) (am_kd_of hsc (by decide)) rfl (Nat.le_of_ble_eq_true rfl) (Nat.le_of_ble_eq_true rfl) (k_take _ hsh hcs (s := 114) (by decide)) ?_
  rintro r ⟨K87, rfl, g87⟩
  show am_E _ _ _ 19 [(2, .inl 0), (0, .inr (.inr (.inl (some c)))), (1, .inr (.inr (.inr 1)))] [.inl ((am_bi (hs p = 114)))] (am_mm D K87 J ρ) _
  refine am_e_ifne rfl (fun hw2 => ?_) (fun hw2 => ?_)
  · show am_E _ _ _ 24 [(2, .inl 0), (0, .inr (.inr (.inl (some c)))), (1, .inr (.inr (.inr 1)))] [] (am_mm D K87 J ρ) _
    rw [if_pos hw2] at g87
    have tb1 := tb (p + 1)
    show am_E _ _ _ 24 [(2, .inl 0), (0, .inr (.inr (.inl (some c)))), (1, .inr (.inr (.inr 1)))] [] (am_mm D K87 J ρ) _
    refine am_e_ss 4 (q := (4, [(2, .inl (0 + 1)), (0, .inr (.inr (.inl (some c)))), (1, .inr (.inr (.inr 1)))], [.inr (.inr (.inr 1)), .inl (0 + 1)], (am_mm D K87 J ρ))) rfl ?_
    refine am_e_virtual (Q := fun r => r = (some (.inl 4), (am_mm D K87 J ρ))) rfl rfl (Nat.le_of_ble_eq_true rfl) rfl rfl (Nat.le_of_ble_eq_true rfl) (Nat.le_of_ble_eq_true rfl) (am_len_0 _) ?_
    rintro r rfl
    show am_E _ _ _ 7 [(2, .inl (0 + 1)), (0, .inr (.inr (.inl (some c)))), (1, .inr (.inr (.inr 1)))] [.inl 4, .inl (0 + 1)] (am_mm D K87 J ρ) _
    refine am_e_s (q := (10, [(2, .inl (0 + 1)), (0, .inr (.inr (.inl (some c)))), (1, .inr (.inr (.inr 1)))], [], (am_mm D K87 J ρ))) rfl rfl ?_
    refine am_e_ss 3 (q := (13, [(2, .inl (0 + 1)), (0, .inr (.inr (.inl (some c)))), (1, .inr (.inr (.inr 1)))], [.inl (0 + 1), .inr (.inr (.inr 1)), .inr (.inr (.inl (some c)))], (am_mm D K87 J ρ))) rfl ?_
    refine am_e_virtual (Q := fun r => r = (some (.inl 101), (am_mm D K87 J ρ))) rfl rfl (Nat.le_of_ble_eq_true rfl) rfl rfl (Nat.le_of_ble_eq_true rfl) (Nat.le_of_ble_eq_true rfl) (am_chr_0_1 _) ?_
    rintro r rfl
    show am_E _ _ _ 16 [(2, .inl (0 + 1)), (0, .inr (.inr (.inl (some c)))), (1, .inr (.inr (.inr 1)))] [.inl 101, .inr (.inr (.inl (some c)))] (am_mm D K87 J ρ) _
    refine am_e_virtual (Q := fun r => ∃ K88, r = (some (.inl ((am_bi (hs (p + 1) = 101)))), (am_mm D K88 J ρ)) ∧ k_cs I0 K88 hs z c (((if hs (p + 1) = 101 then p + 1 + 1 else p + 1), some L))) rfl rfl (Nat.le_of_ble_eq_true rfl) (am_kd_of hsc (by decide)) rfl (Nat.le_of_ble_eq_true rfl) (Nat.le_of_ble_eq_true rfl) (k_take _ hsh g87 (s := 101) (by decide)) ?_
    rintro r ⟨K88, rfl, g88⟩
    show am_E _ _ _ 19 [(2, .inl (0 + 1)), (0, .inr (.inr (.inl (some c)))), (1, .inr (.inr (.inr 1)))] [.inl ((am_bi (hs (p + 1) = 101)))] (am_mm D K88 J ρ) _
    refine am_e_ifne rfl (fun hw4 => ?_) (fun hw4 => ?_)
    · show am_E _ _ _ 24 [(2, .inl (0 + 1)), (0, .inr (.inr (.inl (some c)))), (1, .inr (.inr (.inr 1)))] [] (am_mm D K88 J ρ) _
      rw [if_pos hw4] at g88
      have tb2 := tb (p + 1 + 1)
      show am_E _ _ _ 24 [(2, .inl (0 + 1)), (0, .inr (.inr (.inl (some c)))), (1, .inr (.inr (.inr 1)))] [] (am_mm D K88 J ρ) _
      refine am_e_ss 4 (q := (4, [(2, .inl ((0 + 1) + 1)), (0, .inr (.inr (.inl (some c)))), (1, .inr (.inr (.inr 1)))], [.inr (.inr (.inr 1)), .inl ((0 + 1) + 1)], (am_mm D K88 J ρ))) rfl ?_
      refine am_e_virtual (Q := fun r => r = (some (.inl 4), (am_mm D K88 J ρ))) rfl rfl (Nat.le_of_ble_eq_true rfl) rfl rfl (Nat.le_of_ble_eq_true rfl) (Nat.le_of_ble_eq_true rfl) (am_len_0 _) ?_
      rintro r rfl
      show am_E _ _ _ 7 [(2, .inl ((0 + 1) + 1)), (0, .inr (.inr (.inl (some c)))), (1, .inr (.inr (.inr 1)))] [.inl 4, .inl ((0 + 1) + 1)] (am_mm D K88 J ρ) _
      refine am_e_s (q := (10, [(2, .inl ((0 + 1) + 1)), (0, .inr (.inr (.inl (some c)))), (1, .inr (.inr (.inr 1)))], [], (am_mm D K88 J ρ))) rfl rfl ?_
      refine am_e_ss 3 (q := (13, [(2, .inl ((0 + 1) + 1)), (0, .inr (.inr (.inl (some c)))), (1, .inr (.inr (.inr 1)))], [.inl ((0 + 1) + 1), .inr (.inr (.inr 1)), .inr (.inr (.inl (some c)))], (am_mm D K88 J ρ))) rfl ?_
      refine am_e_virtual (Q := fun r => r = (some (.inl 97), (am_mm D K88 J ρ))) rfl rfl (Nat.le_of_ble_eq_true rfl) rfl rfl (Nat.le_of_ble_eq_true rfl) (Nat.le_of_ble_eq_true rfl) (am_chr_0_2 _) ?_
      rintro r rfl
      show am_E _ _ _ 16 [(2, .inl ((0 + 1) + 1)), (0, .inr (.inr (.inl (some c)))), (1, .inr (.inr (.inr 1)))] [.inl 97, .inr (.inr (.inl (some c)))] (am_mm D K88 J ρ) _
      refine am_e_virtual (Q := fun r => ∃ K89, r = (some (.inl ((am_bi (hs (p + 1 + 1) = 97)))), (am_mm D K89 J ρ)) ∧ k_cs I0 K89 hs z c (((if hs (p + 1 + 1) = 97 then p + 1 + 1 + 1 else p + 1 + 1), some L))) rfl rfl (Nat.le_of_ble_eq_true rfl) (am_kd_of hsc (by decide)) rfl (Nat.le_of_ble_eq_true rfl) (Nat.le_of_ble_eq_true rfl) (k_take _ hsh g88 (s := 97) (by decide)) ?_
      rintro r ⟨K89, rfl, g89⟩
      show am_E _ _ _ 19 [(2, .inl ((0 + 1) + 1)), (0, .inr (.inr (.inl (some c)))), (1, .inr (.inr (.inr 1)))] [.inl ((am_bi (hs (p + 1 + 1) = 97)))] (am_mm D K89 J ρ) _
      refine am_e_ifne rfl (fun hw6 => ?_) (fun hw6 => ?_)
      · show am_E _ _ _ 24 [(2, .inl ((0 + 1) + 1)), (0, .inr (.inr (.inl (some c)))), (1, .inr (.inr (.inr 1)))] [] (am_mm D K89 J ρ) _
        rw [if_pos hw6] at g89
        have tb3 := tb (p + 1 + 1 + 1)
        show am_E _ _ _ 24 [(2, .inl ((0 + 1) + 1)), (0, .inr (.inr (.inl (some c)))), (1, .inr (.inr (.inr 1)))] [] (am_mm D K89 J ρ) _
        refine am_e_ss 4 (q := (4, [(2, .inl (((0 + 1) + 1) + 1)), (0, .inr (.inr (.inl (some c)))), (1, .inr (.inr (.inr 1)))], [.inr (.inr (.inr 1)), .inl (((0 + 1) + 1) + 1)], (am_mm D K89 J ρ))) rfl ?_
        refine am_e_virtual (Q := fun r => r = (some (.inl 4), (am_mm D K89 J ρ))) rfl rfl (Nat.le_of_ble_eq_true rfl) rfl rfl (Nat.le_of_ble_eq_true rfl) (Nat.le_of_ble_eq_true rfl) (am_len_0 _) ?_
        rintro r rfl
        show am_E _ _ _ 7 [(2, .inl (((0 + 1) + 1) + 1)), (0, .inr (.inr (.inl (some c)))), (1, .inr (.inr (.inr 1)))] [.inl 4, .inl (((0 + 1) + 1) + 1)] (am_mm D K89 J ρ) _
        refine am_e_s (q := (10, [(2, .inl (((0 + 1) + 1) + 1)), (0, .inr (.inr (.inl (some c)))), (1, .inr (.inr (.inr 1)))], [], (am_mm D K89 J ρ))) rfl rfl ?_
        refine am_e_ss 3 (q := (13, [(2, .inl (((0 + 1) + 1) + 1)), (0, .inr (.inr (.inl (some c)))), (1, .inr (.inr (.inr 1)))], [.inl (((0 + 1) + 1) + 1), .inr (.inr (.inr 1)), .inr (.inr (.inl (some c)))], (am_mm D K89 J ρ))) rfl ?_
        refine am_e_virtual (Q := fun r => r = (some (.inl 100), (am_mm D K89 J ρ))) rfl rfl (Nat.le_of_ble_eq_true rfl) rfl rfl (Nat.le_of_ble_eq_true rfl) (Nat.le_of_ble_eq_true rfl) (am_chr_0_3 _) ?_
        rintro r rfl
        show am_E _ _ _ 16 [(2, .inl (((0 + 1) + 1) + 1)), (0, .inr (.inr (.inl (some c)))), (1, .inr (.inr (.inr 1)))] [.inl 100, .inr (.inr (.inl (some c)))] (am_mm D K89 J ρ) _
        refine am_e_virtual (Q := fun r => ∃ K90, r = (some (.inl ((am_bi (hs (p + 1 + 1 + 1) = 100)))), (am_mm D K90 J ρ)) ∧ k_cs I0 K90 hs z c (((if hs (p + 1 + 1 + 1) = 100 then p + 1 + 1 + 1 + 1 else p + 1 + 1 + 1), some L))) rfl rfl (Nat.le_of_ble_eq_true rfl) (am_kd_of hsc (by decide)) rfl (Nat.le_of_ble_eq_true rfl) (Nat.le_of_ble_eq_true rfl) (k_take _ hsh g89 (s := 100) (by decide)) ?_
        rintro r ⟨K90, rfl, g90⟩
        show am_E _ _ _ 19 [(2, .inl (((0 + 1) + 1) + 1)), (0, .inr (.inr (.inl (some c)))), (1, .inr (.inr (.inr 1)))] [.inl ((am_bi (hs (p + 1 + 1 + 1) = 100)))] (am_mm D K90 J ρ) _
        refine am_e_ifne rfl (fun hw8 => ?_) (fun hw8 => ?_)
        · show am_E _ _ _ 24 [(2, .inl (((0 + 1) + 1) + 1)), (0, .inr (.inr (.inl (some c)))), (1, .inr (.inr (.inr 1)))] [] (am_mm D K90 J ρ) _
          rw [if_pos hw8] at g90
          have tb4 := tb (p + 1 + 1 + 1 + 1)
          show am_E _ _ _ 24 [(2, .inl (((0 + 1) + 1) + 1)), (0, .inr (.inr (.inl (some c)))), (1, .inr (.inr (.inr 1)))] [] (am_mm D K90 J ρ) _
          refine am_e_ss 4 (q := (4, [(2, .inl ((((0 + 1) + 1) + 1) + 1)), (0, .inr (.inr (.inl (some c)))), (1, .inr (.inr (.inr 1)))], [.inr (.inr (.inr 1)), .inl ((((0 + 1) + 1) + 1) + 1)], (am_mm D K90 J ρ))) rfl ?_
          refine am_e_virtual (Q := fun r => r = (some (.inl 4), (am_mm D K90 J ρ))) rfl rfl (Nat.le_of_ble_eq_true rfl) rfl rfl (Nat.le_of_ble_eq_true rfl) (Nat.le_of_ble_eq_true rfl) (am_len_0 _) ?_
          rintro r rfl
          show am_E _ _ _ 7 [(2, .inl ((((0 + 1) + 1) + 1) + 1)), (0, .inr (.inr (.inl (some c)))), (1, .inr (.inr (.inr 1)))] [.inl 4, .inl ((((0 + 1) + 1) + 1) + 1)] (am_mm D K90 J ρ) _
          refine am_e_s (q := (30, [(2, .inl ((((0 + 1) + 1) + 1) + 1)), (0, .inr (.inr (.inl (some c)))), (1, .inr (.inr (.inr 1)))], [], (am_mm D K90 J ρ))) rfl rfl ?_
          refine am_e_ss 1 (q := (31, [(2, .inl ((((0 + 1) + 1) + 1) + 1)), (0, .inr (.inr (.inl (some c)))), (1, .inr (.inr (.inr 1)))], [.inl 1], (am_mm D K90 J ρ))) rfl ?_
          refine am_e_ireturn rfl rfl ?_
          have ew : pt_w hs [114, 101, 97, 100] p = (p + 1 + 1 + 1 + 1, true) := ((pt_w_t hw2).trans ((pt_w_t hw4).trans ((pt_w_t hw6).trans ((pt_w_t hw8).trans rfl))))
          rw [ew]
          exact ⟨_, by rw [am_bi_t rfl], g90⟩
        · show am_E _ _ _ 22 [(2, .inl (((0 + 1) + 1) + 1)), (0, .inr (.inr (.inl (some c)))), (1, .inr (.inr (.inr 1)))] [] (am_mm D K90 J ρ) _
          refine am_e_ss 1 (q := (23, [(2, .inl (((0 + 1) + 1) + 1)), (0, .inr (.inr (.inl (some c)))), (1, .inr (.inr (.inr 1)))], [.inl 0], (am_mm D K90 J ρ))) rfl ?_
          refine am_e_ireturn rfl rfl ?_
          rw [if_neg hw8] at g90
          have ew : pt_w hs [114, 101, 97, 100] p = (p + 1 + 1 + 1, false) := ((pt_w_t hw2).trans ((pt_w_t hw4).trans ((pt_w_t hw6).trans (pt_w_f hw8))))
          rw [ew]
          exact ⟨_, by rw [am_bi_f (show ¬ (false = true) by decide)], g90⟩
      · show am_E _ _ _ 22 [(2, .inl ((0 + 1) + 1)), (0, .inr (.inr (.inl (some c)))), (1, .inr (.inr (.inr 1)))] [] (am_mm D K89 J ρ) _
        refine am_e_ss 1 (q := (23, [(2, .inl ((0 + 1) + 1)), (0, .inr (.inr (.inl (some c)))), (1, .inr (.inr (.inr 1)))], [.inl 0], (am_mm D K89 J ρ))) rfl ?_
        refine am_e_ireturn rfl rfl ?_
        rw [if_neg hw6] at g89
        have ew : pt_w hs [114, 101, 97, 100] p = (p + 1 + 1, false) := ((pt_w_t hw2).trans ((pt_w_t hw4).trans (pt_w_f hw6)))
        rw [ew]
        exact ⟨_, by rw [am_bi_f (show ¬ (false = true) by decide)], g89⟩
    · show am_E _ _ _ 22 [(2, .inl (0 + 1)), (0, .inr (.inr (.inl (some c)))), (1, .inr (.inr (.inr 1)))] [] (am_mm D K88 J ρ) _
      refine am_e_ss 1 (q := (23, [(2, .inl (0 + 1)), (0, .inr (.inr (.inl (some c)))), (1, .inr (.inr (.inr 1)))], [.inl 0], (am_mm D K88 J ρ))) rfl ?_
      refine am_e_ireturn rfl rfl ?_
      rw [if_neg hw4] at g88
      have ew : pt_w hs [114, 101, 97, 100] p = (p + 1, false) := ((pt_w_t hw2).trans (pt_w_f hw4))
      rw [ew]
      exact ⟨_, by rw [am_bi_f (show ¬ (false = true) by decide)], g88⟩
  · show am_E _ _ _ 22 [(2, .inl 0), (0, .inr (.inr (.inl (some c)))), (1, .inr (.inr (.inr 1)))] [] (am_mm D K87 J ρ) _
    refine am_e_ss 1 (q := (23, [(2, .inl 0), (0, .inr (.inr (.inl (some c)))), (1, .inr (.inr (.inr 1)))], [.inl 0], (am_mm D K87 J ρ))) rfl ?_
    refine am_e_ireturn rfl rfl ?_
    rw [if_neg hw2] at g87
    have ew : pt_w hs [114, 101, 97, 100] p = (p, false) := (pt_w_f hw2)
    rw [ew]
    exact ⟨_, by rw [am_bi_f (show ¬ (false = true) by decide)], g87⟩
theorem k_all1 {X : Nat × (Nat → Int)} {D : List (Nat × Nat)} {I J : Nat → Nat → Int} {ρ : Nat → Nat → Option Nat} (d : Nat) {I0 : Nat → Nat → Int} {hs : Nat → Int} {z c p : Nat} {L : List Int} (hsh : k_sh D ρ c) (hcs : k_cs I0 I hs z c (p, some L))  : am_E X (d + 4) 9 0 [(0, .inr (.inr (.inl (some c)))), (1, .inr (.inr (.inr 3)))] [] (am_mm D I J ρ) (fun r => ∃ K, r = (some (.inl (am_bi ((pt_w hs [99, 111, 109, 101] p).2 = true))), am_mm D K J ρ) ∧ k_cs I0 K hs z c (((pt_w hs [99, 111, 109, 101] p).1, some L))) := by
  have hclk0 := hsh.1
  have hr8 := hsh.2
  have hclk := hclk0
  obtain ⟨⟨hsc, hs1, hs2, hs3, hs4⟩, hr1, hr2, hr3, hr4⟩ := hclk
  have p1 : I c 1 = (p : Int) := hcs.2.1.1
  have s9 : I c 9 = (z : Int) := hcs.2.1.2.1
  have tz := hcs.2.1.2.2.1
  have tpz : p ≤ z := hcs.2.1.2.2.2.1
  have th := hcs.2.1.2.2.2.2.1
  have te := hcs.2.1.2.2.2.2.2.1
  have tb := hcs.2.1.2.2.2.2.2.2
  have tbp := tb p
  have hc18 := hcs.2.2.1
  have n3 : I c 3 = (L.length : Int) := hcs.2.2.2.1
  have hll : L.length ≤ p := hcs.2.2.2.2.2
  refine am_e_ss 4 (q := (4, [(2, .inl 0), (0, .inr (.inr (.inl (some c)))), (1, .inr (.inr (.inr 3)))], [.inr (.inr (.inr 3)), .inl 0], (am_mm D I J ρ))) rfl ?_
  refine am_e_virtual (Q := fun r => r = (some (.inl 4), (am_mm D I J ρ))) rfl rfl (Nat.le_of_ble_eq_true rfl) rfl rfl (Nat.le_of_ble_eq_true rfl) (Nat.le_of_ble_eq_true rfl) (am_len_1 _) ?_
  rintro r rfl
  show am_E _ _ _ 7 [(2, .inl 0), (0, .inr (.inr (.inl (some c)))), (1, .inr (.inr (.inr 3)))] [.inl 4, .inl 0] (am_mm D I J ρ) _
  refine am_e_s (q := (10, [(2, .inl 0), (0, .inr (.inr (.inl (some c)))), (1, .inr (.inr (.inr 3)))], [], (am_mm D I J ρ))) rfl rfl ?_
  refine am_e_ss 3 (q := (13, [(2, .inl 0), (0, .inr (.inr (.inl (some c)))), (1, .inr (.inr (.inr 3)))], [.inl 0, .inr (.inr (.inr 3)), .inr (.inr (.inl (some c)))], (am_mm D I J ρ))) rfl ?_
  refine am_e_virtual (Q := fun r => r = (some (.inl 99), (am_mm D I J ρ))) rfl rfl (Nat.le_of_ble_eq_true rfl) rfl rfl (Nat.le_of_ble_eq_true rfl) (Nat.le_of_ble_eq_true rfl) (am_chr_1_0 _) ?_
  rintro r rfl
  show am_E _ _ _ 16 [(2, .inl 0), (0, .inr (.inr (.inl (some c)))), (1, .inr (.inr (.inr 3)))] [.inl 99, .inr (.inr (.inl (some c)))] (am_mm D I J ρ) _
  refine am_e_virtual (Q := fun r => ∃ K91, r = (some (.inl ((am_bi (hs p = 99)))), (am_mm D K91 J ρ)) ∧ k_cs I0 K91 hs z c (((if hs p = 99 then p + 1 else p), some L))) rfl rfl (Nat.le_of_ble_eq_true rfl) (am_kd_of hsc (by decide)) rfl (Nat.le_of_ble_eq_true rfl) (Nat.le_of_ble_eq_true rfl) (k_take _ hsh hcs (s := 99) (by decide)) ?_
  rintro r ⟨K91, rfl, g91⟩
  show am_E _ _ _ 19 [(2, .inl 0), (0, .inr (.inr (.inl (some c)))), (1, .inr (.inr (.inr 3)))] [.inl ((am_bi (hs p = 99)))] (am_mm D K91 J ρ) _
  refine am_e_ifne rfl (fun hw2 => ?_) (fun hw2 => ?_)
  · show am_E _ _ _ 24 [(2, .inl 0), (0, .inr (.inr (.inl (some c)))), (1, .inr (.inr (.inr 3)))] [] (am_mm D K91 J ρ) _
    rw [if_pos hw2] at g91
    have tb1 := tb (p + 1)
    show am_E _ _ _ 24 [(2, .inl 0), (0, .inr (.inr (.inl (some c)))), (1, .inr (.inr (.inr 3)))] [] (am_mm D K91 J ρ) _
    refine am_e_ss 4 (q := (4, [(2, .inl (0 + 1)), (0, .inr (.inr (.inl (some c)))), (1, .inr (.inr (.inr 3)))], [.inr (.inr (.inr 3)), .inl (0 + 1)], (am_mm D K91 J ρ))) rfl ?_
    refine am_e_virtual (Q := fun r => r = (some (.inl 4), (am_mm D K91 J ρ))) rfl rfl (Nat.le_of_ble_eq_true rfl) rfl rfl (Nat.le_of_ble_eq_true rfl) (Nat.le_of_ble_eq_true rfl) (am_len_1 _) ?_
    rintro r rfl
    show am_E _ _ _ 7 [(2, .inl (0 + 1)), (0, .inr (.inr (.inl (some c)))), (1, .inr (.inr (.inr 3)))] [.inl 4, .inl (0 + 1)] (am_mm D K91 J ρ) _
    refine am_e_s (q := (10, [(2, .inl (0 + 1)), (0, .inr (.inr (.inl (some c)))), (1, .inr (.inr (.inr 3)))], [], (am_mm D K91 J ρ))) rfl rfl ?_
    refine am_e_ss 3 (q := (13, [(2, .inl (0 + 1)), (0, .inr (.inr (.inl (some c)))), (1, .inr (.inr (.inr 3)))], [.inl (0 + 1), .inr (.inr (.inr 3)), .inr (.inr (.inl (some c)))], (am_mm D K91 J ρ))) rfl ?_
    refine am_e_virtual (Q := fun r => r = (some (.inl 111), (am_mm D K91 J ρ))) rfl rfl (Nat.le_of_ble_eq_true rfl) rfl rfl (Nat.le_of_ble_eq_true rfl) (Nat.le_of_ble_eq_true rfl) (am_chr_1_1 _) ?_
    rintro r rfl
    show am_E _ _ _ 16 [(2, .inl (0 + 1)), (0, .inr (.inr (.inl (some c)))), (1, .inr (.inr (.inr 3)))] [.inl 111, .inr (.inr (.inl (some c)))] (am_mm D K91 J ρ) _
    refine am_e_virtual (Q := fun r => ∃ K92, r = (some (.inl ((am_bi (hs (p + 1) = 111)))), (am_mm D K92 J ρ)) ∧ k_cs I0 K92 hs z c (((if hs (p + 1) = 111 then p + 1 + 1 else p + 1), some L))) rfl rfl (Nat.le_of_ble_eq_true rfl) (am_kd_of hsc (by decide)) rfl (Nat.le_of_ble_eq_true rfl) (Nat.le_of_ble_eq_true rfl) (k_take _ hsh g91 (s := 111) (by decide)) ?_
    rintro r ⟨K92, rfl, g92⟩
    show am_E _ _ _ 19 [(2, .inl (0 + 1)), (0, .inr (.inr (.inl (some c)))), (1, .inr (.inr (.inr 3)))] [.inl ((am_bi (hs (p + 1) = 111)))] (am_mm D K92 J ρ) _
    refine am_e_ifne rfl (fun hw4 => ?_) (fun hw4 => ?_)
    · show am_E _ _ _ 24 [(2, .inl (0 + 1)), (0, .inr (.inr (.inl (some c)))), (1, .inr (.inr (.inr 3)))] [] (am_mm D K92 J ρ) _
      rw [if_pos hw4] at g92
      have tb2 := tb (p + 1 + 1)
      show am_E _ _ _ 24 [(2, .inl (0 + 1)), (0, .inr (.inr (.inl (some c)))), (1, .inr (.inr (.inr 3)))] [] (am_mm D K92 J ρ) _
      refine am_e_ss 4 (q := (4, [(2, .inl ((0 + 1) + 1)), (0, .inr (.inr (.inl (some c)))), (1, .inr (.inr (.inr 3)))], [.inr (.inr (.inr 3)), .inl ((0 + 1) + 1)], (am_mm D K92 J ρ))) rfl ?_
      refine am_e_virtual (Q := fun r => r = (some (.inl 4), (am_mm D K92 J ρ))) rfl rfl (Nat.le_of_ble_eq_true rfl) rfl rfl (Nat.le_of_ble_eq_true rfl) (Nat.le_of_ble_eq_true rfl) (am_len_1 _) ?_
      rintro r rfl
      show am_E _ _ _ 7 [(2, .inl ((0 + 1) + 1)), (0, .inr (.inr (.inl (some c)))), (1, .inr (.inr (.inr 3)))] [.inl 4, .inl ((0 + 1) + 1)] (am_mm D K92 J ρ) _
      refine am_e_s (q := (10, [(2, .inl ((0 + 1) + 1)), (0, .inr (.inr (.inl (some c)))), (1, .inr (.inr (.inr 3)))], [], (am_mm D K92 J ρ))) rfl rfl ?_
      refine am_e_ss 3 (q := (13, [(2, .inl ((0 + 1) + 1)), (0, .inr (.inr (.inl (some c)))), (1, .inr (.inr (.inr 3)))], [.inl ((0 + 1) + 1), .inr (.inr (.inr 3)), .inr (.inr (.inl (some c)))], (am_mm D K92 J ρ))) rfl ?_
      refine am_e_virtual (Q := fun r => r = (some (.inl 109), (am_mm D K92 J ρ))) rfl rfl (Nat.le_of_ble_eq_true rfl) rfl rfl (Nat.le_of_ble_eq_true rfl) (Nat.le_of_ble_eq_true rfl) (am_chr_1_2 _) ?_
      rintro r rfl
      show am_E _ _ _ 16 [(2, .inl ((0 + 1) + 1)), (0, .inr (.inr (.inl (some c)))), (1, .inr (.inr (.inr 3)))] [.inl 109, .inr (.inr (.inl (some c)))] (am_mm D K92 J ρ) _
      refine am_e_virtual (Q := fun r => ∃ K93, r = (some (.inl ((am_bi (hs (p + 1 + 1) = 109)))), (am_mm D K93 J ρ)) ∧ k_cs I0 K93 hs z c (((if hs (p + 1 + 1) = 109 then p + 1 + 1 + 1 else p + 1 + 1), some L))) rfl rfl (Nat.le_of_ble_eq_true rfl) (am_kd_of hsc (by decide)) rfl (Nat.le_of_ble_eq_true rfl) (Nat.le_of_ble_eq_true rfl) (k_take _ hsh g92 (s := 109) (by decide)) ?_
      rintro r ⟨K93, rfl, g93⟩
      show am_E _ _ _ 19 [(2, .inl ((0 + 1) + 1)), (0, .inr (.inr (.inl (some c)))), (1, .inr (.inr (.inr 3)))] [.inl ((am_bi (hs (p + 1 + 1) = 109)))] (am_mm D K93 J ρ) _
      refine am_e_ifne rfl (fun hw6 => ?_) (fun hw6 => ?_)
      · show am_E _ _ _ 24 [(2, .inl ((0 + 1) + 1)), (0, .inr (.inr (.inl (some c)))), (1, .inr (.inr (.inr 3)))] [] (am_mm D K93 J ρ) _
        rw [if_pos hw6] at g93
        have tb3 := tb (p + 1 + 1 + 1)
        show am_E _ _ _ 24 [(2, .inl ((0 + 1) + 1)), (0, .inr (.inr (.inl (some c)))), (1, .inr (.inr (.inr 3)))] [] (am_mm D K93 J ρ) _
        refine am_e_ss 4 (q := (4, [(2, .inl (((0 + 1) + 1) + 1)), (0, .inr (.inr (.inl (some c)))), (1, .inr (.inr (.inr 3)))], [.inr (.inr (.inr 3)), .inl (((0 + 1) + 1) + 1)], (am_mm D K93 J ρ))) rfl ?_
        refine am_e_virtual (Q := fun r => r = (some (.inl 4), (am_mm D K93 J ρ))) rfl rfl (Nat.le_of_ble_eq_true rfl) rfl rfl (Nat.le_of_ble_eq_true rfl) (Nat.le_of_ble_eq_true rfl) (am_len_1 _) ?_
        rintro r rfl
        show am_E _ _ _ 7 [(2, .inl (((0 + 1) + 1) + 1)), (0, .inr (.inr (.inl (some c)))), (1, .inr (.inr (.inr 3)))] [.inl 4, .inl (((0 + 1) + 1) + 1)] (am_mm D K93 J ρ) _
        refine am_e_s (q := (10, [(2, .inl (((0 + 1) + 1) + 1)), (0, .inr (.inr (.inl (some c)))), (1, .inr (.inr (.inr 3)))], [], (am_mm D K93 J ρ))) rfl rfl ?_
        refine am_e_ss 3 (q := (13, [(2, .inl (((0 + 1) + 1) + 1)), (0, .inr (.inr (.inl (some c)))), (1, .inr (.inr (.inr 3)))], [.inl (((0 + 1) + 1) + 1), .inr (.inr (.inr 3)), .inr (.inr (.inl (some c)))], (am_mm D K93 J ρ))) rfl ?_
        refine am_e_virtual (Q := fun r => r = (some (.inl 101), (am_mm D K93 J ρ))) rfl rfl (Nat.le_of_ble_eq_true rfl) rfl rfl (Nat.le_of_ble_eq_true rfl) (Nat.le_of_ble_eq_true rfl) (am_chr_1_3 _) ?_
        rintro r rfl
        show am_E _ _ _ 16 [(2, .inl (((0 + 1) + 1) + 1)), (0, .inr (.inr (.inl (some c)))), (1, .inr (.inr (.inr 3)))] [.inl 101, .inr (.inr (.inl (some c)))] (am_mm D K93 J ρ) _
        refine am_e_virtual (Q := fun r => ∃ K94, r = (some (.inl ((am_bi (hs (p + 1 + 1 + 1) = 101)))), (am_mm D K94 J ρ)) ∧ k_cs I0 K94 hs z c (((if hs (p + 1 + 1 + 1) = 101 then p + 1 + 1 + 1 + 1 else p + 1 + 1 + 1), some L))) rfl rfl (Nat.le_of_ble_eq_true rfl) (am_kd_of hsc (by decide)) rfl (Nat.le_of_ble_eq_true rfl) (Nat.le_of_ble_eq_true rfl) (k_take _ hsh g93 (s := 101) (by decide)) ?_
        rintro r ⟨K94, rfl, g94⟩
        show am_E _ _ _ 19 [(2, .inl (((0 + 1) + 1) + 1)), (0, .inr (.inr (.inl (some c)))), (1, .inr (.inr (.inr 3)))] [.inl ((am_bi (hs (p + 1 + 1 + 1) = 101)))] (am_mm D K94 J ρ) _
        refine am_e_ifne rfl (fun hw8 => ?_) (fun hw8 => ?_)
        · show am_E _ _ _ 24 [(2, .inl (((0 + 1) + 1) + 1)), (0, .inr (.inr (.inl (some c)))), (1, .inr (.inr (.inr 3)))] [] (am_mm D K94 J ρ) _
          rw [if_pos hw8] at g94
          have tb4 := tb (p + 1 + 1 + 1 + 1)
          show am_E _ _ _ 24 [(2, .inl (((0 + 1) + 1) + 1)), (0, .inr (.inr (.inl (some c)))), (1, .inr (.inr (.inr 3)))] [] (am_mm D K94 J ρ) _
          refine am_e_ss 4 (q := (4, [(2, .inl ((((0 + 1) + 1) + 1) + 1)), (0, .inr (.inr (.inl (some c)))), (1, .inr (.inr (.inr 3)))], [.inr (.inr (.inr 3)), .inl ((((0 + 1) + 1) + 1) + 1)], (am_mm D K94 J ρ))) rfl ?_
          refine am_e_virtual (Q := fun r => r = (some (.inl 4), (am_mm D K94 J ρ))) rfl rfl (Nat.le_of_ble_eq_true rfl) rfl rfl (Nat.le_of_ble_eq_true rfl) (Nat.le_of_ble_eq_true rfl) (am_len_1 _) ?_
          rintro r rfl
          show am_E _ _ _ 7 [(2, .inl ((((0 + 1) + 1) + 1) + 1)), (0, .inr (.inr (.inl (some c)))), (1, .inr (.inr (.inr 3)))] [.inl 4, .inl ((((0 + 1) + 1) + 1) + 1)] (am_mm D K94 J ρ) _
          refine am_e_s (q := (30, [(2, .inl ((((0 + 1) + 1) + 1) + 1)), (0, .inr (.inr (.inl (some c)))), (1, .inr (.inr (.inr 3)))], [], (am_mm D K94 J ρ))) rfl rfl ?_
          refine am_e_ss 1 (q := (31, [(2, .inl ((((0 + 1) + 1) + 1) + 1)), (0, .inr (.inr (.inl (some c)))), (1, .inr (.inr (.inr 3)))], [.inl 1], (am_mm D K94 J ρ))) rfl ?_
          refine am_e_ireturn rfl rfl ?_
          have ew : pt_w hs [99, 111, 109, 101] p = (p + 1 + 1 + 1 + 1, true) := ((pt_w_t hw2).trans ((pt_w_t hw4).trans ((pt_w_t hw6).trans ((pt_w_t hw8).trans rfl))))
          rw [ew]
          exact ⟨_, by rw [am_bi_t rfl], g94⟩
        · show am_E _ _ _ 22 [(2, .inl (((0 + 1) + 1) + 1)), (0, .inr (.inr (.inl (some c)))), (1, .inr (.inr (.inr 3)))] [] (am_mm D K94 J ρ) _
          refine am_e_ss 1 (q := (23, [(2, .inl (((0 + 1) + 1) + 1)), (0, .inr (.inr (.inl (some c)))), (1, .inr (.inr (.inr 3)))], [.inl 0], (am_mm D K94 J ρ))) rfl ?_
          refine am_e_ireturn rfl rfl ?_
          rw [if_neg hw8] at g94
          have ew : pt_w hs [99, 111, 109, 101] p = (p + 1 + 1 + 1, false) := ((pt_w_t hw2).trans ((pt_w_t hw4).trans ((pt_w_t hw6).trans (pt_w_f hw8))))
          rw [ew]
          exact ⟨_, by rw [am_bi_f (show ¬ (false = true) by decide)], g94⟩
      · show am_E _ _ _ 22 [(2, .inl ((0 + 1) + 1)), (0, .inr (.inr (.inl (some c)))), (1, .inr (.inr (.inr 3)))] [] (am_mm D K93 J ρ) _
        refine am_e_ss 1 (q := (23, [(2, .inl ((0 + 1) + 1)), (0, .inr (.inr (.inl (some c)))), (1, .inr (.inr (.inr 3)))], [.inl 0], (am_mm D K93 J ρ))) rfl ?_
        refine am_e_ireturn rfl rfl ?_
        rw [if_neg hw6] at g93
        have ew : pt_w hs [99, 111, 109, 101] p = (p + 1 + 1, false) := ((pt_w_t hw2).trans ((pt_w_t hw4).trans (pt_w_f hw6)))
        rw [ew]
        exact ⟨_, by rw [am_bi_f (show ¬ (false = true) by decide)], g93⟩
    · show am_E _ _ _ 22 [(2, .inl (0 + 1)), (0, .inr (.inr (.inl (some c)))), (1, .inr (.inr (.inr 3)))] [] (am_mm D K92 J ρ) _
      refine am_e_ss 1 (q := (23, [(2, .inl (0 + 1)), (0, .inr (.inr (.inl (some c)))), (1, .inr (.inr (.inr 3)))], [.inl 0], (am_mm D K92 J ρ))) rfl ?_
      refine am_e_ireturn rfl rfl ?_
      rw [if_neg hw4] at g92
      have ew : pt_w hs [99, 111, 109, 101] p = (p + 1, false) := ((pt_w_t hw2).trans (pt_w_f hw4))
      rw [ew]
      exact ⟨_, by rw [am_bi_f (show ¬ (false = true) by decide)], g92⟩
  · show am_E _ _ _ 22 [(2, .inl 0), (0, .inr (.inr (.inl (some c)))), (1, .inr (.inr (.inr 3)))] [] (am_mm D K91 J ρ) _
    refine am_e_ss 1 (q := (23, [(2, .inl 0), (0, .inr (.inr (.inl (some c)))), (1, .inr (.inr (.inr 3)))], [.inl 0], (am_mm D K91 J ρ))) rfl ?_
    refine am_e_ireturn rfl rfl ?_
    rw [if_neg hw2] at g91
    have ew : pt_w hs [99, 111, 109, 101] p = (p, false) := (pt_w_f hw2)
    rw [ew]
    exact ⟨_, by rw [am_bi_f (show ¬ (false = true) by decide)], g91⟩
theorem k_all2 {X : Nat × (Nat → Int)} {D : List (Nat × Nat)} {I J : Nat → Nat → Int} {ρ : Nat → Nat → Option Nat} (d : Nat) {I0 : Nat → Nat → Int} {hs : Nat → Int} {z c p : Nat} {L : List Int} (hsh : k_sh D ρ c) (hcs : k_cs I0 I hs z c (p, some L))  : am_E X (d + 4) 9 0 [(0, .inr (.inr (.inl (some c)))), (1, .inr (.inr (.inr 5)))] [] (am_mm D I J ρ) (fun r => ∃ K, r = (some (.inl (am_bi ((pt_w hs [105, 107, 101] p).2 = true))), am_mm D K J ρ) ∧ k_cs I0 K hs z c (((pt_w hs [105, 107, 101] p).1, some L))) := by
  have hclk0 := hsh.1
  have hr8 := hsh.2
  have hclk := hclk0
  obtain ⟨⟨hsc, hs1, hs2, hs3, hs4⟩, hr1, hr2, hr3, hr4⟩ := hclk
  have p1 : I c 1 = (p : Int) := hcs.2.1.1
  have s9 : I c 9 = (z : Int) := hcs.2.1.2.1
  have tz := hcs.2.1.2.2.1
  have tpz : p ≤ z := hcs.2.1.2.2.2.1
  have th := hcs.2.1.2.2.2.2.1
  have te := hcs.2.1.2.2.2.2.2.1
  have tb := hcs.2.1.2.2.2.2.2.2
  have tbp := tb p
  have hc18 := hcs.2.2.1
  have n3 : I c 3 = (L.length : Int) := hcs.2.2.2.1
  have hll : L.length ≤ p := hcs.2.2.2.2.2
  refine am_e_ss 4 (q := (4, [(2, .inl 0), (0, .inr (.inr (.inl (some c)))), (1, .inr (.inr (.inr 5)))], [.inr (.inr (.inr 5)), .inl 0], (am_mm D I J ρ))) rfl ?_
  refine am_e_virtual (Q := fun r => r = (some (.inl 3), (am_mm D I J ρ))) rfl rfl (Nat.le_of_ble_eq_true rfl) rfl rfl (Nat.le_of_ble_eq_true rfl) (Nat.le_of_ble_eq_true rfl) (am_len_2 _) ?_
  rintro r rfl
  show am_E _ _ _ 7 [(2, .inl 0), (0, .inr (.inr (.inl (some c)))), (1, .inr (.inr (.inr 5)))] [.inl 3, .inl 0] (am_mm D I J ρ) _
  refine am_e_s (q := (10, [(2, .inl 0), (0, .inr (.inr (.inl (some c)))), (1, .inr (.inr (.inr 5)))], [], (am_mm D I J ρ))) rfl rfl ?_
  refine am_e_ss 3 (q := (13, [(2, .inl 0), (0, .inr (.inr (.inl (some c)))), (1, .inr (.inr (.inr 5)))], [.inl 0, .inr (.inr (.inr 5)), .inr (.inr (.inl (some c)))], (am_mm D I J ρ))) rfl ?_
  refine am_e_virtual (Q := fun r => r = (some (.inl 105), (am_mm D I J ρ))) rfl rfl (Nat.le_of_ble_eq_true rfl) rfl rfl (Nat.le_of_ble_eq_true rfl) (Nat.le_of_ble_eq_true rfl) (am_chr_2_0 _) ?_
  rintro r rfl
  show am_E _ _ _ 16 [(2, .inl 0), (0, .inr (.inr (.inl (some c)))), (1, .inr (.inr (.inr 5)))] [.inl 105, .inr (.inr (.inl (some c)))] (am_mm D I J ρ) _
  refine am_e_virtual (Q := fun r => ∃ K95, r = (some (.inl ((am_bi (hs p = 105)))), (am_mm D K95 J ρ)) ∧ k_cs I0 K95 hs z c (((if hs p = 105 then p + 1 else p), some L))) rfl rfl (Nat.le_of_ble_eq_true rfl) (am_kd_of hsc (by decide)) rfl (Nat.le_of_ble_eq_true rfl) (Nat.le_of_ble_eq_true rfl) (k_take _ hsh hcs (s := 105) (by decide)) ?_
  rintro r ⟨K95, rfl, g95⟩
  show am_E _ _ _ 19 [(2, .inl 0), (0, .inr (.inr (.inl (some c)))), (1, .inr (.inr (.inr 5)))] [.inl ((am_bi (hs p = 105)))] (am_mm D K95 J ρ) _
  refine am_e_ifne rfl (fun hw2 => ?_) (fun hw2 => ?_)
  · show am_E _ _ _ 24 [(2, .inl 0), (0, .inr (.inr (.inl (some c)))), (1, .inr (.inr (.inr 5)))] [] (am_mm D K95 J ρ) _
    rw [if_pos hw2] at g95
    have tb1 := tb (p + 1)
    show am_E _ _ _ 24 [(2, .inl 0), (0, .inr (.inr (.inl (some c)))), (1, .inr (.inr (.inr 5)))] [] (am_mm D K95 J ρ) _
    refine am_e_ss 4 (q := (4, [(2, .inl (0 + 1)), (0, .inr (.inr (.inl (some c)))), (1, .inr (.inr (.inr 5)))], [.inr (.inr (.inr 5)), .inl (0 + 1)], (am_mm D K95 J ρ))) rfl ?_
    refine am_e_virtual (Q := fun r => r = (some (.inl 3), (am_mm D K95 J ρ))) rfl rfl (Nat.le_of_ble_eq_true rfl) rfl rfl (Nat.le_of_ble_eq_true rfl) (Nat.le_of_ble_eq_true rfl) (am_len_2 _) ?_
    rintro r rfl
    show am_E _ _ _ 7 [(2, .inl (0 + 1)), (0, .inr (.inr (.inl (some c)))), (1, .inr (.inr (.inr 5)))] [.inl 3, .inl (0 + 1)] (am_mm D K95 J ρ) _
    refine am_e_s (q := (10, [(2, .inl (0 + 1)), (0, .inr (.inr (.inl (some c)))), (1, .inr (.inr (.inr 5)))], [], (am_mm D K95 J ρ))) rfl rfl ?_
    refine am_e_ss 3 (q := (13, [(2, .inl (0 + 1)), (0, .inr (.inr (.inl (some c)))), (1, .inr (.inr (.inr 5)))], [.inl (0 + 1), .inr (.inr (.inr 5)), .inr (.inr (.inl (some c)))], (am_mm D K95 J ρ))) rfl ?_
    refine am_e_virtual (Q := fun r => r = (some (.inl 107), (am_mm D K95 J ρ))) rfl rfl (Nat.le_of_ble_eq_true rfl) rfl rfl (Nat.le_of_ble_eq_true rfl) (Nat.le_of_ble_eq_true rfl) (am_chr_2_1 _) ?_
    rintro r rfl
    show am_E _ _ _ 16 [(2, .inl (0 + 1)), (0, .inr (.inr (.inl (some c)))), (1, .inr (.inr (.inr 5)))] [.inl 107, .inr (.inr (.inl (some c)))] (am_mm D K95 J ρ) _
    refine am_e_virtual (Q := fun r => ∃ K96, r = (some (.inl ((am_bi (hs (p + 1) = 107)))), (am_mm D K96 J ρ)) ∧ k_cs I0 K96 hs z c (((if hs (p + 1) = 107 then p + 1 + 1 else p + 1), some L))) rfl rfl (Nat.le_of_ble_eq_true rfl) (am_kd_of hsc (by decide)) rfl (Nat.le_of_ble_eq_true rfl) (Nat.le_of_ble_eq_true rfl) (k_take _ hsh g95 (s := 107) (by decide)) ?_
    rintro r ⟨K96, rfl, g96⟩
    show am_E _ _ _ 19 [(2, .inl (0 + 1)), (0, .inr (.inr (.inl (some c)))), (1, .inr (.inr (.inr 5)))] [.inl ((am_bi (hs (p + 1) = 107)))] (am_mm D K96 J ρ) _
    refine am_e_ifne rfl (fun hw4 => ?_) (fun hw4 => ?_)
    · show am_E _ _ _ 24 [(2, .inl (0 + 1)), (0, .inr (.inr (.inl (some c)))), (1, .inr (.inr (.inr 5)))] [] (am_mm D K96 J ρ) _
      rw [if_pos hw4] at g96
      have tb2 := tb (p + 1 + 1)
      show am_E _ _ _ 24 [(2, .inl (0 + 1)), (0, .inr (.inr (.inl (some c)))), (1, .inr (.inr (.inr 5)))] [] (am_mm D K96 J ρ) _
      refine am_e_ss 4 (q := (4, [(2, .inl ((0 + 1) + 1)), (0, .inr (.inr (.inl (some c)))), (1, .inr (.inr (.inr 5)))], [.inr (.inr (.inr 5)), .inl ((0 + 1) + 1)], (am_mm D K96 J ρ))) rfl ?_
      refine am_e_virtual (Q := fun r => r = (some (.inl 3), (am_mm D K96 J ρ))) rfl rfl (Nat.le_of_ble_eq_true rfl) rfl rfl (Nat.le_of_ble_eq_true rfl) (Nat.le_of_ble_eq_true rfl) (am_len_2 _) ?_
      rintro r rfl
      show am_E _ _ _ 7 [(2, .inl ((0 + 1) + 1)), (0, .inr (.inr (.inl (some c)))), (1, .inr (.inr (.inr 5)))] [.inl 3, .inl ((0 + 1) + 1)] (am_mm D K96 J ρ) _
      refine am_e_s (q := (10, [(2, .inl ((0 + 1) + 1)), (0, .inr (.inr (.inl (some c)))), (1, .inr (.inr (.inr 5)))], [], (am_mm D K96 J ρ))) rfl rfl ?_
      refine am_e_ss 3 (q := (13, [(2, .inl ((0 + 1) + 1)), (0, .inr (.inr (.inl (some c)))), (1, .inr (.inr (.inr 5)))], [.inl ((0 + 1) + 1), .inr (.inr (.inr 5)), .inr (.inr (.inl (some c)))], (am_mm D K96 J ρ))) rfl ?_
      refine am_e_virtual (Q := fun r => r = (some (.inl 101), (am_mm D K96 J ρ))) rfl rfl (Nat.le_of_ble_eq_true rfl) rfl rfl (Nat.le_of_ble_eq_true rfl) (Nat.le_of_ble_eq_true rfl) (am_chr_2_2 _) ?_
      rintro r rfl
      show am_E _ _ _ 16 [(2, .inl ((0 + 1) + 1)), (0, .inr (.inr (.inl (some c)))), (1, .inr (.inr (.inr 5)))] [.inl 101, .inr (.inr (.inl (some c)))] (am_mm D K96 J ρ) _
      refine am_e_virtual (Q := fun r => ∃ K97, r = (some (.inl ((am_bi (hs (p + 1 + 1) = 101)))), (am_mm D K97 J ρ)) ∧ k_cs I0 K97 hs z c (((if hs (p + 1 + 1) = 101 then p + 1 + 1 + 1 else p + 1 + 1), some L))) rfl rfl (Nat.le_of_ble_eq_true rfl) (am_kd_of hsc (by decide)) rfl (Nat.le_of_ble_eq_true rfl) (Nat.le_of_ble_eq_true rfl) (k_take _ hsh g96 (s := 101) (by decide)) ?_
      rintro r ⟨K97, rfl, g97⟩
      show am_E _ _ _ 19 [(2, .inl ((0 + 1) + 1)), (0, .inr (.inr (.inl (some c)))), (1, .inr (.inr (.inr 5)))] [.inl ((am_bi (hs (p + 1 + 1) = 101)))] (am_mm D K97 J ρ) _
      refine am_e_ifne rfl (fun hw6 => ?_) (fun hw6 => ?_)
      · show am_E _ _ _ 24 [(2, .inl ((0 + 1) + 1)), (0, .inr (.inr (.inl (some c)))), (1, .inr (.inr (.inr 5)))] [] (am_mm D K97 J ρ) _
        rw [if_pos hw6] at g97
        have tb3 := tb (p + 1 + 1 + 1)
        show am_E _ _ _ 24 [(2, .inl ((0 + 1) + 1)), (0, .inr (.inr (.inl (some c)))), (1, .inr (.inr (.inr 5)))] [] (am_mm D K97 J ρ) _
        refine am_e_ss 4 (q := (4, [(2, .inl (((0 + 1) + 1) + 1)), (0, .inr (.inr (.inl (some c)))), (1, .inr (.inr (.inr 5)))], [.inr (.inr (.inr 5)), .inl (((0 + 1) + 1) + 1)], (am_mm D K97 J ρ))) rfl ?_
        refine am_e_virtual (Q := fun r => r = (some (.inl 3), (am_mm D K97 J ρ))) rfl rfl (Nat.le_of_ble_eq_true rfl) rfl rfl (Nat.le_of_ble_eq_true rfl) (Nat.le_of_ble_eq_true rfl) (am_len_2 _) ?_
        rintro r rfl
        show am_E _ _ _ 7 [(2, .inl (((0 + 1) + 1) + 1)), (0, .inr (.inr (.inl (some c)))), (1, .inr (.inr (.inr 5)))] [.inl 3, .inl (((0 + 1) + 1) + 1)] (am_mm D K97 J ρ) _
        refine am_e_s (q := (30, [(2, .inl (((0 + 1) + 1) + 1)), (0, .inr (.inr (.inl (some c)))), (1, .inr (.inr (.inr 5)))], [], (am_mm D K97 J ρ))) rfl rfl ?_
        refine am_e_ss 1 (q := (31, [(2, .inl (((0 + 1) + 1) + 1)), (0, .inr (.inr (.inl (some c)))), (1, .inr (.inr (.inr 5)))], [.inl 1], (am_mm D K97 J ρ))) rfl ?_
        refine am_e_ireturn rfl rfl ?_
        have ew : pt_w hs [105, 107, 101] p = (p + 1 + 1 + 1, true) := ((pt_w_t hw2).trans ((pt_w_t hw4).trans ((pt_w_t hw6).trans rfl)))
        rw [ew]
        exact ⟨_, by rw [am_bi_t rfl], g97⟩
      · show am_E _ _ _ 22 [(2, .inl ((0 + 1) + 1)), (0, .inr (.inr (.inl (some c)))), (1, .inr (.inr (.inr 5)))] [] (am_mm D K97 J ρ) _
        refine am_e_ss 1 (q := (23, [(2, .inl ((0 + 1) + 1)), (0, .inr (.inr (.inl (some c)))), (1, .inr (.inr (.inr 5)))], [.inl 0], (am_mm D K97 J ρ))) rfl ?_
        refine am_e_ireturn rfl rfl ?_
        rw [if_neg hw6] at g97
        have ew : pt_w hs [105, 107, 101] p = (p + 1 + 1, false) := ((pt_w_t hw2).trans ((pt_w_t hw4).trans (pt_w_f hw6)))
        rw [ew]
        exact ⟨_, by rw [am_bi_f (show ¬ (false = true) by decide)], g97⟩
    · show am_E _ _ _ 22 [(2, .inl (0 + 1)), (0, .inr (.inr (.inl (some c)))), (1, .inr (.inr (.inr 5)))] [] (am_mm D K96 J ρ) _
      refine am_e_ss 1 (q := (23, [(2, .inl (0 + 1)), (0, .inr (.inr (.inl (some c)))), (1, .inr (.inr (.inr 5)))], [.inl 0], (am_mm D K96 J ρ))) rfl ?_
      refine am_e_ireturn rfl rfl ?_
      rw [if_neg hw4] at g96
      have ew : pt_w hs [105, 107, 101] p = (p + 1, false) := ((pt_w_t hw2).trans (pt_w_f hw4))
      rw [ew]
      exact ⟨_, by rw [am_bi_f (show ¬ (false = true) by decide)], g96⟩
  · show am_E _ _ _ 22 [(2, .inl 0), (0, .inr (.inr (.inl (some c)))), (1, .inr (.inr (.inr 5)))] [] (am_mm D K95 J ρ) _
    refine am_e_ss 1 (q := (23, [(2, .inl 0), (0, .inr (.inr (.inl (some c)))), (1, .inr (.inr (.inr 5)))], [.inl 0], (am_mm D K95 J ρ))) rfl ?_
    refine am_e_ireturn rfl rfl ?_
    rw [if_neg hw2] at g95
    have ew : pt_w hs [105, 107, 101] p = (p, false) := (pt_w_f hw2)
    rw [ew]
    exact ⟨_, by rw [am_bi_f (show ¬ (false = true) by decide)], g95⟩
theorem k_all3 {X : Nat × (Nat → Int)} {D : List (Nat × Nat)} {I J : Nat → Nat → Int} {ρ : Nat → Nat → Option Nat} (d : Nat) {I0 : Nat → Nat → Int} {hs : Nat → Int} {z c p : Nat} {L : List Int} (hsh : k_sh D ρ c) (hcs : k_cs I0 I hs z c (p, some L))  : am_E X (d + 4) 9 0 [(0, .inr (.inr (.inl (some c)))), (1, .inr (.inr (.inr 7)))] [] (am_mm D I J ρ) (fun r => ∃ K, r = (some (.inl (am_bi ((pt_w hs [111, 97, 116, 104] p).2 = true))), am_mm D K J ρ) ∧ k_cs I0 K hs z c (((pt_w hs [111, 97, 116, 104] p).1, some L))) := by
  have hclk0 := hsh.1
  have hr8 := hsh.2
  have hclk := hclk0
  obtain ⟨⟨hsc, hs1, hs2, hs3, hs4⟩, hr1, hr2, hr3, hr4⟩ := hclk
  have p1 : I c 1 = (p : Int) := hcs.2.1.1
  have s9 : I c 9 = (z : Int) := hcs.2.1.2.1
  have tz := hcs.2.1.2.2.1
  have tpz : p ≤ z := hcs.2.1.2.2.2.1
  have th := hcs.2.1.2.2.2.2.1
  have te := hcs.2.1.2.2.2.2.2.1
  have tb := hcs.2.1.2.2.2.2.2.2
  have tbp := tb p
  have hc18 := hcs.2.2.1
  have n3 : I c 3 = (L.length : Int) := hcs.2.2.2.1
  have hll : L.length ≤ p := hcs.2.2.2.2.2
  refine am_e_ss 4 (q := (4, [(2, .inl 0), (0, .inr (.inr (.inl (some c)))), (1, .inr (.inr (.inr 7)))], [.inr (.inr (.inr 7)), .inl 0], (am_mm D I J ρ))) rfl ?_
  refine am_e_virtual (Q := fun r => r = (some (.inl 4), (am_mm D I J ρ))) rfl rfl (Nat.le_of_ble_eq_true rfl) rfl rfl (Nat.le_of_ble_eq_true rfl) (Nat.le_of_ble_eq_true rfl) (am_len_3 _) ?_
  rintro r rfl
  show am_E _ _ _ 7 [(2, .inl 0), (0, .inr (.inr (.inl (some c)))), (1, .inr (.inr (.inr 7)))] [.inl 4, .inl 0] (am_mm D I J ρ) _
  refine am_e_s (q := (10, [(2, .inl 0), (0, .inr (.inr (.inl (some c)))), (1, .inr (.inr (.inr 7)))], [], (am_mm D I J ρ))) rfl rfl ?_
  refine am_e_ss 3 (q := (13, [(2, .inl 0), (0, .inr (.inr (.inl (some c)))), (1, .inr (.inr (.inr 7)))], [.inl 0, .inr (.inr (.inr 7)), .inr (.inr (.inl (some c)))], (am_mm D I J ρ))) rfl ?_
  refine am_e_virtual (Q := fun r => r = (some (.inl 111), (am_mm D I J ρ))) rfl rfl (Nat.le_of_ble_eq_true rfl) rfl rfl (Nat.le_of_ble_eq_true rfl) (Nat.le_of_ble_eq_true rfl) (am_chr_3_0 _) ?_
  rintro r rfl
  show am_E _ _ _ 16 [(2, .inl 0), (0, .inr (.inr (.inl (some c)))), (1, .inr (.inr (.inr 7)))] [.inl 111, .inr (.inr (.inl (some c)))] (am_mm D I J ρ) _
  refine am_e_virtual (Q := fun r => ∃ K98, r = (some (.inl ((am_bi (hs p = 111)))), (am_mm D K98 J ρ)) ∧ k_cs I0 K98 hs z c (((if hs p = 111 then p + 1 else p), some L))) rfl rfl (Nat.le_of_ble_eq_true rfl) (am_kd_of hsc (by decide)) rfl (Nat.le_of_ble_eq_true rfl) (Nat.le_of_ble_eq_true rfl) (k_take _ hsh hcs (s := 111) (by decide)) ?_
  rintro r ⟨K98, rfl, g98⟩
  show am_E _ _ _ 19 [(2, .inl 0), (0, .inr (.inr (.inl (some c)))), (1, .inr (.inr (.inr 7)))] [.inl ((am_bi (hs p = 111)))] (am_mm D K98 J ρ) _
  refine am_e_ifne rfl (fun hw2 => ?_) (fun hw2 => ?_)
  · show am_E _ _ _ 24 [(2, .inl 0), (0, .inr (.inr (.inl (some c)))), (1, .inr (.inr (.inr 7)))] [] (am_mm D K98 J ρ) _
    rw [if_pos hw2] at g98
    have tb1 := tb (p + 1)
    show am_E _ _ _ 24 [(2, .inl 0), (0, .inr (.inr (.inl (some c)))), (1, .inr (.inr (.inr 7)))] [] (am_mm D K98 J ρ) _
    refine am_e_ss 4 (q := (4, [(2, .inl (0 + 1)), (0, .inr (.inr (.inl (some c)))), (1, .inr (.inr (.inr 7)))], [.inr (.inr (.inr 7)), .inl (0 + 1)], (am_mm D K98 J ρ))) rfl ?_
    refine am_e_virtual (Q := fun r => r = (some (.inl 4), (am_mm D K98 J ρ))) rfl rfl (Nat.le_of_ble_eq_true rfl) rfl rfl (Nat.le_of_ble_eq_true rfl) (Nat.le_of_ble_eq_true rfl) (am_len_3 _) ?_
    rintro r rfl
    show am_E _ _ _ 7 [(2, .inl (0 + 1)), (0, .inr (.inr (.inl (some c)))), (1, .inr (.inr (.inr 7)))] [.inl 4, .inl (0 + 1)] (am_mm D K98 J ρ) _
    refine am_e_s (q := (10, [(2, .inl (0 + 1)), (0, .inr (.inr (.inl (some c)))), (1, .inr (.inr (.inr 7)))], [], (am_mm D K98 J ρ))) rfl rfl ?_
    refine am_e_ss 3 (q := (13, [(2, .inl (0 + 1)), (0, .inr (.inr (.inl (some c)))), (1, .inr (.inr (.inr 7)))], [.inl (0 + 1), .inr (.inr (.inr 7)), .inr (.inr (.inl (some c)))], (am_mm D K98 J ρ))) rfl ?_
    refine am_e_virtual (Q := fun r => r = (some (.inl 97), (am_mm D K98 J ρ))) rfl rfl (Nat.le_of_ble_eq_true rfl) rfl rfl (Nat.le_of_ble_eq_true rfl) (Nat.le_of_ble_eq_true rfl) (am_chr_3_1 _) ?_
    rintro r rfl
    show am_E _ _ _ 16 [(2, .inl (0 + 1)), (0, .inr (.inr (.inl (some c)))), (1, .inr (.inr (.inr 7)))] [.inl 97, .inr (.inr (.inl (some c)))] (am_mm D K98 J ρ) _
    refine am_e_virtual (Q := fun r => ∃ K99, r = (some (.inl ((am_bi (hs (p + 1) = 97)))), (am_mm D K99 J ρ)) ∧ k_cs I0 K99 hs z c (((if hs (p + 1) = 97 then p + 1 + 1 else p + 1), some L))) rfl rfl (Nat.le_of_ble_eq_true rfl) (am_kd_of hsc (by decide)) rfl (Nat.le_of_ble_eq_true rfl) (Nat.le_of_ble_eq_true rfl) (k_take _ hsh g98 (s := 97) (by decide)) ?_
    rintro r ⟨K99, rfl, g99⟩
    show am_E _ _ _ 19 [(2, .inl (0 + 1)), (0, .inr (.inr (.inl (some c)))), (1, .inr (.inr (.inr 7)))] [.inl ((am_bi (hs (p + 1) = 97)))] (am_mm D K99 J ρ) _
    refine am_e_ifne rfl (fun hw4 => ?_) (fun hw4 => ?_)
    · show am_E _ _ _ 24 [(2, .inl (0 + 1)), (0, .inr (.inr (.inl (some c)))), (1, .inr (.inr (.inr 7)))] [] (am_mm D K99 J ρ) _
      rw [if_pos hw4] at g99
      have tb2 := tb (p + 1 + 1)
      show am_E _ _ _ 24 [(2, .inl (0 + 1)), (0, .inr (.inr (.inl (some c)))), (1, .inr (.inr (.inr 7)))] [] (am_mm D K99 J ρ) _
      refine am_e_ss 4 (q := (4, [(2, .inl ((0 + 1) + 1)), (0, .inr (.inr (.inl (some c)))), (1, .inr (.inr (.inr 7)))], [.inr (.inr (.inr 7)), .inl ((0 + 1) + 1)], (am_mm D K99 J ρ))) rfl ?_
      refine am_e_virtual (Q := fun r => r = (some (.inl 4), (am_mm D K99 J ρ))) rfl rfl (Nat.le_of_ble_eq_true rfl) rfl rfl (Nat.le_of_ble_eq_true rfl) (Nat.le_of_ble_eq_true rfl) (am_len_3 _) ?_
      rintro r rfl
      show am_E _ _ _ 7 [(2, .inl ((0 + 1) + 1)), (0, .inr (.inr (.inl (some c)))), (1, .inr (.inr (.inr 7)))] [.inl 4, .inl ((0 + 1) + 1)] (am_mm D K99 J ρ) _
      refine am_e_s (q := (10, [(2, .inl ((0 + 1) + 1)), (0, .inr (.inr (.inl (some c)))), (1, .inr (.inr (.inr 7)))], [], (am_mm D K99 J ρ))) rfl rfl ?_
      refine am_e_ss 3 (q := (13, [(2, .inl ((0 + 1) + 1)), (0, .inr (.inr (.inl (some c)))), (1, .inr (.inr (.inr 7)))], [.inl ((0 + 1) + 1), .inr (.inr (.inr 7)), .inr (.inr (.inl (some c)))], (am_mm D K99 J ρ))) rfl ?_
      refine am_e_virtual (Q := fun r => r = (some (.inl 116), (am_mm D K99 J ρ))) rfl rfl (Nat.le_of_ble_eq_true rfl) rfl rfl (Nat.le_of_ble_eq_true rfl) (Nat.le_of_ble_eq_true rfl) (am_chr_3_2 _) ?_
      rintro r rfl
      show am_E _ _ _ 16 [(2, .inl ((0 + 1) + 1)), (0, .inr (.inr (.inl (some c)))), (1, .inr (.inr (.inr 7)))] [.inl 116, .inr (.inr (.inl (some c)))] (am_mm D K99 J ρ) _
      refine am_e_virtual (Q := fun r => ∃ K100, r = (some (.inl ((am_bi (hs (p + 1 + 1) = 116)))), (am_mm D K100 J ρ)) ∧ k_cs I0 K100 hs z c (((if hs (p + 1 + 1) = 116 then p + 1 + 1 + 1 else p + 1 + 1), some L))) rfl rfl (Nat.le_of_ble_eq_true rfl) (am_kd_of hsc (by decide)) rfl (Nat.le_of_ble_eq_true rfl) (Nat.le_of_ble_eq_true rfl) (k_take _ hsh g99 (s := 116) (by decide)) ?_
      rintro r ⟨K100, rfl, g100⟩
      show am_E _ _ _ 19 [(2, .inl ((0 + 1) + 1)), (0, .inr (.inr (.inl (some c)))), (1, .inr (.inr (.inr 7)))] [.inl ((am_bi (hs (p + 1 + 1) = 116)))] (am_mm D K100 J ρ) _
      refine am_e_ifne rfl (fun hw6 => ?_) (fun hw6 => ?_)
      · show am_E _ _ _ 24 [(2, .inl ((0 + 1) + 1)), (0, .inr (.inr (.inl (some c)))), (1, .inr (.inr (.inr 7)))] [] (am_mm D K100 J ρ) _
        rw [if_pos hw6] at g100
        have tb3 := tb (p + 1 + 1 + 1)
        show am_E _ _ _ 24 [(2, .inl ((0 + 1) + 1)), (0, .inr (.inr (.inl (some c)))), (1, .inr (.inr (.inr 7)))] [] (am_mm D K100 J ρ) _
        refine am_e_ss 4 (q := (4, [(2, .inl (((0 + 1) + 1) + 1)), (0, .inr (.inr (.inl (some c)))), (1, .inr (.inr (.inr 7)))], [.inr (.inr (.inr 7)), .inl (((0 + 1) + 1) + 1)], (am_mm D K100 J ρ))) rfl ?_
        refine am_e_virtual (Q := fun r => r = (some (.inl 4), (am_mm D K100 J ρ))) rfl rfl (Nat.le_of_ble_eq_true rfl) rfl rfl (Nat.le_of_ble_eq_true rfl) (Nat.le_of_ble_eq_true rfl) (am_len_3 _) ?_
        rintro r rfl
        show am_E _ _ _ 7 [(2, .inl (((0 + 1) + 1) + 1)), (0, .inr (.inr (.inl (some c)))), (1, .inr (.inr (.inr 7)))] [.inl 4, .inl (((0 + 1) + 1) + 1)] (am_mm D K100 J ρ) _
        refine am_e_s (q := (10, [(2, .inl (((0 + 1) + 1) + 1)), (0, .inr (.inr (.inl (some c)))), (1, .inr (.inr (.inr 7)))], [], (am_mm D K100 J ρ))) rfl rfl ?_
        refine am_e_ss 3 (q := (13, [(2, .inl (((0 + 1) + 1) + 1)), (0, .inr (.inr (.inl (some c)))), (1, .inr (.inr (.inr 7)))], [.inl (((0 + 1) + 1) + 1), .inr (.inr (.inr 7)), .inr (.inr (.inl (some c)))], (am_mm D K100 J ρ))) rfl ?_
        refine am_e_virtual (Q := fun r => r = (some (.inl 104), (am_mm D K100 J ρ))) rfl rfl (Nat.le_of_ble_eq_true rfl) rfl rfl (Nat.le_of_ble_eq_true rfl) (Nat.le_of_ble_eq_true rfl) (am_chr_3_3 _) ?_
        rintro r rfl
        show am_E _ _ _ 16 [(2, .inl (((0 + 1) + 1) + 1)), (0, .inr (.inr (.inl (some c)))), (1, .inr (.inr (.inr 7)))] [.inl 104, .inr (.inr (.inl (some c)))] (am_mm D K100 J ρ) _
        refine am_e_virtual (Q := fun r => ∃ K101, r = (some (.inl ((am_bi (hs (p + 1 + 1 + 1) = 104)))), (am_mm D K101 J ρ)) ∧ k_cs I0 K101 hs z c (((if hs (p + 1 + 1 + 1) = 104 then p + 1 + 1 + 1 + 1 else p + 1 + 1 + 1), some L))) rfl rfl (Nat.le_of_ble_eq_true rfl) (am_kd_of hsc (by decide)) rfl (Nat.le_of_ble_eq_true rfl) (Nat.le_of_ble_eq_true rfl) (k_take _ hsh g100 (s := 104) (by decide)) ?_
        rintro r ⟨K101, rfl, g101⟩
        show am_E _ _ _ 19 [(2, .inl (((0 + 1) + 1) + 1)), (0, .inr (.inr (.inl (some c)))), (1, .inr (.inr (.inr 7)))] [.inl ((am_bi (hs (p + 1 + 1 + 1) = 104)))] (am_mm D K101 J ρ) _
        refine am_e_ifne rfl (fun hw8 => ?_) (fun hw8 => ?_)
        · show am_E _ _ _ 24 [(2, .inl (((0 + 1) + 1) + 1)), (0, .inr (.inr (.inl (some c)))), (1, .inr (.inr (.inr 7)))] [] (am_mm D K101 J ρ) _
          rw [if_pos hw8] at g101
          have tb4 := tb (p + 1 + 1 + 1 + 1)
          show am_E _ _ _ 24 [(2, .inl (((0 + 1) + 1) + 1)), (0, .inr (.inr (.inl (some c)))), (1, .inr (.inr (.inr 7)))] [] (am_mm D K101 J ρ) _
          refine am_e_ss 4 (q := (4, [(2, .inl ((((0 + 1) + 1) + 1) + 1)), (0, .inr (.inr (.inl (some c)))), (1, .inr (.inr (.inr 7)))], [.inr (.inr (.inr 7)), .inl ((((0 + 1) + 1) + 1) + 1)], (am_mm D K101 J ρ))) rfl ?_
          refine am_e_virtual (Q := fun r => r = (some (.inl 4), (am_mm D K101 J ρ))) rfl rfl (Nat.le_of_ble_eq_true rfl) rfl rfl (Nat.le_of_ble_eq_true rfl) (Nat.le_of_ble_eq_true rfl) (am_len_3 _) ?_
          rintro r rfl
          show am_E _ _ _ 7 [(2, .inl ((((0 + 1) + 1) + 1) + 1)), (0, .inr (.inr (.inl (some c)))), (1, .inr (.inr (.inr 7)))] [.inl 4, .inl ((((0 + 1) + 1) + 1) + 1)] (am_mm D K101 J ρ) _
          refine am_e_s (q := (30, [(2, .inl ((((0 + 1) + 1) + 1) + 1)), (0, .inr (.inr (.inl (some c)))), (1, .inr (.inr (.inr 7)))], [], (am_mm D K101 J ρ))) rfl rfl ?_
          refine am_e_ss 1 (q := (31, [(2, .inl ((((0 + 1) + 1) + 1) + 1)), (0, .inr (.inr (.inl (some c)))), (1, .inr (.inr (.inr 7)))], [.inl 1], (am_mm D K101 J ρ))) rfl ?_
          refine am_e_ireturn rfl rfl ?_
          have ew : pt_w hs [111, 97, 116, 104] p = (p + 1 + 1 + 1 + 1, true) := ((pt_w_t hw2).trans ((pt_w_t hw4).trans ((pt_w_t hw6).trans ((pt_w_t hw8).trans rfl))))
          rw [ew]
          exact ⟨_, by rw [am_bi_t rfl], g101⟩
        · show am_E _ _ _ 22 [(2, .inl (((0 + 1) + 1) + 1)), (0, .inr (.inr (.inl (some c)))), (1, .inr (.inr (.inr 7)))] [] (am_mm D K101 J ρ) _
          refine am_e_ss 1 (q := (23, [(2, .inl (((0 + 1) + 1) + 1)), (0, .inr (.inr (.inl (some c)))), (1, .inr (.inr (.inr 7)))], [.inl 0], (am_mm D K101 J ρ))) rfl ?_
          refine am_e_ireturn rfl rfl ?_
          rw [if_neg hw8] at g101
          have ew : pt_w hs [111, 97, 116, 104] p = (p + 1 + 1 + 1, false) := ((pt_w_t hw2).trans ((pt_w_t hw4).trans ((pt_w_t hw6).trans (pt_w_f hw8))))
          rw [ew]
          exact ⟨_, by rw [am_bi_f (show ¬ (false = true) by decide)], g101⟩
      · show am_E _ _ _ 22 [(2, .inl ((0 + 1) + 1)), (0, .inr (.inr (.inl (some c)))), (1, .inr (.inr (.inr 7)))] [] (am_mm D K100 J ρ) _
        refine am_e_ss 1 (q := (23, [(2, .inl ((0 + 1) + 1)), (0, .inr (.inr (.inl (some c)))), (1, .inr (.inr (.inr 7)))], [.inl 0], (am_mm D K100 J ρ))) rfl ?_
        refine am_e_ireturn rfl rfl ?_
        rw [if_neg hw6] at g100
        have ew : pt_w hs [111, 97, 116, 104] p = (p + 1 + 1, false) := ((pt_w_t hw2).trans ((pt_w_t hw4).trans (pt_w_f hw6)))
        rw [ew]
        exact ⟨_, by rw [am_bi_f (show ¬ (false = true) by decide)], g100⟩
    · show am_E _ _ _ 22 [(2, .inl (0 + 1)), (0, .inr (.inr (.inl (some c)))), (1, .inr (.inr (.inr 7)))] [] (am_mm D K99 J ρ) _
      refine am_e_ss 1 (q := (23, [(2, .inl (0 + 1)), (0, .inr (.inr (.inl (some c)))), (1, .inr (.inr (.inr 7)))], [.inl 0], (am_mm D K99 J ρ))) rfl ?_
      refine am_e_ireturn rfl rfl ?_
      rw [if_neg hw4] at g99
      have ew : pt_w hs [111, 97, 116, 104] p = (p + 1, false) := ((pt_w_t hw2).trans (pt_w_f hw4))
      rw [ew]
      exact ⟨_, by rw [am_bi_f (show ¬ (false = true) by decide)], g99⟩
  · show am_E _ _ _ 22 [(2, .inl 0), (0, .inr (.inr (.inl (some c)))), (1, .inr (.inr (.inr 7)))] [] (am_mm D K98 J ρ) _
    refine am_e_ss 1 (q := (23, [(2, .inl 0), (0, .inr (.inr (.inl (some c)))), (1, .inr (.inr (.inr 7)))], [.inl 0], (am_mm D K98 J ρ))) rfl ?_
    refine am_e_ireturn rfl rfl ?_
    rw [if_neg hw2] at g98
    have ew : pt_w hs [111, 97, 116, 104] p = (p, false) := (pt_w_f hw2)
    rw [ew]
    exact ⟨_, by rw [am_bi_f (show ¬ (false = true) by decide)], g98⟩
theorem k_wh {X : Nat × (Nat → Int)} {D : List (Nat × Nat)} {I J : Nat → Nat → Int} {ρ : Nat → Nat → Option Nat} (d : Nat) {I0 : Nat → Nat → Int} {hs : Nat → Int} {z c p : Nat} {L : List Int} (hsh : k_sh D ρ c) (hcs : k_cs I0 I hs z c (p, some L))  : am_E X (d + 4) 16 0 [(0, .inr (.inr (.inl (some c)))), (1, .inr (.inr (.inr 9)))] [] (am_mm D I J ρ) (fun r => ∃ K, r = (some (.inl (pt_wh (hs p))), am_mm D K J ρ) ∧ k_cs I0 K hs z c ((if pt_wh (hs p) = -1 then p else p + 1, some L))) := by
  have hclk0 := hsh.1
  have hr8 := hsh.2
  have hclk := hclk0
  obtain ⟨⟨hsc, hs1, hs2, hs3, hs4⟩, hr1, hr2, hr3, hr4⟩ := hclk
  have p1 : I c 1 = (p : Int) := hcs.2.1.1
  have s9 : I c 9 = (z : Int) := hcs.2.1.2.1
  have tz := hcs.2.1.2.2.1
  have tpz : p ≤ z := hcs.2.1.2.2.2.1
  have th := hcs.2.1.2.2.2.2.1
  have te := hcs.2.1.2.2.2.2.2.1
  have tb := hcs.2.1.2.2.2.2.2.2
  have tbp := tb p
  have hc18 := hcs.2.2.1
  have n3 : I c 3 = (L.length : Int) := hcs.2.2.2.1
  have hll : L.length ≤ p := hcs.2.2.2.2.2
  refine am_e_ss 1 (q := (1, [(0, .inr (.inr (.inl (some c)))), (1, .inr (.inr (.inr 9)))], [.inr (.inr (.inl (some c)))], (am_mm D I J ρ))) rfl ?_
  refine am_e_virtual (Q := fun r => r = (some (.inl ((hs p))), (am_mm D I J ρ))) rfl rfl (Nat.le_of_ble_eq_true rfl) (am_kd_of hsc (by decide)) rfl (Nat.le_of_ble_eq_true rfl) (Nat.le_of_ble_eq_true rfl) (k_peek _ hsh hcs) ?_
  rintro r rfl
  show am_E _ _ _ 4 [(0, .inr (.inr (.inl (some c)))), (1, .inr (.inr (.inr 9)))] [.inl ((hs p))] (am_mm D I J ρ) _
  refine am_e_ss 5 (q := (9, [(3, .inl 0), (2, .inl ((hs p))), (0, .inr (.inr (.inl (some c)))), (1, .inr (.inr (.inr 9)))], [.inr (.inr (.inr 9)), .inl 0], (am_mm D I J ρ))) rfl ?_
  refine am_e_virtual (Q := fun r => r = (some (.inl 6), (am_mm D I J ρ))) rfl rfl (Nat.le_of_ble_eq_true rfl) rfl rfl (Nat.le_of_ble_eq_true rfl) (Nat.le_of_ble_eq_true rfl) (am_len_4 _) ?_
  rintro r rfl
  show am_E _ _ _ 12 [(3, .inl 0), (2, .inl ((hs p))), (0, .inr (.inr (.inl (some c)))), (1, .inr (.inr (.inr 9)))] [.inl 6, .inl 0] (am_mm D I J ρ) _
  refine am_e_s (q := (15, [(3, .inl 0), (2, .inl ((hs p))), (0, .inr (.inr (.inl (some c)))), (1, .inr (.inr (.inr 9)))], [], (am_mm D I J ρ))) rfl rfl ?_
  refine am_e_ss 2 (q := (17, [(3, .inl 0), (2, .inl ((hs p))), (0, .inr (.inr (.inl (some c)))), (1, .inr (.inr (.inr 9)))], [.inl 0, .inr (.inr (.inr 9))], (am_mm D I J ρ))) rfl ?_
  refine am_e_virtual (Q := fun r => r = (some (.inl 109), (am_mm D I J ρ))) rfl rfl (Nat.le_of_ble_eq_true rfl) rfl rfl (Nat.le_of_ble_eq_true rfl) (Nat.le_of_ble_eq_true rfl) (am_chr_4_0 _) ?_
  rintro r rfl
  show am_E _ _ _ 20 [(3, .inl 0), (2, .inl ((hs p))), (0, .inr (.inr (.inl (some c)))), (1, .inr (.inr (.inr 9)))] [.inl 109] (am_mm D I J ρ) _
  refine am_e_ss 1 (q := (21, [(3, .inl 0), (2, .inl ((hs p))), (0, .inr (.inr (.inl (some c)))), (1, .inr (.inr (.inr 9)))], [.inl ((hs p)), .inl 109], (am_mm D I J ρ))) rfl ?_
  refine am_e_icmp2 rfl ⟨by omega, by omega⟩ ⟨by omega, by omega⟩ (fun (hw2 : ¬ 109 = (hs p)) => ?_) (fun (hw2 : ¬ (¬ 109 = (hs p))) => ?_)
  · show am_E _ _ _ 36 [(3, .inl 0), (2, .inl ((hs p))), (0, .inr (.inr (.inl (some c)))), (1, .inr (.inr (.inr 9)))] [] (am_mm D I J ρ) _
    refine am_e_ss 4 (q := (9, [(3, .inl (0 + 1)), (2, .inl ((hs p))), (0, .inr (.inr (.inl (some c)))), (1, .inr (.inr (.inr 9)))], [.inr (.inr (.inr 9)), .inl (0 + 1)], (am_mm D I J ρ))) rfl ?_
    refine am_e_virtual (Q := fun r => r = (some (.inl 6), (am_mm D I J ρ))) rfl rfl (Nat.le_of_ble_eq_true rfl) rfl rfl (Nat.le_of_ble_eq_true rfl) (Nat.le_of_ble_eq_true rfl) (am_len_4 _) ?_
    rintro r rfl
    show am_E _ _ _ 12 [(3, .inl (0 + 1)), (2, .inl ((hs p))), (0, .inr (.inr (.inl (some c)))), (1, .inr (.inr (.inr 9)))] [.inl 6, .inl (0 + 1)] (am_mm D I J ρ) _
    refine am_e_s (q := (15, [(3, .inl (0 + 1)), (2, .inl ((hs p))), (0, .inr (.inr (.inl (some c)))), (1, .inr (.inr (.inr 9)))], [], (am_mm D I J ρ))) rfl rfl ?_
    refine am_e_ss 2 (q := (17, [(3, .inl (0 + 1)), (2, .inl ((hs p))), (0, .inr (.inr (.inl (some c)))), (1, .inr (.inr (.inr 9)))], [.inl (0 + 1), .inr (.inr (.inr 9))], (am_mm D I J ρ))) rfl ?_
    refine am_e_virtual (Q := fun r => r = (some (.inl 107), (am_mm D I J ρ))) rfl rfl (Nat.le_of_ble_eq_true rfl) rfl rfl (Nat.le_of_ble_eq_true rfl) (Nat.le_of_ble_eq_true rfl) (am_chr_4_1 _) ?_
    rintro r rfl
    show am_E _ _ _ 20 [(3, .inl (0 + 1)), (2, .inl ((hs p))), (0, .inr (.inr (.inl (some c)))), (1, .inr (.inr (.inr 9)))] [.inl 107] (am_mm D I J ρ) _
    refine am_e_ss 1 (q := (21, [(3, .inl (0 + 1)), (2, .inl ((hs p))), (0, .inr (.inr (.inl (some c)))), (1, .inr (.inr (.inr 9)))], [.inl ((hs p)), .inl 107], (am_mm D I J ρ))) rfl ?_
    refine am_e_icmp2 rfl ⟨by omega, by omega⟩ ⟨by omega, by omega⟩ (fun (hw4 : ¬ 107 = (hs p)) => ?_) (fun (hw4 : ¬ (¬ 107 = (hs p))) => ?_)
    · show am_E _ _ _ 36 [(3, .inl (0 + 1)), (2, .inl ((hs p))), (0, .inr (.inr (.inl (some c)))), (1, .inr (.inr (.inr 9)))] [] (am_mm D I J ρ) _
      refine am_e_ss 4 (q := (9, [(3, .inl ((0 + 1) + 1)), (2, .inl ((hs p))), (0, .inr (.inr (.inl (some c)))), (1, .inr (.inr (.inr 9)))], [.inr (.inr (.inr 9)), .inl ((0 + 1) + 1)], (am_mm D I J ρ))) rfl ?_
      refine am_e_virtual (Q := fun r => r = (some (.inl 6), (am_mm D I J ρ))) rfl rfl (Nat.le_of_ble_eq_true rfl) rfl rfl (Nat.le_of_ble_eq_true rfl) (Nat.le_of_ble_eq_true rfl) (am_len_4 _) ?_
      rintro r rfl
      show am_E _ _ _ 12 [(3, .inl ((0 + 1) + 1)), (2, .inl ((hs p))), (0, .inr (.inr (.inl (some c)))), (1, .inr (.inr (.inr 9)))] [.inl 6, .inl ((0 + 1) + 1)] (am_mm D I J ρ) _
      refine am_e_s (q := (15, [(3, .inl ((0 + 1) + 1)), (2, .inl ((hs p))), (0, .inr (.inr (.inl (some c)))), (1, .inr (.inr (.inr 9)))], [], (am_mm D I J ρ))) rfl rfl ?_
      refine am_e_ss 2 (q := (17, [(3, .inl ((0 + 1) + 1)), (2, .inl ((hs p))), (0, .inr (.inr (.inl (some c)))), (1, .inr (.inr (.inr 9)))], [.inl ((0 + 1) + 1), .inr (.inr (.inr 9))], (am_mm D I J ρ))) rfl ?_
      refine am_e_virtual (Q := fun r => r = (some (.inl 98), (am_mm D I J ρ))) rfl rfl (Nat.le_of_ble_eq_true rfl) rfl rfl (Nat.le_of_ble_eq_true rfl) (Nat.le_of_ble_eq_true rfl) (am_chr_4_2 _) ?_
      rintro r rfl
      show am_E _ _ _ 20 [(3, .inl ((0 + 1) + 1)), (2, .inl ((hs p))), (0, .inr (.inr (.inl (some c)))), (1, .inr (.inr (.inr 9)))] [.inl 98] (am_mm D I J ρ) _
      refine am_e_ss 1 (q := (21, [(3, .inl ((0 + 1) + 1)), (2, .inl ((hs p))), (0, .inr (.inr (.inl (some c)))), (1, .inr (.inr (.inr 9)))], [.inl ((hs p)), .inl 98], (am_mm D I J ρ))) rfl ?_
      refine am_e_icmp2 rfl ⟨by omega, by omega⟩ ⟨by omega, by omega⟩ (fun (hw6 : ¬ 98 = (hs p)) => ?_) (fun (hw6 : ¬ (¬ 98 = (hs p))) => ?_)
      · show am_E _ _ _ 36 [(3, .inl ((0 + 1) + 1)), (2, .inl ((hs p))), (0, .inr (.inr (.inl (some c)))), (1, .inr (.inr (.inr 9)))] [] (am_mm D I J ρ) _
        refine am_e_ss 4 (q := (9, [(3, .inl (((0 + 1) + 1) + 1)), (2, .inl ((hs p))), (0, .inr (.inr (.inl (some c)))), (1, .inr (.inr (.inr 9)))], [.inr (.inr (.inr 9)), .inl (((0 + 1) + 1) + 1)], (am_mm D I J ρ))) rfl ?_
        refine am_e_virtual (Q := fun r => r = (some (.inl 6), (am_mm D I J ρ))) rfl rfl (Nat.le_of_ble_eq_true rfl) rfl rfl (Nat.le_of_ble_eq_true rfl) (Nat.le_of_ble_eq_true rfl) (am_len_4 _) ?_
        rintro r rfl
        show am_E _ _ _ 12 [(3, .inl (((0 + 1) + 1) + 1)), (2, .inl ((hs p))), (0, .inr (.inr (.inl (some c)))), (1, .inr (.inr (.inr 9)))] [.inl 6, .inl (((0 + 1) + 1) + 1)] (am_mm D I J ρ) _
        refine am_e_s (q := (15, [(3, .inl (((0 + 1) + 1) + 1)), (2, .inl ((hs p))), (0, .inr (.inr (.inl (some c)))), (1, .inr (.inr (.inr 9)))], [], (am_mm D I J ρ))) rfl rfl ?_
        refine am_e_ss 2 (q := (17, [(3, .inl (((0 + 1) + 1) + 1)), (2, .inl ((hs p))), (0, .inr (.inr (.inl (some c)))), (1, .inr (.inr (.inr 9)))], [.inl (((0 + 1) + 1) + 1), .inr (.inr (.inr 9))], (am_mm D I J ρ))) rfl ?_
        refine am_e_virtual (Q := fun r => r = (some (.inl 112), (am_mm D I J ρ))) rfl rfl (Nat.le_of_ble_eq_true rfl) rfl rfl (Nat.le_of_ble_eq_true rfl) (Nat.le_of_ble_eq_true rfl) (am_chr_4_3 _) ?_
        rintro r rfl
        show am_E _ _ _ 20 [(3, .inl (((0 + 1) + 1) + 1)), (2, .inl ((hs p))), (0, .inr (.inr (.inl (some c)))), (1, .inr (.inr (.inr 9)))] [.inl 112] (am_mm D I J ρ) _
        refine am_e_ss 1 (q := (21, [(3, .inl (((0 + 1) + 1) + 1)), (2, .inl ((hs p))), (0, .inr (.inr (.inl (some c)))), (1, .inr (.inr (.inr 9)))], [.inl ((hs p)), .inl 112], (am_mm D I J ρ))) rfl ?_
        refine am_e_icmp2 rfl ⟨by omega, by omega⟩ ⟨by omega, by omega⟩ (fun (hw8 : ¬ 112 = (hs p)) => ?_) (fun (hw8 : ¬ (¬ 112 = (hs p))) => ?_)
        · show am_E _ _ _ 36 [(3, .inl (((0 + 1) + 1) + 1)), (2, .inl ((hs p))), (0, .inr (.inr (.inl (some c)))), (1, .inr (.inr (.inr 9)))] [] (am_mm D I J ρ) _
          refine am_e_ss 4 (q := (9, [(3, .inl ((((0 + 1) + 1) + 1) + 1)), (2, .inl ((hs p))), (0, .inr (.inr (.inl (some c)))), (1, .inr (.inr (.inr 9)))], [.inr (.inr (.inr 9)), .inl ((((0 + 1) + 1) + 1) + 1)], (am_mm D I J ρ))) rfl ?_
          refine am_e_virtual (Q := fun r => r = (some (.inl 6), (am_mm D I J ρ))) rfl rfl (Nat.le_of_ble_eq_true rfl) rfl rfl (Nat.le_of_ble_eq_true rfl) (Nat.le_of_ble_eq_true rfl) (am_len_4 _) ?_
          rintro r rfl
          show am_E _ _ _ 12 [(3, .inl ((((0 + 1) + 1) + 1) + 1)), (2, .inl ((hs p))), (0, .inr (.inr (.inl (some c)))), (1, .inr (.inr (.inr 9)))] [.inl 6, .inl ((((0 + 1) + 1) + 1) + 1)] (am_mm D I J ρ) _
          refine am_e_s (q := (15, [(3, .inl ((((0 + 1) + 1) + 1) + 1)), (2, .inl ((hs p))), (0, .inr (.inr (.inl (some c)))), (1, .inr (.inr (.inr 9)))], [], (am_mm D I J ρ))) rfl rfl ?_
          refine am_e_ss 2 (q := (17, [(3, .inl ((((0 + 1) + 1) + 1) + 1)), (2, .inl ((hs p))), (0, .inr (.inr (.inl (some c)))), (1, .inr (.inr (.inr 9)))], [.inl ((((0 + 1) + 1) + 1) + 1), .inr (.inr (.inr 9))], (am_mm D I J ρ))) rfl ?_
          refine am_e_virtual (Q := fun r => r = (some (.inl 111), (am_mm D I J ρ))) rfl rfl (Nat.le_of_ble_eq_true rfl) rfl rfl (Nat.le_of_ble_eq_true rfl) (Nat.le_of_ble_eq_true rfl) (am_chr_4_4 _) ?_
          rintro r rfl
          show am_E _ _ _ 20 [(3, .inl ((((0 + 1) + 1) + 1) + 1)), (2, .inl ((hs p))), (0, .inr (.inr (.inl (some c)))), (1, .inr (.inr (.inr 9)))] [.inl 111] (am_mm D I J ρ) _
          refine am_e_ss 1 (q := (21, [(3, .inl ((((0 + 1) + 1) + 1) + 1)), (2, .inl ((hs p))), (0, .inr (.inr (.inl (some c)))), (1, .inr (.inr (.inr 9)))], [.inl ((hs p)), .inl 111], (am_mm D I J ρ))) rfl ?_
          refine am_e_icmp2 rfl ⟨by omega, by omega⟩ ⟨by omega, by omega⟩ (fun (hw10 : ¬ 111 = (hs p)) => ?_) (fun (hw10 : ¬ (¬ 111 = (hs p))) => ?_)
          · show am_E _ _ _ 36 [(3, .inl ((((0 + 1) + 1) + 1) + 1)), (2, .inl ((hs p))), (0, .inr (.inr (.inl (some c)))), (1, .inr (.inr (.inr 9)))] [] (am_mm D I J ρ) _
            refine am_e_ss 4 (q := (9, [(3, .inl (((((0 + 1) + 1) + 1) + 1) + 1)), (2, .inl ((hs p))), (0, .inr (.inr (.inl (some c)))), (1, .inr (.inr (.inr 9)))], [.inr (.inr (.inr 9)), .inl (((((0 + 1) + 1) + 1) + 1) + 1)], (am_mm D I J ρ))) rfl ?_
            refine am_e_virtual (Q := fun r => r = (some (.inl 6), (am_mm D I J ρ))) rfl rfl (Nat.le_of_ble_eq_true rfl) rfl rfl (Nat.le_of_ble_eq_true rfl) (Nat.le_of_ble_eq_true rfl) (am_len_4 _) ?_
            rintro r rfl
            show am_E _ _ _ 12 [(3, .inl (((((0 + 1) + 1) + 1) + 1) + 1)), (2, .inl ((hs p))), (0, .inr (.inr (.inl (some c)))), (1, .inr (.inr (.inr 9)))] [.inl 6, .inl (((((0 + 1) + 1) + 1) + 1) + 1)] (am_mm D I J ρ) _
            refine am_e_s (q := (15, [(3, .inl (((((0 + 1) + 1) + 1) + 1) + 1)), (2, .inl ((hs p))), (0, .inr (.inr (.inl (some c)))), (1, .inr (.inr (.inr 9)))], [], (am_mm D I J ρ))) rfl rfl ?_
            refine am_e_ss 2 (q := (17, [(3, .inl (((((0 + 1) + 1) + 1) + 1) + 1)), (2, .inl ((hs p))), (0, .inr (.inr (.inl (some c)))), (1, .inr (.inr (.inr 9)))], [.inl (((((0 + 1) + 1) + 1) + 1) + 1), .inr (.inr (.inr 9))], (am_mm D I J ρ))) rfl ?_
            refine am_e_virtual (Q := fun r => r = (some (.inl 115), (am_mm D I J ρ))) rfl rfl (Nat.le_of_ble_eq_true rfl) rfl rfl (Nat.le_of_ble_eq_true rfl) (Nat.le_of_ble_eq_true rfl) (am_chr_4_5 _) ?_
            rintro r rfl
            show am_E _ _ _ 20 [(3, .inl (((((0 + 1) + 1) + 1) + 1) + 1)), (2, .inl ((hs p))), (0, .inr (.inr (.inl (some c)))), (1, .inr (.inr (.inr 9)))] [.inl 115] (am_mm D I J ρ) _
            refine am_e_ss 1 (q := (21, [(3, .inl (((((0 + 1) + 1) + 1) + 1) + 1)), (2, .inl ((hs p))), (0, .inr (.inr (.inl (some c)))), (1, .inr (.inr (.inr 9)))], [.inl ((hs p)), .inl 115], (am_mm D I J ρ))) rfl ?_
            refine am_e_icmp2 rfl ⟨by omega, by omega⟩ ⟨by omega, by omega⟩ (fun (hw12 : ¬ 115 = (hs p)) => ?_) (fun (hw12 : ¬ (¬ 115 = (hs p))) => ?_)
            · show am_E _ _ _ 36 [(3, .inl (((((0 + 1) + 1) + 1) + 1) + 1)), (2, .inl ((hs p))), (0, .inr (.inr (.inl (some c)))), (1, .inr (.inr (.inr 9)))] [] (am_mm D I J ρ) _
              refine am_e_ss 4 (q := (9, [(3, .inl ((((((0 + 1) + 1) + 1) + 1) + 1) + 1)), (2, .inl ((hs p))), (0, .inr (.inr (.inl (some c)))), (1, .inr (.inr (.inr 9)))], [.inr (.inr (.inr 9)), .inl ((((((0 + 1) + 1) + 1) + 1) + 1) + 1)], (am_mm D I J ρ))) rfl ?_
              refine am_e_virtual (Q := fun r => r = (some (.inl 6), (am_mm D I J ρ))) rfl rfl (Nat.le_of_ble_eq_true rfl) rfl rfl (Nat.le_of_ble_eq_true rfl) (Nat.le_of_ble_eq_true rfl) (am_len_4 _) ?_
              rintro r rfl
              show am_E _ _ _ 12 [(3, .inl ((((((0 + 1) + 1) + 1) + 1) + 1) + 1)), (2, .inl ((hs p))), (0, .inr (.inr (.inl (some c)))), (1, .inr (.inr (.inr 9)))] [.inl 6, .inl ((((((0 + 1) + 1) + 1) + 1) + 1) + 1)] (am_mm D I J ρ) _
              refine am_e_s (q := (42, [(3, .inl ((((((0 + 1) + 1) + 1) + 1) + 1) + 1)), (2, .inl ((hs p))), (0, .inr (.inr (.inl (some c)))), (1, .inr (.inr (.inr 9)))], [], (am_mm D I J ρ))) rfl rfl ?_
              refine am_e_ss 1 (q := (43, [(3, .inl ((((((0 + 1) + 1) + 1) + 1) + 1) + 1)), (2, .inl ((hs p))), (0, .inr (.inr (.inl (some c)))), (1, .inr (.inr (.inr 9)))], [.inl (-1)], (am_mm D I J ρ))) rfl ?_
              refine am_e_ireturn rfl rfl ?_
              have ev : pt_wh (hs p) = -1 := by
                unfold pt_wh
                (repeat' split) <;> omega
              rw [ev]
              exact ⟨_, rfl, hcs⟩
            · show am_E _ _ _ 24 [(3, .inl (((((0 + 1) + 1) + 1) + 1) + 1)), (2, .inl ((hs p))), (0, .inr (.inr (.inl (some c)))), (1, .inr (.inr (.inr 9)))] [] (am_mm D I J ρ) _
              refine am_e_ss 2 (q := (26, [(3, .inl (((((0 + 1) + 1) + 1) + 1) + 1)), (2, .inl ((hs p))), (0, .inr (.inr (.inl (some c)))), (1, .inr (.inr (.inr 9)))], [.inr (.inr (.inl (some c))), .inr (.inr (.inl (some c)))], (am_mm D I J ρ))) rfl ?_
              refine am_e_getfield (c := 1) (m := 10) (f := 1) rfl hsc rfl (by decide) (by decide) ?_
              show am_E _ _ _ 29 [(3, .inl (((((0 + 1) + 1) + 1) + 1) + 1)), (2, .inl ((hs p))), (0, .inr (.inr (.inl (some c)))), (1, .inr (.inr (.inr 9)))] [.inl ((I c 1)), .inr (.inr (.inl (some c)))] (am_mm D I J ρ) _
              refine am_e_ss 2 (q := (31, [(3, .inl (((((0 + 1) + 1) + 1) + 1) + 1)), (2, .inl ((hs p))), (0, .inr (.inr (.inl (some c)))), (1, .inr (.inr (.inr 9)))], [.inl ((I c 1) + 1), .inr (.inr (.inl (some c)))], (am_mm D I J ρ))) rfl ?_
              refine am_e_putfield (c := 1) (m := 10) (f := 1) (M' := (am_mm D (am_up I c 1 ((I c 1) + 1)) J ρ)) rfl hsc rfl (by decide) (by decide) rfl ?_
              show am_E _ _ _ 34 [(3, .inl (((((0 + 1) + 1) + 1) + 1) + 1)), (2, .inl ((hs p))), (0, .inr (.inr (.inl (some c)))), (1, .inr (.inr (.inr 9)))] [] (am_mm D (am_up I c 1 ((I c 1) + 1)) J ρ) _
              have u102 : I c 1 = ((p : Nat) : Int) := hcs.2.1.1
              rw [u102]
              have g102 := k_cs_1 hcs (k_cs_lt hcs (show 0 ≤ hs (p) by omega))
              have gb102 := tb (p + 1)
              generalize am_up I c 1 (((p : Nat) : Int) + 1) = K102 at g102 ⊢
              show am_E _ _ _ 34 [(3, .inl (((((0 + 1) + 1) + 1) + 1) + 1)), (2, .inl ((hs p))), (0, .inr (.inr (.inl (some c)))), (1, .inr (.inr (.inr 9)))] [] (am_mm D K102 J ρ) _
              refine am_e_ss 1 (q := (35, [(3, .inl (((((0 + 1) + 1) + 1) + 1) + 1)), (2, .inl ((hs p))), (0, .inr (.inr (.inl (some c)))), (1, .inr (.inr (.inr 9)))], [.inl (((((0 + 1) + 1) + 1) + 1) + 1)], (am_mm D K102 J ρ))) rfl ?_
              refine am_e_ireturn rfl rfl ?_
              have ev : pt_wh (hs p) = 5 := by
                unfold pt_wh
                (repeat' split) <;> omega
              rw [ev]
              exact ⟨_, rfl, g102⟩
          · show am_E _ _ _ 24 [(3, .inl ((((0 + 1) + 1) + 1) + 1)), (2, .inl ((hs p))), (0, .inr (.inr (.inl (some c)))), (1, .inr (.inr (.inr 9)))] [] (am_mm D I J ρ) _
            refine am_e_ss 2 (q := (26, [(3, .inl ((((0 + 1) + 1) + 1) + 1)), (2, .inl ((hs p))), (0, .inr (.inr (.inl (some c)))), (1, .inr (.inr (.inr 9)))], [.inr (.inr (.inl (some c))), .inr (.inr (.inl (some c)))], (am_mm D I J ρ))) rfl ?_
            refine am_e_getfield (c := 1) (m := 10) (f := 1) rfl hsc rfl (by decide) (by decide) ?_
            show am_E _ _ _ 29 [(3, .inl ((((0 + 1) + 1) + 1) + 1)), (2, .inl ((hs p))), (0, .inr (.inr (.inl (some c)))), (1, .inr (.inr (.inr 9)))] [.inl ((I c 1)), .inr (.inr (.inl (some c)))] (am_mm D I J ρ) _
            refine am_e_ss 2 (q := (31, [(3, .inl ((((0 + 1) + 1) + 1) + 1)), (2, .inl ((hs p))), (0, .inr (.inr (.inl (some c)))), (1, .inr (.inr (.inr 9)))], [.inl ((I c 1) + 1), .inr (.inr (.inl (some c)))], (am_mm D I J ρ))) rfl ?_
            refine am_e_putfield (c := 1) (m := 10) (f := 1) (M' := (am_mm D (am_up I c 1 ((I c 1) + 1)) J ρ)) rfl hsc rfl (by decide) (by decide) rfl ?_
            show am_E _ _ _ 34 [(3, .inl ((((0 + 1) + 1) + 1) + 1)), (2, .inl ((hs p))), (0, .inr (.inr (.inl (some c)))), (1, .inr (.inr (.inr 9)))] [] (am_mm D (am_up I c 1 ((I c 1) + 1)) J ρ) _
            have u103 : I c 1 = ((p : Nat) : Int) := hcs.2.1.1
            rw [u103]
            have g103 := k_cs_1 hcs (k_cs_lt hcs (show 0 ≤ hs (p) by omega))
            have gb103 := tb (p + 1)
            generalize am_up I c 1 (((p : Nat) : Int) + 1) = K103 at g103 ⊢
            show am_E _ _ _ 34 [(3, .inl ((((0 + 1) + 1) + 1) + 1)), (2, .inl ((hs p))), (0, .inr (.inr (.inl (some c)))), (1, .inr (.inr (.inr 9)))] [] (am_mm D K103 J ρ) _
            refine am_e_ss 1 (q := (35, [(3, .inl ((((0 + 1) + 1) + 1) + 1)), (2, .inl ((hs p))), (0, .inr (.inr (.inl (some c)))), (1, .inr (.inr (.inr 9)))], [.inl ((((0 + 1) + 1) + 1) + 1)], (am_mm D K103 J ρ))) rfl ?_
            refine am_e_ireturn rfl rfl ?_
            have ev : pt_wh (hs p) = 4 := by
              unfold pt_wh
              (repeat' split) <;> omega
            rw [ev]
            exact ⟨_, rfl, g103⟩
        · show am_E _ _ _ 24 [(3, .inl (((0 + 1) + 1) + 1)), (2, .inl ((hs p))), (0, .inr (.inr (.inl (some c)))), (1, .inr (.inr (.inr 9)))] [] (am_mm D I J ρ) _
          refine am_e_ss 2 (q := (26, [(3, .inl (((0 + 1) + 1) + 1)), (2, .inl ((hs p))), (0, .inr (.inr (.inl (some c)))), (1, .inr (.inr (.inr 9)))], [.inr (.inr (.inl (some c))), .inr (.inr (.inl (some c)))], (am_mm D I J ρ))) rfl ?_
          refine am_e_getfield (c := 1) (m := 10) (f := 1) rfl hsc rfl (by decide) (by decide) ?_
          show am_E _ _ _ 29 [(3, .inl (((0 + 1) + 1) + 1)), (2, .inl ((hs p))), (0, .inr (.inr (.inl (some c)))), (1, .inr (.inr (.inr 9)))] [.inl ((I c 1)), .inr (.inr (.inl (some c)))] (am_mm D I J ρ) _
          refine am_e_ss 2 (q := (31, [(3, .inl (((0 + 1) + 1) + 1)), (2, .inl ((hs p))), (0, .inr (.inr (.inl (some c)))), (1, .inr (.inr (.inr 9)))], [.inl ((I c 1) + 1), .inr (.inr (.inl (some c)))], (am_mm D I J ρ))) rfl ?_
          refine am_e_putfield (c := 1) (m := 10) (f := 1) (M' := (am_mm D (am_up I c 1 ((I c 1) + 1)) J ρ)) rfl hsc rfl (by decide) (by decide) rfl ?_
          show am_E _ _ _ 34 [(3, .inl (((0 + 1) + 1) + 1)), (2, .inl ((hs p))), (0, .inr (.inr (.inl (some c)))), (1, .inr (.inr (.inr 9)))] [] (am_mm D (am_up I c 1 ((I c 1) + 1)) J ρ) _
          have u104 : I c 1 = ((p : Nat) : Int) := hcs.2.1.1
          rw [u104]
          have g104 := k_cs_1 hcs (k_cs_lt hcs (show 0 ≤ hs (p) by omega))
          have gb104 := tb (p + 1)
          generalize am_up I c 1 (((p : Nat) : Int) + 1) = K104 at g104 ⊢
          show am_E _ _ _ 34 [(3, .inl (((0 + 1) + 1) + 1)), (2, .inl ((hs p))), (0, .inr (.inr (.inl (some c)))), (1, .inr (.inr (.inr 9)))] [] (am_mm D K104 J ρ) _
          refine am_e_ss 1 (q := (35, [(3, .inl (((0 + 1) + 1) + 1)), (2, .inl ((hs p))), (0, .inr (.inr (.inl (some c)))), (1, .inr (.inr (.inr 9)))], [.inl (((0 + 1) + 1) + 1)], (am_mm D K104 J ρ))) rfl ?_
          refine am_e_ireturn rfl rfl ?_
          have ev : pt_wh (hs p) = 3 := by
            unfold pt_wh
            (repeat' split) <;> omega
          rw [ev]
          exact ⟨_, rfl, g104⟩
      · show am_E _ _ _ 24 [(3, .inl ((0 + 1) + 1)), (2, .inl ((hs p))), (0, .inr (.inr (.inl (some c)))), (1, .inr (.inr (.inr 9)))] [] (am_mm D I J ρ) _
        refine am_e_ss 2 (q := (26, [(3, .inl ((0 + 1) + 1)), (2, .inl ((hs p))), (0, .inr (.inr (.inl (some c)))), (1, .inr (.inr (.inr 9)))], [.inr (.inr (.inl (some c))), .inr (.inr (.inl (some c)))], (am_mm D I J ρ))) rfl ?_
        refine am_e_getfield (c := 1) (m := 10) (f := 1) rfl hsc rfl (by decide) (by decide) ?_
        show am_E _ _ _ 29 [(3, .inl ((0 + 1) + 1)), (2, .inl ((hs p))), (0, .inr (.inr (.inl (some c)))), (1, .inr (.inr (.inr 9)))] [.inl ((I c 1)), .inr (.inr (.inl (some c)))] (am_mm D I J ρ) _
        refine am_e_ss 2 (q := (31, [(3, .inl ((0 + 1) + 1)), (2, .inl ((hs p))), (0, .inr (.inr (.inl (some c)))), (1, .inr (.inr (.inr 9)))], [.inl ((I c 1) + 1), .inr (.inr (.inl (some c)))], (am_mm D I J ρ))) rfl ?_
        refine am_e_putfield (c := 1) (m := 10) (f := 1) (M' := (am_mm D (am_up I c 1 ((I c 1) + 1)) J ρ)) rfl hsc rfl (by decide) (by decide) rfl ?_
        show am_E _ _ _ 34 [(3, .inl ((0 + 1) + 1)), (2, .inl ((hs p))), (0, .inr (.inr (.inl (some c)))), (1, .inr (.inr (.inr 9)))] [] (am_mm D (am_up I c 1 ((I c 1) + 1)) J ρ) _
        have u105 : I c 1 = ((p : Nat) : Int) := hcs.2.1.1
        rw [u105]
        have g105 := k_cs_1 hcs (k_cs_lt hcs (show 0 ≤ hs (p) by omega))
        have gb105 := tb (p + 1)
        generalize am_up I c 1 (((p : Nat) : Int) + 1) = K105 at g105 ⊢
        show am_E _ _ _ 34 [(3, .inl ((0 + 1) + 1)), (2, .inl ((hs p))), (0, .inr (.inr (.inl (some c)))), (1, .inr (.inr (.inr 9)))] [] (am_mm D K105 J ρ) _
        refine am_e_ss 1 (q := (35, [(3, .inl ((0 + 1) + 1)), (2, .inl ((hs p))), (0, .inr (.inr (.inl (some c)))), (1, .inr (.inr (.inr 9)))], [.inl ((0 + 1) + 1)], (am_mm D K105 J ρ))) rfl ?_
        refine am_e_ireturn rfl rfl ?_
        have ev : pt_wh (hs p) = 2 := by
          unfold pt_wh
          (repeat' split) <;> omega
        rw [ev]
        exact ⟨_, rfl, g105⟩
    · show am_E _ _ _ 24 [(3, .inl (0 + 1)), (2, .inl ((hs p))), (0, .inr (.inr (.inl (some c)))), (1, .inr (.inr (.inr 9)))] [] (am_mm D I J ρ) _
      refine am_e_ss 2 (q := (26, [(3, .inl (0 + 1)), (2, .inl ((hs p))), (0, .inr (.inr (.inl (some c)))), (1, .inr (.inr (.inr 9)))], [.inr (.inr (.inl (some c))), .inr (.inr (.inl (some c)))], (am_mm D I J ρ))) rfl ?_
      refine am_e_getfield (c := 1) (m := 10) (f := 1) rfl hsc rfl (by decide) (by decide) ?_
      show am_E _ _ _ 29 [(3, .inl (0 + 1)), (2, .inl ((hs p))), (0, .inr (.inr (.inl (some c)))), (1, .inr (.inr (.inr 9)))] [.inl ((I c 1)), .inr (.inr (.inl (some c)))] (am_mm D I J ρ) _
      refine am_e_ss 2 (q := (31, [(3, .inl (0 + 1)), (2, .inl ((hs p))), (0, .inr (.inr (.inl (some c)))), (1, .inr (.inr (.inr 9)))], [.inl ((I c 1) + 1), .inr (.inr (.inl (some c)))], (am_mm D I J ρ))) rfl ?_
      refine am_e_putfield (c := 1) (m := 10) (f := 1) (M' := (am_mm D (am_up I c 1 ((I c 1) + 1)) J ρ)) rfl hsc rfl (by decide) (by decide) rfl ?_
      show am_E _ _ _ 34 [(3, .inl (0 + 1)), (2, .inl ((hs p))), (0, .inr (.inr (.inl (some c)))), (1, .inr (.inr (.inr 9)))] [] (am_mm D (am_up I c 1 ((I c 1) + 1)) J ρ) _
      have u106 : I c 1 = ((p : Nat) : Int) := hcs.2.1.1
      rw [u106]
      have g106 := k_cs_1 hcs (k_cs_lt hcs (show 0 ≤ hs (p) by omega))
      have gb106 := tb (p + 1)
      generalize am_up I c 1 (((p : Nat) : Int) + 1) = K106 at g106 ⊢
      show am_E _ _ _ 34 [(3, .inl (0 + 1)), (2, .inl ((hs p))), (0, .inr (.inr (.inl (some c)))), (1, .inr (.inr (.inr 9)))] [] (am_mm D K106 J ρ) _
      refine am_e_ss 1 (q := (35, [(3, .inl (0 + 1)), (2, .inl ((hs p))), (0, .inr (.inr (.inl (some c)))), (1, .inr (.inr (.inr 9)))], [.inl (0 + 1)], (am_mm D K106 J ρ))) rfl ?_
      refine am_e_ireturn rfl rfl ?_
      have ev : pt_wh (hs p) = 1 := by
        unfold pt_wh
        (repeat' split) <;> omega
      rw [ev]
      exact ⟨_, rfl, g106⟩
  · show am_E _ _ _ 24 [(3, .inl 0), (2, .inl ((hs p))), (0, .inr (.inr (.inl (some c)))), (1, .inr (.inr (.inr 9)))] [] (am_mm D I J ρ) _
    refine am_e_ss 2 (q := (26, [(3, .inl 0), (2, .inl ((hs p))), (0, .inr (.inr (.inl (some c)))), (1, .inr (.inr (.inr 9)))], [.inr (.inr (.inl (some c))), .inr (.inr (.inl (some c)))], (am_mm D I J ρ))) rfl ?_
    refine am_e_getfield (c := 1) (m := 10) (f := 1) rfl hsc rfl (by decide) (by decide) ?_
    show am_E _ _ _ 29 [(3, .inl 0), (2, .inl ((hs p))), (0, .inr (.inr (.inl (some c)))), (1, .inr (.inr (.inr 9)))] [.inl ((I c 1)), .inr (.inr (.inl (some c)))] (am_mm D I J ρ) _
    refine am_e_ss 2 (q := (31, [(3, .inl 0), (2, .inl ((hs p))), (0, .inr (.inr (.inl (some c)))), (1, .inr (.inr (.inr 9)))], [.inl ((I c 1) + 1), .inr (.inr (.inl (some c)))], (am_mm D I J ρ))) rfl ?_
    refine am_e_putfield (c := 1) (m := 10) (f := 1) (M' := (am_mm D (am_up I c 1 ((I c 1) + 1)) J ρ)) rfl hsc rfl (by decide) (by decide) rfl ?_
    show am_E _ _ _ 34 [(3, .inl 0), (2, .inl ((hs p))), (0, .inr (.inr (.inl (some c)))), (1, .inr (.inr (.inr 9)))] [] (am_mm D (am_up I c 1 ((I c 1) + 1)) J ρ) _
    have u107 : I c 1 = ((p : Nat) : Int) := hcs.2.1.1
    rw [u107]
    have g107 := k_cs_1 hcs (k_cs_lt hcs (show 0 ≤ hs (p) by omega))
    have gb107 := tb (p + 1)
    generalize am_up I c 1 (((p : Nat) : Int) + 1) = K107 at g107 ⊢
    show am_E _ _ _ 34 [(3, .inl 0), (2, .inl ((hs p))), (0, .inr (.inr (.inl (some c)))), (1, .inr (.inr (.inr 9)))] [] (am_mm D K107 J ρ) _
    refine am_e_ss 1 (q := (35, [(3, .inl 0), (2, .inl ((hs p))), (0, .inr (.inr (.inl (some c)))), (1, .inr (.inr (.inr 9)))], [.inl 0], (am_mm D K107 J ρ))) rfl ?_
    refine am_e_ireturn rfl rfl ?_
    have ev : pt_wh (hs p) = 0 := by
      unfold pt_wh
      (repeat' split) <;> omega
    rw [ev]
    exact ⟨_, rfl, g107⟩
theorem k_hw {X : Nat × (Nat → Int)} {D : List (Nat × Nat)} {I J : Nat → Nat → Int} {ρ : Nat → Nat → Option Nat} (d : Nat) {I0 : Nat → Nat → Int} {hs : Nat → Int} {z c p : Nat} {L : List Int} (hsh : k_sh D ρ c) (hcs : k_cs I0 I hs z c (p, some L))  : am_E X (d + 4) 16 0 [(0, .inr (.inr (.inl (some c)))), (1, .inr (.inr (.inr 11)))] [] (am_mm D I J ρ) (fun r => ∃ K, r = (some (.inl (pt_hw (hs p))), am_mm D K J ρ) ∧ k_cs I0 K hs z c ((if pt_hw (hs p) = -1 then p else p + 1, some L))) := by
  have hclk0 := hsh.1
  have hr8 := hsh.2
  have hclk := hclk0
  obtain ⟨⟨hsc, hs1, hs2, hs3, hs4⟩, hr1, hr2, hr3, hr4⟩ := hclk
  have p1 : I c 1 = (p : Int) := hcs.2.1.1
  have s9 : I c 9 = (z : Int) := hcs.2.1.2.1
  have tz := hcs.2.1.2.2.1
  have tpz : p ≤ z := hcs.2.1.2.2.2.1
  have th := hcs.2.1.2.2.2.2.1
  have te := hcs.2.1.2.2.2.2.2.1
  have tb := hcs.2.1.2.2.2.2.2.2
  have tbp := tb p
  have hc18 := hcs.2.2.1
  have n3 : I c 3 = (L.length : Int) := hcs.2.2.2.1
  have hll : L.length ≤ p := hcs.2.2.2.2.2
  refine am_e_ss 1 (q := (1, [(0, .inr (.inr (.inl (some c)))), (1, .inr (.inr (.inr 11)))], [.inr (.inr (.inl (some c)))], (am_mm D I J ρ))) rfl ?_
  refine am_e_virtual (Q := fun r => r = (some (.inl ((hs p))), (am_mm D I J ρ))) rfl rfl (Nat.le_of_ble_eq_true rfl) (am_kd_of hsc (by decide)) rfl (Nat.le_of_ble_eq_true rfl) (Nat.le_of_ble_eq_true rfl) (k_peek _ hsh hcs) ?_
  rintro r rfl
  show am_E _ _ _ 4 [(0, .inr (.inr (.inl (some c)))), (1, .inr (.inr (.inr 11)))] [.inl ((hs p))] (am_mm D I J ρ) _
  refine am_e_ss 5 (q := (9, [(3, .inl 0), (2, .inl ((hs p))), (0, .inr (.inr (.inl (some c)))), (1, .inr (.inr (.inr 11)))], [.inr (.inr (.inr 11)), .inl 0], (am_mm D I J ρ))) rfl ?_
  refine am_e_virtual (Q := fun r => r = (some (.inl 3), (am_mm D I J ρ))) rfl rfl (Nat.le_of_ble_eq_true rfl) rfl rfl (Nat.le_of_ble_eq_true rfl) (Nat.le_of_ble_eq_true rfl) (am_len_5 _) ?_
  rintro r rfl
  show am_E _ _ _ 12 [(3, .inl 0), (2, .inl ((hs p))), (0, .inr (.inr (.inl (some c)))), (1, .inr (.inr (.inr 11)))] [.inl 3, .inl 0] (am_mm D I J ρ) _
  refine am_e_s (q := (15, [(3, .inl 0), (2, .inl ((hs p))), (0, .inr (.inr (.inl (some c)))), (1, .inr (.inr (.inr 11)))], [], (am_mm D I J ρ))) rfl rfl ?_
  refine am_e_ss 2 (q := (17, [(3, .inl 0), (2, .inl ((hs p))), (0, .inr (.inr (.inl (some c)))), (1, .inr (.inr (.inr 11)))], [.inl 0, .inr (.inr (.inr 11))], (am_mm D I J ρ))) rfl ?_
  refine am_e_virtual (Q := fun r => r = (some (.inl 60), (am_mm D I J ρ))) rfl rfl (Nat.le_of_ble_eq_true rfl) rfl rfl (Nat.le_of_ble_eq_true rfl) (Nat.le_of_ble_eq_true rfl) (am_chr_5_0 _) ?_
  rintro r rfl
  show am_E _ _ _ 20 [(3, .inl 0), (2, .inl ((hs p))), (0, .inr (.inr (.inl (some c)))), (1, .inr (.inr (.inr 11)))] [.inl 60] (am_mm D I J ρ) _
  refine am_e_ss 1 (q := (21, [(3, .inl 0), (2, .inl ((hs p))), (0, .inr (.inr (.inl (some c)))), (1, .inr (.inr (.inr 11)))], [.inl ((hs p)), .inl 60], (am_mm D I J ρ))) rfl ?_
  refine am_e_icmp2 rfl ⟨by omega, by omega⟩ ⟨by omega, by omega⟩ (fun (hw2 : ¬ 60 = (hs p)) => ?_) (fun (hw2 : ¬ (¬ 60 = (hs p))) => ?_)
  · show am_E _ _ _ 36 [(3, .inl 0), (2, .inl ((hs p))), (0, .inr (.inr (.inl (some c)))), (1, .inr (.inr (.inr 11)))] [] (am_mm D I J ρ) _
    refine am_e_ss 4 (q := (9, [(3, .inl (0 + 1)), (2, .inl ((hs p))), (0, .inr (.inr (.inl (some c)))), (1, .inr (.inr (.inr 11)))], [.inr (.inr (.inr 11)), .inl (0 + 1)], (am_mm D I J ρ))) rfl ?_
    refine am_e_virtual (Q := fun r => r = (some (.inl 3), (am_mm D I J ρ))) rfl rfl (Nat.le_of_ble_eq_true rfl) rfl rfl (Nat.le_of_ble_eq_true rfl) (Nat.le_of_ble_eq_true rfl) (am_len_5 _) ?_
    rintro r rfl
    show am_E _ _ _ 12 [(3, .inl (0 + 1)), (2, .inl ((hs p))), (0, .inr (.inr (.inl (some c)))), (1, .inr (.inr (.inr 11)))] [.inl 3, .inl (0 + 1)] (am_mm D I J ρ) _
    refine am_e_s (q := (15, [(3, .inl (0 + 1)), (2, .inl ((hs p))), (0, .inr (.inr (.inl (some c)))), (1, .inr (.inr (.inr 11)))], [], (am_mm D I J ρ))) rfl rfl ?_
    refine am_e_ss 2 (q := (17, [(3, .inl (0 + 1)), (2, .inl ((hs p))), (0, .inr (.inr (.inl (some c)))), (1, .inr (.inr (.inr 11)))], [.inl (0 + 1), .inr (.inr (.inr 11))], (am_mm D I J ρ))) rfl ?_
    refine am_e_virtual (Q := fun r => r = (some (.inl 61), (am_mm D I J ρ))) rfl rfl (Nat.le_of_ble_eq_true rfl) rfl rfl (Nat.le_of_ble_eq_true rfl) (Nat.le_of_ble_eq_true rfl) (am_chr_5_1 _) ?_
    rintro r rfl
    show am_E _ _ _ 20 [(3, .inl (0 + 1)), (2, .inl ((hs p))), (0, .inr (.inr (.inl (some c)))), (1, .inr (.inr (.inr 11)))] [.inl 61] (am_mm D I J ρ) _
    refine am_e_ss 1 (q := (21, [(3, .inl (0 + 1)), (2, .inl ((hs p))), (0, .inr (.inr (.inl (some c)))), (1, .inr (.inr (.inr 11)))], [.inl ((hs p)), .inl 61], (am_mm D I J ρ))) rfl ?_
    refine am_e_icmp2 rfl ⟨by omega, by omega⟩ ⟨by omega, by omega⟩ (fun (hw4 : ¬ 61 = (hs p)) => ?_) (fun (hw4 : ¬ (¬ 61 = (hs p))) => ?_)
    · show am_E _ _ _ 36 [(3, .inl (0 + 1)), (2, .inl ((hs p))), (0, .inr (.inr (.inl (some c)))), (1, .inr (.inr (.inr 11)))] [] (am_mm D I J ρ) _
      refine am_e_ss 4 (q := (9, [(3, .inl ((0 + 1) + 1)), (2, .inl ((hs p))), (0, .inr (.inr (.inl (some c)))), (1, .inr (.inr (.inr 11)))], [.inr (.inr (.inr 11)), .inl ((0 + 1) + 1)], (am_mm D I J ρ))) rfl ?_
      refine am_e_virtual (Q := fun r => r = (some (.inl 3), (am_mm D I J ρ))) rfl rfl (Nat.le_of_ble_eq_true rfl) rfl rfl (Nat.le_of_ble_eq_true rfl) (Nat.le_of_ble_eq_true rfl) (am_len_5 _) ?_
      rintro r rfl
      show am_E _ _ _ 12 [(3, .inl ((0 + 1) + 1)), (2, .inl ((hs p))), (0, .inr (.inr (.inl (some c)))), (1, .inr (.inr (.inr 11)))] [.inl 3, .inl ((0 + 1) + 1)] (am_mm D I J ρ) _
      refine am_e_s (q := (15, [(3, .inl ((0 + 1) + 1)), (2, .inl ((hs p))), (0, .inr (.inr (.inl (some c)))), (1, .inr (.inr (.inr 11)))], [], (am_mm D I J ρ))) rfl rfl ?_
      refine am_e_ss 2 (q := (17, [(3, .inl ((0 + 1) + 1)), (2, .inl ((hs p))), (0, .inr (.inr (.inl (some c)))), (1, .inr (.inr (.inr 11)))], [.inl ((0 + 1) + 1), .inr (.inr (.inr 11))], (am_mm D I J ρ))) rfl ?_
      refine am_e_virtual (Q := fun r => r = (some (.inl 62), (am_mm D I J ρ))) rfl rfl (Nat.le_of_ble_eq_true rfl) rfl rfl (Nat.le_of_ble_eq_true rfl) (Nat.le_of_ble_eq_true rfl) (am_chr_5_2 _) ?_
      rintro r rfl
      show am_E _ _ _ 20 [(3, .inl ((0 + 1) + 1)), (2, .inl ((hs p))), (0, .inr (.inr (.inl (some c)))), (1, .inr (.inr (.inr 11)))] [.inl 62] (am_mm D I J ρ) _
      refine am_e_ss 1 (q := (21, [(3, .inl ((0 + 1) + 1)), (2, .inl ((hs p))), (0, .inr (.inr (.inl (some c)))), (1, .inr (.inr (.inr 11)))], [.inl ((hs p)), .inl 62], (am_mm D I J ρ))) rfl ?_
      refine am_e_icmp2 rfl ⟨by omega, by omega⟩ ⟨by omega, by omega⟩ (fun (hw6 : ¬ 62 = (hs p)) => ?_) (fun (hw6 : ¬ (¬ 62 = (hs p))) => ?_)
      · show am_E _ _ _ 36 [(3, .inl ((0 + 1) + 1)), (2, .inl ((hs p))), (0, .inr (.inr (.inl (some c)))), (1, .inr (.inr (.inr 11)))] [] (am_mm D I J ρ) _
        refine am_e_ss 4 (q := (9, [(3, .inl (((0 + 1) + 1) + 1)), (2, .inl ((hs p))), (0, .inr (.inr (.inl (some c)))), (1, .inr (.inr (.inr 11)))], [.inr (.inr (.inr 11)), .inl (((0 + 1) + 1) + 1)], (am_mm D I J ρ))) rfl ?_
        refine am_e_virtual (Q := fun r => r = (some (.inl 3), (am_mm D I J ρ))) rfl rfl (Nat.le_of_ble_eq_true rfl) rfl rfl (Nat.le_of_ble_eq_true rfl) (Nat.le_of_ble_eq_true rfl) (am_len_5 _) ?_
        rintro r rfl
        show am_E _ _ _ 12 [(3, .inl (((0 + 1) + 1) + 1)), (2, .inl ((hs p))), (0, .inr (.inr (.inl (some c)))), (1, .inr (.inr (.inr 11)))] [.inl 3, .inl (((0 + 1) + 1) + 1)] (am_mm D I J ρ) _
        refine am_e_s (q := (42, [(3, .inl (((0 + 1) + 1) + 1)), (2, .inl ((hs p))), (0, .inr (.inr (.inl (some c)))), (1, .inr (.inr (.inr 11)))], [], (am_mm D I J ρ))) rfl rfl ?_
        refine am_e_ss 1 (q := (43, [(3, .inl (((0 + 1) + 1) + 1)), (2, .inl ((hs p))), (0, .inr (.inr (.inl (some c)))), (1, .inr (.inr (.inr 11)))], [.inl (-1)], (am_mm D I J ρ))) rfl ?_
        refine am_e_ireturn rfl rfl ?_
        have ev : pt_hw (hs p) = -1 := by
          unfold pt_hw
          (repeat' split) <;> omega
        rw [ev]
        exact ⟨_, rfl, hcs⟩
      · show am_E _ _ _ 24 [(3, .inl ((0 + 1) + 1)), (2, .inl ((hs p))), (0, .inr (.inr (.inl (some c)))), (1, .inr (.inr (.inr 11)))] [] (am_mm D I J ρ) _
        refine am_e_ss 2 (q := (26, [(3, .inl ((0 + 1) + 1)), (2, .inl ((hs p))), (0, .inr (.inr (.inl (some c)))), (1, .inr (.inr (.inr 11)))], [.inr (.inr (.inl (some c))), .inr (.inr (.inl (some c)))], (am_mm D I J ρ))) rfl ?_
        refine am_e_getfield (c := 1) (m := 10) (f := 1) rfl hsc rfl (by decide) (by decide) ?_
        show am_E _ _ _ 29 [(3, .inl ((0 + 1) + 1)), (2, .inl ((hs p))), (0, .inr (.inr (.inl (some c)))), (1, .inr (.inr (.inr 11)))] [.inl ((I c 1)), .inr (.inr (.inl (some c)))] (am_mm D I J ρ) _
        refine am_e_ss 2 (q := (31, [(3, .inl ((0 + 1) + 1)), (2, .inl ((hs p))), (0, .inr (.inr (.inl (some c)))), (1, .inr (.inr (.inr 11)))], [.inl ((I c 1) + 1), .inr (.inr (.inl (some c)))], (am_mm D I J ρ))) rfl ?_
        refine am_e_putfield (c := 1) (m := 10) (f := 1) (M' := (am_mm D (am_up I c 1 ((I c 1) + 1)) J ρ)) rfl hsc rfl (by decide) (by decide) rfl ?_
        show am_E _ _ _ 34 [(3, .inl ((0 + 1) + 1)), (2, .inl ((hs p))), (0, .inr (.inr (.inl (some c)))), (1, .inr (.inr (.inr 11)))] [] (am_mm D (am_up I c 1 ((I c 1) + 1)) J ρ) _
        have u108 : I c 1 = ((p : Nat) : Int) := hcs.2.1.1
        rw [u108]
        have g108 := k_cs_1 hcs (k_cs_lt hcs (show 0 ≤ hs (p) by omega))
        have gb108 := tb (p + 1)
        generalize am_up I c 1 (((p : Nat) : Int) + 1) = K108 at g108 ⊢
        show am_E _ _ _ 34 [(3, .inl ((0 + 1) + 1)), (2, .inl ((hs p))), (0, .inr (.inr (.inl (some c)))), (1, .inr (.inr (.inr 11)))] [] (am_mm D K108 J ρ) _
        refine am_e_ss 1 (q := (35, [(3, .inl ((0 + 1) + 1)), (2, .inl ((hs p))), (0, .inr (.inr (.inl (some c)))), (1, .inr (.inr (.inr 11)))], [.inl ((0 + 1) + 1)], (am_mm D K108 J ρ))) rfl ?_
        refine am_e_ireturn rfl rfl ?_
        have ev : pt_hw (hs p) = 2 := by
          unfold pt_hw
          (repeat' split) <;> omega
        rw [ev]
        exact ⟨_, rfl, g108⟩
    · show am_E _ _ _ 24 [(3, .inl (0 + 1)), (2, .inl ((hs p))), (0, .inr (.inr (.inl (some c)))), (1, .inr (.inr (.inr 11)))] [] (am_mm D I J ρ) _
      refine am_e_ss 2 (q := (26, [(3, .inl (0 + 1)), (2, .inl ((hs p))), (0, .inr (.inr (.inl (some c)))), (1, .inr (.inr (.inr 11)))], [.inr (.inr (.inl (some c))), .inr (.inr (.inl (some c)))], (am_mm D I J ρ))) rfl ?_
      refine am_e_getfield (c := 1) (m := 10) (f := 1) rfl hsc rfl (by decide) (by decide) ?_
      show am_E _ _ _ 29 [(3, .inl (0 + 1)), (2, .inl ((hs p))), (0, .inr (.inr (.inl (some c)))), (1, .inr (.inr (.inr 11)))] [.inl ((I c 1)), .inr (.inr (.inl (some c)))] (am_mm D I J ρ) _
      refine am_e_ss 2 (q := (31, [(3, .inl (0 + 1)), (2, .inl ((hs p))), (0, .inr (.inr (.inl (some c)))), (1, .inr (.inr (.inr 11)))], [.inl ((I c 1) + 1), .inr (.inr (.inl (some c)))], (am_mm D I J ρ))) rfl ?_
      refine am_e_putfield (c := 1) (m := 10) (f := 1) (M' := (am_mm D (am_up I c 1 ((I c 1) + 1)) J ρ)) rfl hsc rfl (by decide) (by decide) rfl ?_
      show am_E _ _ _ 34 [(3, .inl (0 + 1)), (2, .inl ((hs p))), (0, .inr (.inr (.inl (some c)))), (1, .inr (.inr (.inr 11)))] [] (am_mm D (am_up I c 1 ((I c 1) + 1)) J ρ) _
      have u109 : I c 1 = ((p : Nat) : Int) := hcs.2.1.1
      rw [u109]
      have g109 := k_cs_1 hcs (k_cs_lt hcs (show 0 ≤ hs (p) by omega))
      have gb109 := tb (p + 1)
      generalize am_up I c 1 (((p : Nat) : Int) + 1) = K109 at g109 ⊢
      show am_E _ _ _ 34 [(3, .inl (0 + 1)), (2, .inl ((hs p))), (0, .inr (.inr (.inl (some c)))), (1, .inr (.inr (.inr 11)))] [] (am_mm D K109 J ρ) _
      refine am_e_ss 1 (q := (35, [(3, .inl (0 + 1)), (2, .inl ((hs p))), (0, .inr (.inr (.inl (some c)))), (1, .inr (.inr (.inr 11)))], [.inl (0 + 1)], (am_mm D K109 J ρ))) rfl ?_
      refine am_e_ireturn rfl rfl ?_
      have ev : pt_hw (hs p) = 1 := by
        unfold pt_hw
        (repeat' split) <;> omega
      rw [ev]
      exact ⟨_, rfl, g109⟩
  · show am_E _ _ _ 24 [(3, .inl 0), (2, .inl ((hs p))), (0, .inr (.inr (.inl (some c)))), (1, .inr (.inr (.inr 11)))] [] (am_mm D I J ρ) _
    refine am_e_ss 2 (q := (26, [(3, .inl 0), (2, .inl ((hs p))), (0, .inr (.inr (.inl (some c)))), (1, .inr (.inr (.inr 11)))], [.inr (.inr (.inl (some c))), .inr (.inr (.inl (some c)))], (am_mm D I J ρ))) rfl ?_
    refine am_e_getfield (c := 1) (m := 10) (f := 1) rfl hsc rfl (by decide) (by decide) ?_
    show am_E _ _ _ 29 [(3, .inl 0), (2, .inl ((hs p))), (0, .inr (.inr (.inl (some c)))), (1, .inr (.inr (.inr 11)))] [.inl ((I c 1)), .inr (.inr (.inl (some c)))] (am_mm D I J ρ) _
    refine am_e_ss 2 (q := (31, [(3, .inl 0), (2, .inl ((hs p))), (0, .inr (.inr (.inl (some c)))), (1, .inr (.inr (.inr 11)))], [.inl ((I c 1) + 1), .inr (.inr (.inl (some c)))], (am_mm D I J ρ))) rfl ?_
    refine am_e_putfield (c := 1) (m := 10) (f := 1) (M' := (am_mm D (am_up I c 1 ((I c 1) + 1)) J ρ)) rfl hsc rfl (by decide) (by decide) rfl ?_
    show am_E _ _ _ 34 [(3, .inl 0), (2, .inl ((hs p))), (0, .inr (.inr (.inl (some c)))), (1, .inr (.inr (.inr 11)))] [] (am_mm D (am_up I c 1 ((I c 1) + 1)) J ρ) _
    have u110 : I c 1 = ((p : Nat) : Int) := hcs.2.1.1
    rw [u110]
    have g110 := k_cs_1 hcs (k_cs_lt hcs (show 0 ≤ hs (p) by omega))
    have gb110 := tb (p + 1)
    generalize am_up I c 1 (((p : Nat) : Int) + 1) = K110 at g110 ⊢
    show am_E _ _ _ 34 [(3, .inl 0), (2, .inl ((hs p))), (0, .inr (.inr (.inl (some c)))), (1, .inr (.inr (.inr 11)))] [] (am_mm D K110 J ρ) _
    refine am_e_ss 1 (q := (35, [(3, .inl 0), (2, .inl ((hs p))), (0, .inr (.inr (.inl (some c)))), (1, .inr (.inr (.inr 11)))], [.inl 0], (am_mm D K110 J ρ))) rfl ?_
    refine am_e_ireturn rfl rfl ?_
    have ev : pt_hw (hs p) = 0 := by
      unfold pt_hw
      (repeat' split) <;> omega
    rw [ev]
    exact ⟨_, rfl, g110⟩
theorem k_num {X : Nat × (Nat → Int)} {D : List (Nat × Nat)} {I J : Nat → Nat → Int} {ρ : Nat → Nat → Option Nat} (d : Nat) {I0 : Nat → Nat → Int} {hs : Nat → Int} {z c p : Nat} {L : List Int} (hsh : k_sh D ρ c) (hcs : k_cs I0 I hs z c (p, some L))  : am_E X (d + 1) 12 0 [(0, .inr (.inr (.inl (some c))))] [] (am_mm D I J ρ) (fun r => ∃ K, r = (some (.inl ((pt_num hs p).2.getD (-1))), am_mm D K J ρ) ∧ k_cs I0 K hs z c (((pt_num hs p).1, some L))) := by
  have hclk0 := hsh.1
  have hr8 := hsh.2
  have hclk := hclk0
  obtain ⟨⟨hsc, hs1, hs2, hs3, hs4⟩, hr1, hr2, hr3, hr4⟩ := hclk
  have p1 : I c 1 = (p : Int) := hcs.2.1.1
  have s9 : I c 9 = (z : Int) := hcs.2.1.2.1
  have tz := hcs.2.1.2.2.1
  have tpz : p ≤ z := hcs.2.1.2.2.2.1
  have th := hcs.2.1.2.2.2.2.1
  have te := hcs.2.1.2.2.2.2.2.1
  have tb := hcs.2.1.2.2.2.2.2.2
  have tbp := tb p
  have hc18 := hcs.2.2.1
  have n3 : I c 3 = (L.length : Int) := hcs.2.2.2.1
  have hll : L.length ≤ p := hcs.2.2.2.2.2
  refine am_e_ss 1 (q := (1, [(0, .inr (.inr (.inl (some c))))], [.inr (.inr (.inl (some c)))], (am_mm D I J ρ))) rfl ?_
  refine am_e_virtual (Q := fun r => r = (some (.inl ((hs p))), (am_mm D I J ρ))) rfl rfl (Nat.le_of_ble_eq_true rfl) (am_kd_of hsc (by decide)) rfl (Nat.le_of_ble_eq_true rfl) (Nat.le_of_ble_eq_true rfl) (k_peek _ hsh hcs) ?_
  rintro r rfl
  show am_E _ _ _ 4 [(0, .inr (.inr (.inl (some c))))] [.inl ((hs p))] (am_mm D I J ρ) _
  refine am_e_ss 4 (q := (9, [(1, .inl ((hs p) - 48)), (0, .inr (.inr (.inl (some c))))], [.inl ((hs p) - 48)], (am_mm D I J ρ))) rfl ?_
  refine am_e_if2 rfl ⟨by omega, by omega⟩ (fun (hw1 : ((hs p) - 48) < 0) => ?_) (fun (hw1 : ¬ (((hs p) - 48) < 0)) => ?_)
  · show am_E _ _ _ 18 [(1, .inl ((hs p) - 48)), (0, .inr (.inr (.inl (some c))))] [] (am_mm D I J ρ) _
    refine am_e_ss 1 (q := (19, [(1, .inl ((hs p) - 48)), (0, .inr (.inr (.inl (some c))))], [.inl (-1)], (am_mm D I J ρ))) rfl ?_
    refine am_e_ireturn rfl rfl ?_
    have en : pt_num hs p = (p, none) := if_pos (by omega)
    rw [en]
    exact ⟨_, rfl, hcs⟩
  · show am_E _ _ _ 12 [(1, .inl ((hs p) - 48)), (0, .inr (.inr (.inl (some c))))] [] (am_mm D I J ρ) _
    refine am_e_ss 2 (q := (15, [(1, .inl ((hs p) - 48)), (0, .inr (.inr (.inl (some c))))], [.inl 9, .inl ((hs p) - 48)], (am_mm D I J ρ))) rfl ?_
    refine am_e_icmp2 rfl ⟨by omega, by omega⟩ ⟨by omega, by omega⟩ (fun (hw2 : ((hs p) - 48) ≤ 9) => ?_) (fun (hw2 : ¬ (((hs p) - 48) ≤ 9)) => ?_)
    · show am_E _ _ _ 20 [(1, .inl ((hs p) - 48)), (0, .inr (.inr (.inl (some c))))] [] (am_mm D I J ρ) _
      refine am_e_ss 2 (q := (22, [(1, .inl ((hs p) - 48)), (0, .inr (.inr (.inl (some c))))], [.inr (.inr (.inl (some c))), .inr (.inr (.inl (some c)))], (am_mm D I J ρ))) rfl ?_
      refine am_e_getfield (c := 1) (m := 10) (f := 1) rfl hsc rfl (by decide) (by decide) ?_
      show am_E _ _ _ 25 [(1, .inl ((hs p) - 48)), (0, .inr (.inr (.inl (some c))))] [.inl ((I c 1)), .inr (.inr (.inl (some c)))] (am_mm D I J ρ) _
      refine am_e_ss 2 (q := (27, [(1, .inl ((hs p) - 48)), (0, .inr (.inr (.inl (some c))))], [.inl ((I c 1) + 1), .inr (.inr (.inl (some c)))], (am_mm D I J ρ))) rfl ?_
      refine am_e_putfield (c := 1) (m := 10) (f := 1) (M' := (am_mm D (am_up I c 1 ((I c 1) + 1)) J ρ)) rfl hsc rfl (by decide) (by decide) rfl ?_
      show am_E _ _ _ 30 [(1, .inl ((hs p) - 48)), (0, .inr (.inr (.inl (some c))))] [] (am_mm D (am_up I c 1 ((I c 1) + 1)) J ρ) _
      have u111 : I c 1 = ((p : Nat) : Int) := hcs.2.1.1
      rw [u111]
      have g111 := k_cs_1 hcs (k_cs_lt hcs (show 0 ≤ hs (p) by omega))
      have gb111 := tb (p + 1)
      generalize am_up I c 1 (((p : Nat) : Int) + 1) = K111 at g111 ⊢
      show am_E _ _ _ 30 [(1, .inl ((hs p) - 48)), (0, .inr (.inr (.inl (some c))))] [] (am_mm D K111 J ρ) _
      refine am_e_ss 1 (q := (31, [(1, .inl ((hs p) - 48)), (0, .inr (.inr (.inl (some c))))], [.inr (.inr (.inl (some c)))], (am_mm D K111 J ρ))) rfl ?_
      refine am_e_virtual (Q := fun r => r = (some (.inl ((hs (p + 1)))), (am_mm D K111 J ρ))) rfl rfl (Nat.le_of_ble_eq_true rfl) (am_kd_of hsc (by decide)) rfl (Nat.le_of_ble_eq_true rfl) (Nat.le_of_ble_eq_true rfl) (k_peek _ hsh g111) ?_
      rintro r rfl
      show am_E _ _ _ 34 [(1, .inl ((hs p) - 48)), (0, .inr (.inr (.inl (some c))))] [.inl ((hs (p + 1)))] (am_mm D K111 J ρ) _
      refine am_e_ss 4 (q := (39, [(2, .inl ((hs (p + 1)) - 48)), (1, .inl ((hs p) - 48)), (0, .inr (.inr (.inl (some c))))], [.inl ((hs p) - 48)], (am_mm D K111 J ρ))) rfl ?_
      refine am_e_if2 rfl ⟨by omega, by omega⟩ (fun (hw3 : ((hs p) - 48) = 0) => ?_) (fun (hw3 : ¬ (((hs p) - 48) = 0)) => ?_)
      · show am_E _ _ _ 52 [(2, .inl ((hs (p + 1)) - 48)), (1, .inl ((hs p) - 48)), (0, .inr (.inr (.inl (some c))))] [] (am_mm D K111 J ρ) _
        refine am_e_ss 1 (q := (53, [(2, .inl ((hs (p + 1)) - 48)), (1, .inl ((hs p) - 48)), (0, .inr (.inr (.inl (some c))))], [.inl ((hs p) - 48)], (am_mm D K111 J ρ))) rfl ?_
        refine am_e_ireturn rfl rfl ?_
        have en : pt_num hs p = (p + 1, some (hs p - 48)) := by unfold pt_num; rw [if_neg (by omega), if_pos (by omega)]
        rw [en]
        exact ⟨_, rfl, g111⟩
      · show am_E _ _ _ 42 [(2, .inl ((hs (p + 1)) - 48)), (1, .inl ((hs p) - 48)), (0, .inr (.inr (.inl (some c))))] [] (am_mm D K111 J ρ) _
        refine am_e_ss 1 (q := (43, [(2, .inl ((hs (p + 1)) - 48)), (1, .inl ((hs p) - 48)), (0, .inr (.inr (.inl (some c))))], [.inl ((hs (p + 1)) - 48)], (am_mm D K111 J ρ))) rfl ?_
        refine am_e_if2 rfl ⟨by omega, by omega⟩ (fun (hw4 : ((hs (p + 1)) - 48) < 0) => ?_) (fun (hw4 : ¬ (((hs (p + 1)) - 48) < 0)) => ?_)
        · show am_E _ _ _ 52 [(2, .inl ((hs (p + 1)) - 48)), (1, .inl ((hs p) - 48)), (0, .inr (.inr (.inl (some c))))] [] (am_mm D K111 J ρ) _
          refine am_e_ss 1 (q := (53, [(2, .inl ((hs (p + 1)) - 48)), (1, .inl ((hs p) - 48)), (0, .inr (.inr (.inl (some c))))], [.inl ((hs p) - 48)], (am_mm D K111 J ρ))) rfl ?_
          refine am_e_ireturn rfl rfl ?_
          have en : pt_num hs p = (p + 1, some (hs p - 48)) := by unfold pt_num; rw [if_neg (by omega), if_pos (by omega)]
          rw [en]
          exact ⟨_, rfl, g111⟩
        · show am_E _ _ _ 46 [(2, .inl ((hs (p + 1)) - 48)), (1, .inl ((hs p) - 48)), (0, .inr (.inr (.inl (some c))))] [] (am_mm D K111 J ρ) _
          refine am_e_ss 2 (q := (49, [(2, .inl ((hs (p + 1)) - 48)), (1, .inl ((hs p) - 48)), (0, .inr (.inr (.inl (some c))))], [.inl 9, .inl ((hs (p + 1)) - 48)], (am_mm D K111 J ρ))) rfl ?_
          refine am_e_icmp2 rfl ⟨by omega, by omega⟩ ⟨by omega, by omega⟩ (fun (hw5 : ((hs (p + 1)) - 48) ≤ 9) => ?_) (fun (hw5 : ¬ (((hs (p + 1)) - 48) ≤ 9)) => ?_)
          · show am_E _ _ _ 54 [(2, .inl ((hs (p + 1)) - 48)), (1, .inl ((hs p) - 48)), (0, .inr (.inr (.inl (some c))))] [] (am_mm D K111 J ρ) _
            refine am_e_ss 2 (q := (56, [(2, .inl ((hs (p + 1)) - 48)), (1, .inl ((hs p) - 48)), (0, .inr (.inr (.inl (some c))))], [.inr (.inr (.inl (some c))), .inr (.inr (.inl (some c)))], (am_mm D K111 J ρ))) rfl ?_
            refine am_e_getfield (c := 1) (m := 10) (f := 1) rfl hsc rfl (by decide) (by decide) ?_
            show am_E _ _ _ 59 [(2, .inl ((hs (p + 1)) - 48)), (1, .inl ((hs p) - 48)), (0, .inr (.inr (.inl (some c))))] [.inl ((K111 c 1)), .inr (.inr (.inl (some c)))] (am_mm D K111 J ρ) _
            refine am_e_ss 2 (q := (61, [(2, .inl ((hs (p + 1)) - 48)), (1, .inl ((hs p) - 48)), (0, .inr (.inr (.inl (some c))))], [.inl ((K111 c 1) + 1), .inr (.inr (.inl (some c)))], (am_mm D K111 J ρ))) rfl ?_
            refine am_e_putfield (c := 1) (m := 10) (f := 1) (M' := (am_mm D (am_up K111 c 1 ((K111 c 1) + 1)) J ρ)) rfl hsc rfl (by decide) (by decide) rfl ?_
            show am_E _ _ _ 64 [(2, .inl ((hs (p + 1)) - 48)), (1, .inl ((hs p) - 48)), (0, .inr (.inr (.inl (some c))))] [] (am_mm D (am_up K111 c 1 ((K111 c 1) + 1)) J ρ) _
            have u112 : K111 c 1 = ((p + 1 : Nat) : Int) := g111.2.1.1
            rw [u112]
            have g112 := k_cs_1 g111 (k_cs_lt g111 (show 0 ≤ hs (p + 1) by omega))
            have gb112 := tb (p + 1 + 1)
            generalize am_up K111 c 1 (((p + 1 : Nat) : Int) + 1) = K112 at g112 ⊢
            show am_E _ _ _ 64 [(2, .inl ((hs (p + 1)) - 48)), (1, .inl ((hs p) - 48)), (0, .inr (.inr (.inl (some c))))] [] (am_mm D K112 J ρ) _
            refine am_e_ss 5 (q := (70, [(2, .inl ((hs (p + 1)) - 48)), (1, .inl ((hs p) - 48)), (0, .inr (.inr (.inl (some c))))], [.inl ((((hs p) - 48) * 10) + ((hs (p + 1)) - 48))], (am_mm D K112 J ρ))) rfl ?_
            refine am_e_ireturn rfl rfl ?_
            have en : pt_num hs p = (p + 1 + 1, some ((hs p - 48) * 10 + (hs (p + 1) - 48))) := by unfold pt_num; rw [if_neg (by omega), if_neg (by omega)]
            rw [en]
            exact ⟨_, rfl, g112⟩
          · show am_E _ _ _ 52 [(2, .inl ((hs (p + 1)) - 48)), (1, .inl ((hs p) - 48)), (0, .inr (.inr (.inl (some c))))] [] (am_mm D K111 J ρ) _
            refine am_e_ss 1 (q := (53, [(2, .inl ((hs (p + 1)) - 48)), (1, .inl ((hs p) - 48)), (0, .inr (.inr (.inl (some c))))], [.inl ((hs p) - 48)], (am_mm D K111 J ρ))) rfl ?_
            refine am_e_ireturn rfl rfl ?_
            have en : pt_num hs p = (p + 1, some (hs p - 48)) := by unfold pt_num; rw [if_neg (by omega), if_pos (by omega)]
            rw [en]
            exact ⟨_, rfl, g111⟩
    · show am_E _ _ _ 18 [(1, .inl ((hs p) - 48)), (0, .inr (.inr (.inl (some c))))] [] (am_mm D I J ρ) _
      refine am_e_ss 1 (q := (19, [(1, .inl ((hs p) - 48)), (0, .inr (.inr (.inl (some c))))], [.inl (-1)], (am_mm D I J ρ))) rfl ?_
      refine am_e_ireturn rfl rfl ?_
      have en : pt_num hs p = (p, none) := if_pos (by omega)
      rw [en]
      exact ⟨_, rfl, hcs⟩
theorem k_put {X : Nat × (Nat → Int)} {D : List (Nat × Nat)} {I J : Nat → Nat → Int} {ρ : Nat → Nat → Option Nat} (d : Nat) {I0 : Nat → Nat → Int} {hs : Nat → Int} {z c p : Nat} {L : List Int} (hsh : k_sh D ρ c) (hcs : k_cs I0 I hs z c (p, some L)) {s x : Int} (hl : L.length < p) (hx : x = ps_tr s) : am_E X d 17 0 [(0, .inr (.inr (.inl (some c)))), (1, .inl x)] [] (am_mm D I J ρ) (fun r => ∃ K, r = (none, am_mm D K J ρ) ∧ k_cs I0 K hs z c ((p, some (L ++ [s])))) := by
  have hclk0 := hsh.1
  have hr8 := hsh.2
  have hclk := hclk0
  obtain ⟨⟨hsc, hs1, hs2, hs3, hs4⟩, hr1, hr2, hr3, hr4⟩ := hclk
  have p1 : I c 1 = (p : Int) := hcs.2.1.1
  have s9 : I c 9 = (z : Int) := hcs.2.1.2.1
  have tz := hcs.2.1.2.2.1
  have tpz : p ≤ z := hcs.2.1.2.2.2.1
  have th := hcs.2.1.2.2.2.2.1
  have te := hcs.2.1.2.2.2.2.2.1
  have tb := hcs.2.1.2.2.2.2.2.2
  have tbp := tb p
  have hc18 := hcs.2.2.1
  have n3 : I c 3 = (L.length : Int) := hcs.2.2.2.1
  have hll : L.length ≤ p := hcs.2.2.2.2.2
  refine am_e_ss 1 (q := (1, [(0, .inr (.inr (.inl (some c)))), (1, .inl x)], [.inr (.inr (.inl (some c)))], (am_mm D I J ρ))) rfl ?_
  refine am_e_getfield (c := 1) (m := 10) (f := 3) rfl hsc rfl (by decide) (by decide) ?_
  show am_E _ _ _ 4 [(0, .inr (.inr (.inl (some c)))), (1, .inl x)] [.inl ((I c 3))] (am_mm D I J ρ) _
  refine am_e_ss 1 (q := (5, [(0, .inr (.inr (.inl (some c)))), (1, .inl x)], [.inr (.inr (.inl (some c))), .inl ((I c 3))], (am_mm D I J ρ))) rfl ?_
  refine am_e_getfield (c := 1) (m := 10) (f := 7) rfl hsc rfl (by decide) (by decide) ?_
  rw [show am_gf (am_mm D I J ρ) 1 c 7 = .inr (.inr (.inl (some (c + 4)))) from (congrArg (fun x => (.inr (.inr (.inl x)) : am_V)) hr4)]
  show am_E _ _ _ 8 [(0, .inr (.inr (.inl (some c)))), (1, .inl x)] [.inr (.inr (.inl (some (c + 4)))), .inl ((I c 3))] (am_mm D I J ρ) _
  refine am_e_arraylength (c := 20) (m := 100) rfl hs4 (by decide) ?_
  show am_E _ _ _ 9 [(0, .inr (.inr (.inl (some c)))), (1, .inl x)] [.inl 100, .inl ((I c 3))] (am_mm D I J ρ) _
  refine am_e_icmp2 rfl ⟨by omega, by omega⟩ ⟨by omega, by omega⟩ (fun (hw1 : 100 ≤ (I c 3)) => ?_) (fun (hw1 : ¬ (100 ≤ (I c 3))) => ?_)
  · show am_E _ _ _ 32 [(0, .inr (.inr (.inl (some c)))), (1, .inl x)] [] (am_mm D I J ρ) _
    refine am_e_return rfl rfl ?_
    exfalso
    omega
  · show am_E _ _ _ 12 [(0, .inr (.inr (.inl (some c)))), (1, .inl x)] [] (am_mm D I J ρ) _
    refine am_e_ss 1 (q := (13, [(0, .inr (.inr (.inl (some c)))), (1, .inl x)], [.inr (.inr (.inl (some c)))], (am_mm D I J ρ))) rfl ?_
    refine am_e_getfield (c := 1) (m := 10) (f := 7) rfl hsc rfl (by decide) (by decide) ?_
    rw [show am_gf (am_mm D I J ρ) 1 c 7 = .inr (.inr (.inl (some (c + 4)))) from (congrArg (fun x => (.inr (.inr (.inl x)) : am_V)) hr4)]
    show am_E _ _ _ 16 [(0, .inr (.inr (.inl (some c)))), (1, .inl x)] [.inr (.inr (.inl (some (c + 4))))] (am_mm D I J ρ) _
    refine am_e_ss 1 (q := (17, [(0, .inr (.inr (.inl (some c)))), (1, .inl x)], [.inr (.inr (.inl (some c))), .inr (.inr (.inl (some (c + 4))))], (am_mm D I J ρ))) rfl ?_
    refine am_e_getfield (c := 1) (m := 10) (f := 3) rfl hsc rfl (by decide) (by decide) ?_
    show am_E _ _ _ 20 [(0, .inr (.inr (.inl (some c)))), (1, .inl x)] [.inl ((I c 3)), .inr (.inr (.inl (some (c + 4))))] (am_mm D I J ρ) _
    refine am_e_ss 1 (q := (21, [(0, .inr (.inr (.inl (some c)))), (1, .inl x)], [.inl x, .inl ((I c 3)), .inr (.inr (.inl (some (c + 4))))], (am_mm D I J ρ))) rfl ?_
    refine am_e_iastore (m := 100) rfl hs4 (by omega) (by omega) (by omega) ?_
    show am_E _ _ _ 22 [(0, .inr (.inr (.inl (some c)))), (1, .inl x)] [] (am_mm D (am_up I (c + 4) ((I c 3)).toNat x) J ρ) _
    refine am_e_ss 2 (q := (24, [(0, .inr (.inr (.inl (some c)))), (1, .inl x)], [.inr (.inr (.inl (some c))), .inr (.inr (.inl (some c)))], (am_mm D (am_up I (c + 4) ((I c 3)).toNat x) J ρ))) rfl ?_
    refine am_e_getfield (c := 1) (m := 10) (f := 3) rfl hsc rfl (by decide) (by decide) ?_
    show am_E _ _ _ 27 [(0, .inr (.inr (.inl (some c)))), (1, .inl x)] [.inl (((am_up I (c + 4) ((I c 3)).toNat x) c 3)), .inr (.inr (.inl (some c)))] (am_mm D (am_up I (c + 4) ((I c 3)).toNat x) J ρ) _
    refine am_e_ss 2 (q := (29, [(0, .inr (.inr (.inl (some c)))), (1, .inl x)], [.inl (((am_up I (c + 4) ((I c 3)).toNat x) c 3) + 1), .inr (.inr (.inl (some c)))], (am_mm D (am_up I (c + 4) ((I c 3)).toNat x) J ρ))) rfl ?_
    refine am_e_putfield (c := 1) (m := 10) (f := 3) (M' := (am_mm D (am_up (am_up I (c + 4) ((I c 3)).toNat x) c 3 (((am_up I (c + 4) ((I c 3)).toNat x) c 3) + 1)) J ρ)) rfl hsc rfl (by decide) (by decide) rfl ?_
    show am_E _ _ _ 32 [(0, .inr (.inr (.inl (some c)))), (1, .inl x)] [] (am_mm D (am_up (am_up I (c + 4) ((I c 3)).toNat x) c 3 (((am_up I (c + 4) ((I c 3)).toNat x) c 3) + 1)) J ρ) _
    refine am_e_return rfl rfl ?_
    rw [show (I c 3).toNat = L.length by omega]
    rw [show am_up I (c + 4) L.length x c 3 = (L.length : Int) from (am_up_ne2 (by omega)).trans n3]
    exact ⟨_, rfl, k_cs_e hcs hl hx⟩
