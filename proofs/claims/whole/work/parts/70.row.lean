/-! THE CLASS: the best row -/
theorem c_fbr_in {X : Nat × (Nat → Int)} {D : List (Nat × Nat)} {I J : Nat → Nat → Int} {ρ : Nat → Nat → Option Nat} (d : Nat) {S : Nat → Int} {B : Int} (hok : r_ok S B) (hwf : sp_wfS S) (hh : c_hall D I ρ 0 S) (h0 : S 0 ≤ 190) (hB : B + 480300 ≤ 300000000) {q : List Nat} (h3 : I 71 3 = (q.length : Int)) (h5 : q.length ≤ 5) (hq6 : ∀ x ∈ q, x < (S 20).toNat) (hrow : am_rowl (I 97) 0 q) {P : am_R → Prop} {bh bg : Int} {i rr : Nat} (hi : i ≤ q.length) (hro : c_roll I 69 70 (sp_gos S (q.take i))) (hc : ∀ K, (∀ c i, uP69 c i = false → K c i = I c i) → c_roll K 69 70 (sp_gos S q) → am_E X (d + 4) 113 84 [(4, .inl (rr : Int)), (2, .inl bg), (1, .inl bh), (0, .inr (.inr (.inl (some 0))))] [] (am_mm D K J ρ) P) : am_E X (d + 4) 113 44 [(5, .inl (i : Int)), (4, .inl (rr : Int)), (2, .inl bg), (1, .inl bh), (0, .inr (.inr (.inl (some 0))))] [] (am_mm D I J ρ) (P) := by
  have h19 := r_ok_19 hok
  have htk : ∀ x ∈ q.take i, x < 6 := fun x hx => by have := hq6 x (List.mem_of_mem_take hx); omega
  have hg3 := sp_gos_ok hok hwf h0 (q.take i) (by rw [List.length_take]; omega) htk
  have hlt : (q.take i).length = i := by rw [List.length_take]; omega
  rw [hlt] at hg3
  obtain ⟨T, hT⟩ : ∃ T, T = sp_gos S (q.take i) := ⟨_, rfl⟩
  rw [← hT] at hg3 hro
  obtain ⟨hok2, hal, hT0⟩ := hg3
  have hwf2 := sp_wfS_cg hal (r_ok_24 hok) hwf
  have t20 := hal 20 (by omega)
  refine am_e_ss 4 (q := (53, [(5, .inl (i : Int)), (4, .inl (rr : Int)), (2, .inl bg), (1, .inl bh), (0, .inr (.inr (.inl (some 0))))], [.inl ((I 71 3)), .inl (i : Int)], (am_mm D I J ρ))) rfl ?_
  refine am_e_icmp2 rfl ⟨by omega, by omega⟩ ⟨by omega, by omega⟩ (fun (hw1 : (I 71 3) ≤ (i : Int)) => ?_) (fun (hw1 : ¬ ((I 71 3) ≤ (i : Int))) => ?_)
  · show am_E _ _ _ 84 [(5, .inl (i : Int)), (4, .inl (rr : Int)), (2, .inl bg), (1, .inl bh), (0, .inr (.inr (.inl (some 0))))] [] (am_mm D I J ρ) _
    have ei : q.take i = q := List.take_of_length_le (by omega)
    rw [hT, ei] at hro
    exact am_less (lv := [(4, .inl (rr : Int)), (2, .inl bg), (1, .inl bh), (0, .inr (.inr (.inl (some 0))))]) rfl (List.forall_mem_cons.mpr ⟨rfl, List.forall_mem_cons.mpr ⟨rfl, List.forall_mem_cons.mpr ⟨rfl, List.forall_mem_cons.mpr ⟨rfl, List.forall_mem_nil _⟩⟩⟩⟩) (hc I (fun c i _ => rfl) hro)
  · show am_E _ _ _ 56 [(5, .inl (i : Int)), (4, .inl (rr : Int)), (2, .inl bg), (1, .inl bh), (0, .inr (.inr (.inl (some 0))))] [] (am_mm D I J ρ) _
    have hil : i < q.length := by omega
    have hxi := hrow i _ (List.getElem?_eq_getElem hil)
    rw [Nat.zero_add] at hxi
    have hx20 := hq6 _ (List.getElem_mem hil)
    refine am_e_ss 8 (q := (73, [(5, .inl (i : Int)), (4, .inl (rr : Int)), (2, .inl bg), (1, .inl bh), (0, .inr (.inr (.inl (some 0))))], [.inl (i : Int), .inr (.inr (.inl (some 97))), .inr (.inr (.inl (some 1))), .inr (.inr (.inl (some 69)))], (am_mm D I J ρ))) rfl ?_
    refine am_e_iaload (m := 6) rfl rfl (by omega) (by omega) (by omega) ?_
    show am_E _ _ _ 74 [(5, .inl (i : Int)), (4, .inl (rr : Int)), (2, .inl bg), (1, .inl bh), (0, .inr (.inr (.inl (some 0))))] [.inl ((I 97 i)), .inr (.inr (.inl (some 1))), .inr (.inr (.inl (some 69)))] (am_mm D I J ρ) _
    refine am_e_virtual (Q := fun r => ∃ Q238, r = (some (.inl ((sp_cmc T (I 97 i) (T 19).toNat))), (am_mm D (am_wp uP69 I Q238) J ρ)) ∧ c_roll Q238 69 70 (sp_go T (I 97 i))) rfl rfl (Nat.le_of_ble_eq_true rfl) rfl rfl (Nat.le_of_ble_eq_true rfl) (Nat.le_of_ble_eq_true rfl) (c_monthI_69 _ (b := (I 97 i)) hok2 hwf2 (by omega) (by omega) ⟨by omega, by omega⟩ (c_mh_69 hok hh hal) hro) ?_
    rintro r ⟨Q238, rfl, hrg⟩
    show am_E _ _ _ 77 [(5, .inl (i : Int)), (4, .inl (rr : Int)), (2, .inl bg), (1, .inl bh), (0, .inr (.inr (.inl (some 0))))] [.inl ((sp_cmc T (I 97 i) (T 19).toNat))] (am_mm D (am_wp uP69 I Q238) J ρ) _
    refine am_e_ss 3 (q := (44, [(5, .inl ((i : Int) + 1)), (4, .inl (rr : Int)), (2, .inl bg), (1, .inl bh), (0, .inr (.inr (.inl (some 0))))], [], (am_mm D (am_wp uP69 I Q238) J ρ))) rfl ?_
    have hhK : c_hall D (am_wp uP69 I Q238) ρ 0 S := c_hall_cg hok (Or.inl rfl) hh (fun c i h => ((am_k_wp (uP69_uZ) (am_k_id))) c i (uZ_fx h)) (fun _ _ _ => rfl)
    have hro2 : c_roll (am_wp uP69 I Q238) 69 70 (sp_gos S (q.take (i + 1))) := by
      rw [List.take_succ, List.getElem?_eq_getElem hil, Option.toList_some, sp_gos_s, ← hT, ← hxi]
      exact hrg
    exact am_less (lv := [(5, .inl ((i + 1) : Int)), (4, .inl (rr : Int)), (2, .inl bg), (1, .inl bh), (0, .inr (.inr (.inl (some 0))))]) rfl (List.forall_mem_cons.mpr ⟨rfl, List.forall_mem_cons.mpr ⟨rfl, List.forall_mem_cons.mpr ⟨rfl, List.forall_mem_cons.mpr ⟨rfl, List.forall_mem_cons.mpr ⟨rfl, List.forall_mem_nil _⟩⟩⟩⟩⟩) (c_fbr_in (I := am_wp uP69 I Q238) d (i := i + 1) hok hwf hhK h0 hB h3 h5 hq6 hrow (by omega) hro2 (fun K hk hr => hc K (fun c j h => (hk c j h).trans (am_wp_off h)) hr))
termination_by (q.length - i)
decreasing_by all_goals omega
theorem c_fbr_l {X : Nat × (Nat → Int)} {D : List (Nat × Nat)} {I J : Nat → Nat → Int} {ρ : Nat → Nat → Option Nat} (d : Nat) {S : Nat → Int} {B : Int} (hok : r_ok S B) (hwf : sp_wfS S) (hh : c_hall D I ρ 0 S) (h0 : S 0 ≤ 190) (hB : B + 480300 ≤ 300000000) (h3 : I 71 3 = sp_ops S) (h5 : sp_ops S ≤ 5) {q : List Nat} {rs : List (List Nat)} {L : List Nat} {res : Int × Int × List Nat} {bh bg more : Int} {rr : Nat} (hbh : -1 ≤ bh ∧ bh ≤ 6) (hbg : -2147483648 ≤ bg ∧ bg < 2147483648) (hL : bh = -1 ∨ (am_rowl (I 101) 0 L ∧ L.length ≤ 5)) (hst : (more = 1 ∧ res = (q :: rs).foldl (sp_r1 S) (bh, bg, L) ∧ nx_ch (q :: rs) = true ∧ am_rowl (I 97) 0 q ∧ rr + rs.length < 120 ∧ ∀ p ∈ q :: rs, ((p.length : Int) = sp_ops S ∧ (∀ x ∈ p, x < (S 20).toNat) ∧ ¬ p = [])) ∨ (more = 0 ∧ res = (bh, bg, L) ∧ rr ≤ 120)) : am_E X (d + 4) 113 16 [(4, .inl (rr : Int)), (3, .inl more), (2, .inl bg), (1, .inl bh), (0, .inr (.inr (.inl (some 0))))] [] (am_mm D I J ρ) (fun z => ∃ Q, z = (none, am_mm D (am_wp uZ I Q) J ρ) ∧ (res.1 = -1 ∨ am_rowl (Q 101) 0 res.2.2)) := by
  have hh0 := hh
  obtain ⟨⟨h12, h14, h16, h18, h110⟩, ⟨hr0, hhr, hhd, hgl⟩, ⟨htp, hhn⟩, hbk, hlo, hmem, c, hρc, ⟨hsc0, hcc, hc0, hcs⟩⟩ := hh
  have hsc : (am_S ++ D)[c]? = some (1, 10) := hsc0.1.1
  have h12 : I 1 2 = S 19 := h12
  have h14 : I 1 4 = S 20 := h14
  have h16 : I 1 6 = S 21 := h16
  have h18 : I 1 8 = S 23 := h18
  have h110 : I 1 10 = S 22 := h110
  have hr0 : I 2 0 = S 0 := hr0
  have hhr : I 2 1 = am_bits (sp_hp S) 6 := hhr
  have hhd : I 2 2 = am_bits (sp_dp S) 6 := hhd
  have hgl : ∀ m, m < (S 19).toNat → I 3 m = S (1 + m) := hgl
  have htp : ∀ i, i < (S 23).toNat → I 17 i = S (68 + i) := htp
  have hhn : ∀ i, i < (S 22).toNat → I 18 i = S (62 + i) := hhn
  have hbk : ∀ b, b < (S 20).toNat → I (6 + b) 0 = S (38 + b) ∧ I (6 + b) 1 = S (44 + b) ∧ I (6 + b) 2 = S (50 + b) ∧ I (6 + b) 3 = S (56 + b) := hbk
  have hlo : ∀ m b : Nat, m < (S 19).toNat → b < (S 20).toNat → I (20 + m) b = sp_like S m b ∧ I (27 + m) b = sp_odds S m b := hlo
  have hmem : c_mems D I ρ 4 S := hmem
  have hρc : ρ 1 5 = some c := hρc
  have hh := hh0
  have h19 := r_ok_19 hok
  have hokx := hok
  obtain ⟨o0, oG, oH, oD, o19, o20, o21, o22, o23, o24, oK, oV, oP, oM, oS, oY, oHd, oT, oC, oN⟩ := hok
  have hok := hokx
  have ob := sp_ops_b hok
  have h120 : rr ≤ 120 := by rcases hst with h | h <;> omega
  have hmo : more = 0 ∨ more = 1 := by rcases hst with h | h <;> omega
  refine am_e_ss 2 (q := (20, [(4, .inl (rr : Int)), (3, .inl more), (2, .inl bg), (1, .inl bh), (0, .inr (.inr (.inl (some 0))))], [.inl 120, .inl (rr : Int)], (am_mm D I J ρ))) rfl ?_
  refine am_e_icmp2 rfl ⟨by omega, by omega⟩ ⟨by omega, by omega⟩ (fun (hw1 : 120 ≤ (rr : Int)) => ?_) (fun (hw1 : ¬ (120 ≤ (rr : Int))) => ?_)
  · show am_E _ _ _ 144 [(4, .inl (rr : Int)), (3, .inl more), (2, .inl bg), (1, .inl bh), (0, .inr (.inr (.inl (some 0))))] [] (am_mm D I J ρ) _
    refine am_e_return rfl rfl ?_
    have hr : res = (bh, bg, L) := by
      rcases hst with ⟨g1, g2, g3, g4, g5, g6⟩ | h
      · exfalso; omega
      · exact h.2.1
    rw [hr]
    refine ⟨I, am_r_wp uZ am_k_id, ?_⟩
    rcases hL with h | h
    · exact Or.inl h
    · exact Or.inr h.1
  · show am_E _ _ _ 23 [(4, .inl (rr : Int)), (3, .inl more), (2, .inl bg), (1, .inl bh), (0, .inr (.inr (.inl (some 0))))] [] (am_mm D I J ρ) _
    refine am_e_ss 1 (q := (24, [(4, .inl (rr : Int)), (3, .inl more), (2, .inl bg), (1, .inl bh), (0, .inr (.inr (.inl (some 0))))], [.inl more], (am_mm D I J ρ))) rfl ?_
    refine am_e_if2 rfl ⟨by omega, by omega⟩ (fun (hw2 : more = 0) => ?_) (fun (hw2 : ¬ (more = 0)) => ?_)
    · show am_E _ _ _ 144 [(4, .inl (rr : Int)), (3, .inl more), (2, .inl bg), (1, .inl bh), (0, .inr (.inr (.inl (some 0))))] [] (am_mm D I J ρ) _
      refine am_e_return rfl rfl ?_
      have hr : res = (bh, bg, L) := by
        rcases hst with ⟨g1, g2, g3, g4, g5, g6⟩ | h
        · exfalso; omega
        · exact h.2.1
      rw [hr]
      refine ⟨I, am_r_wp uZ am_k_id, ?_⟩
      rcases hL with h | h
      · exact Or.inl h
      · exact Or.inr h.1
    · show am_E _ _ _ 27 [(4, .inl (rr : Int)), (3, .inl more), (2, .inl bg), (1, .inl bh), (0, .inr (.inr (.inl (some 0))))] [] (am_mm D I J ρ) _
      obtain ⟨hm1, hres, hch, hrow, hrl, hvs⟩ : more = 1 ∧ res = (q :: rs).foldl (sp_r1 S) (bh, bg, L) ∧ nx_ch (q :: rs) = true ∧ am_rowl (I 97) 0 q ∧ rr + rs.length < 120 ∧ ∀ p ∈ q :: rs, ((p.length : Int) = sp_ops S ∧ (∀ x ∈ p, x < (S 20).toNat) ∧ ¬ p = []) := by
        rcases hst with h | h
        · exact h
        · exfalso; omega
      obtain ⟨hql, hqx, hqe⟩ := hvs q List.mem_cons_self
      have hq6b : ∀ x ∈ q, x < 6 := fun x hx => by have := hqx x hx; omega
      refine am_e_ss 5 (q := (38, [(4, .inl (rr : Int)), (3, .inl more), (2, .inl bg), (1, .inl bh), (0, .inr (.inr (.inl (some 0))))], [.inr (.inr (.inl (some 2))), .inr (.inr (.inl (some 69)))], (am_mm D I J ρ))) rfl ?_
      refine am_e_virtual (Q := fun r => ∃ Q239, r = (none, (am_mm D (am_wp uK69 I Q239) J ρ)) ∧ Q239 69 0 = I 2 0 ∧ Q239 69 1 = I 2 1 ∧ Q239 69 2 = I 2 2 ∧ ∀ i, i < 6 → Q239 70 i = I 3 i) rfl rfl (Nat.le_of_ble_eq_true rfl) rfl rfl (Nat.le_of_ble_eq_true rfl) (Nat.le_of_ble_eq_true rfl) (c_copyRoll_69 _) ?_
      rintro r ⟨Q239, rfl, ⟨k1, k2, k3, k4⟩⟩
      show am_E _ _ _ 41 [(4, .inl (rr : Int)), (3, .inl more), (2, .inl bg), (1, .inl bh), (0, .inr (.inr (.inl (some 0))))] [] (am_mm D (am_wp uK69 I Q239) J ρ) _
      refine am_e_ss 2 (q := (44, [(5, .inl 0), (4, .inl (rr : Int)), (3, .inl more), (2, .inl bg), (1, .inl bh), (0, .inr (.inr (.inl (some 0))))], [], (am_mm D (am_wp uK69 I Q239) J ρ))) rfl ?_
      have hh2 : c_hall D (am_wp uK69 I Q239) ρ 0 S := c_hall_cg hok (Or.inl rfl) hh (fun c i h => ((am_k_wp (uK69_uZ) (am_k_id))) c i (uZ_fx h)) (fun _ _ _ => rfl)
      have hro0 : c_roll (am_wp uK69 I Q239) 69 70 S := ⟨k1.trans hr0, k2.trans hhr, k3.trans hhd, fun m hm => (k4 m (by omega)).trans (hgl m hm)⟩
      refine am_less (lv := [(5, .inl (0 : Int)), (4, .inl (rr : Int)), (2, .inl bg), (1, .inl bh), (0, .inr (.inr (.inl (some 0))))]) rfl (List.forall_mem_cons.mpr ⟨rfl, List.forall_mem_cons.mpr ⟨rfl, List.forall_mem_cons.mpr ⟨rfl, List.forall_mem_cons.mpr ⟨rfl, List.forall_mem_cons.mpr ⟨rfl, List.forall_mem_nil _⟩⟩⟩⟩⟩) (c_fbr_in (I := am_wp uK69 I Q239) d (q := q) (i := 0) (rr := rr) (bh := bh) (bg := bg) hok hwf hh2 h0 hB (h3.trans hql.symm) (by omega) hqx hrow (by omega) hro0 ?_)
      intro K hk hrq
      have hkz : ∀ c i, uZ c i = false → K c i = I c i := fun c i h => (hk c i (by cases e : uP69 c i with | false => rfl | true => exact absurd (uP69_uZ c i e) (by rw [h]; decide))).trans (am_wp_off (by cases e : uK69 c i with | false => rfl | true => exact absurd (uK69_uZ c i e) (by rw [h]; decide)))
      have h3K : K 71 3 = (q.length : Int) := (hk 71 3 rfl).trans (h3.trans hql.symm)
      have hrowK : am_rowl (K 97) 0 q := am_rowl_cg hrow (fun i _ => hk 97 _ rfl)
      have hLK : bh = -1 ∨ (am_rowl (K 101) 0 L ∧ L.length ≤ 5) := by
        rcases hL with h | h
        · exact Or.inl h
        · exact Or.inr ⟨am_rowl_cg h.1 (fun i _ => hk 101 _ rfl), h.2⟩
      have hhK : c_hall D K ρ 0 S := c_hall_cg hok (Or.inl rfl) hh (fun c i h => hkz c i (uZ_fx h)) (fun _ _ _ => rfl)
      have hgq := sp_gos_ok hok hwf h0 q (by omega) hq6b
      have hokq : r_ok (sp_gos S q) (B + 480300) := r_ok_mono hgq.1 (by omega)
      have hnb := sp_hn_b hokq
      have gbb := sp_G_b hokq (r_ok_B hokq)
      have bv01 := sp_btv_01 (sp_hn (sp_gos S q)) (sp_G (sp_gos S q)) bh bg
      have nn01 : (if nx q = none then (0 : Int) else 1) = 0 ∨ (if nx q = none then (0 : Int) else 1) = 1 := by split <;> simp
      refine am_e_ss 4 (q := (90, [(4, .inl (rr : Int)), (2, .inl bg), (1, .inl bh), (0, .inr (.inr (.inl (some 0))))], [.inl bg, .inl bh, .inr (.inr (.inl (some 69)))], (am_mm D K J ρ))) rfl ?_
      refine am_e_virtual (Q := fun r => r = (some (.inl ((sp_btv (sp_hn (sp_gos S q)) (sp_G (sp_gos S q)) bh bg))), (am_mm D K J ρ))) rfl rfl (Nat.le_of_ble_eq_true rfl) rfl rfl (Nat.le_of_ble_eq_true rfl) (Nat.le_of_ble_eq_true rfl) (c_isBetter _ (S := sp_gos S q) (B := B + 480300) hokq hB hrq ⟨by omega, by omega⟩ ⟨by omega, by omega⟩) ?_
      rintro r rfl
      show am_E _ _ _ 93 [(4, .inl (rr : Int)), (2, .inl bg), (1, .inl bh), (0, .inr (.inr (.inl (some 0))))] [.inl ((sp_btv (sp_hn (sp_gos S q)) (sp_G (sp_gos S q)) bh bg))] (am_mm D K J ρ) _
      refine am_e_if2 rfl ⟨by omega, by omega⟩ (fun (hw3 : (sp_btv (sp_hn (sp_gos S q)) (sp_G (sp_gos S q)) bh bg) = 0) => ?_) (fun (hw3 : ¬ ((sp_btv (sp_hn (sp_gos S q)) (sp_G (sp_gos S q)) bh bg) = 0)) => ?_)
      · show am_E _ _ _ 130 [(4, .inl (rr : Int)), (2, .inl bg), (1, .inl bh), (0, .inr (.inr (.inl (some 0))))] [] (am_mm D K J ρ) _
        refine am_e_ss 2 (q := (134, [(4, .inl (rr : Int)), (2, .inl bg), (1, .inl bh), (0, .inr (.inr (.inl (some 0))))], [.inr (.inr (.inl (some 71)))], (am_mm D K J ρ))) rfl ?_
        refine am_e_virtual (Q := fun r => ∃ Q240, r = (some (.inl ((if nx q = none then 0 else 1))), (am_mm D (am_wp uN K Q240) J ρ)) ∧ ∀ q2, nx q = some q2 → am_rowl (Q240 97) 0 q2) rfl rfl (Nat.le_of_ble_eq_true rfl) rfl rfl (Nat.le_of_ble_eq_true rfl) (Nat.le_of_ble_eq_true rfl) (c_next _ (q := q) h3K (by omega) hq6b hrowK hqe) ?_
        rintro r ⟨Q240, rfl, hnq⟩
        show am_E _ _ _ 137 [(4, .inl (rr : Int)), (2, .inl bg), (1, .inl bh), (0, .inr (.inr (.inl (some 0))))] [.inl ((if nx q = none then 0 else 1))] (am_mm D (am_wp uN K Q240) J ρ) _
        refine am_e_ss 3 (q := (16, [(4, .inl ((rr : Int) + 1)), (3, .inl ((if nx q = none then 0 else 1))), (2, .inl bg), (1, .inl bh), (0, .inr (.inr (.inl (some 0))))], [], (am_mm D (am_wp uN K Q240) J ρ))) rfl ?_
        have eb : sp_btv (sp_hn (sp_gos S q)) (sp_G (sp_gos S q)) bh bg = 0 := by omega
        have er1 : sp_r1 S (bh, bg, L) q = (bh, bg, L) := if_neg (by show ¬ sp_btv _ _ bh bg = 1; rw [eb]; omega)
        rw [List.foldl_cons, er1] at hres
        have hoff : ∀ c i, uZ c i = false → (am_wp uN K Q240) c i = I c i := fun c i h => (((am_k_wp (uN_uZ) (am_k_id))) c i h).trans (hkz c i h)
        have hhE : c_hall D (am_wp uN K Q240) ρ 0 S := c_hall_cg hok (Or.inl rfl) hh (fun c i h => hoff c i (uZ_fx h)) (fun _ _ _ => rfl)
        have h3E : (am_wp uN K Q240) 71 3 = sp_ops S := h3K.trans hql
        have hLE : bh = -1 ∨ (am_rowl ((am_wp uN K Q240) 101) 0 L ∧ L.length ≤ 5) := hLK
        cases rs with
        | nil =>
          have hst2 : ((if nx q = none then 0 else 1 : Int) = 1 ∧ res = (([] : List Nat) :: ([] : List (List Nat))).foldl (sp_r1 S) (bh, bg, L) ∧ nx_ch (([] : List Nat) :: ([] : List (List Nat))) = true ∧ am_rowl ((am_wp uN K Q240) 97) 0 ([] : List Nat) ∧ (rr + 1) + ([] : List (List Nat)).length < 120 ∧ ∀ p ∈ ([] : List Nat) :: ([] : List (List Nat)), ((p.length : Int) = sp_ops S ∧ (∀ x ∈ p, x < (S 20).toNat) ∧ ¬ p = [])) ∨ ((if nx q = none then 0 else 1 : Int) = 0 ∧ res = (bh, bg, L) ∧ (rr + 1) ≤ 120) := Or.inr ⟨if_pos (nx_ch_1 hch), hres, by simp at hrl; omega⟩
          refine (am_less (lv := [(4, .inl ((rr + 1) : Int)), (3, .inl ((if nx q = none then 0 else 1))), (2, .inl bg), (1, .inl bh), (0, .inr (.inr (.inl (some 0))))]) rfl (List.forall_mem_cons.mpr ⟨rfl, List.forall_mem_cons.mpr ⟨rfl, List.forall_mem_cons.mpr ⟨rfl, List.forall_mem_cons.mpr ⟨rfl, List.forall_mem_cons.mpr ⟨rfl, List.forall_mem_nil _⟩⟩⟩⟩⟩) (c_fbr_l (I := am_wp uN K Q240) d (L := L) (res := res) (q := []) (rs := []) (rr := rr + 1) hok hwf hhE h0 hB h3E h5 ⟨by omega, by omega⟩ ⟨by omega, by omega⟩ hLE hst2)).imp ?_
          rintro z ⟨Q9, rfl, h9⟩
          exact ⟨Q9, am_r_wk uZ hoff, h9⟩
        | cons q2 rs2 =>
          obtain ⟨hn2, hch2⟩ := nx_ch_c hch
          rw [List.length_cons] at hrl
          have hst2 : ((if nx q = none then 0 else 1 : Int) = 1 ∧ res = (q2 :: rs2).foldl (sp_r1 S) (bh, bg, L) ∧ nx_ch (q2 :: rs2) = true ∧ am_rowl ((am_wp uN K Q240) 97) 0 q2 ∧ (rr + 1) + rs2.length < 120 ∧ ∀ p ∈ q2 :: rs2, ((p.length : Int) = sp_ops S ∧ (∀ x ∈ p, x < (S 20).toNat) ∧ ¬ p = [])) ∨ ((if nx q = none then 0 else 1 : Int) = 0 ∧ res = (bh, bg, L) ∧ (rr + 1) ≤ 120) := Or.inl ⟨if_neg (by rw [hn2]; simp), hres, hch2, hnq q2 hn2, by omega, fun p hp => hvs p (List.mem_cons_of_mem _ hp)⟩
          refine (am_less (lv := [(4, .inl ((rr + 1) : Int)), (3, .inl ((if nx q = none then 0 else 1))), (2, .inl bg), (1, .inl bh), (0, .inr (.inr (.inl (some 0))))]) rfl (List.forall_mem_cons.mpr ⟨rfl, List.forall_mem_cons.mpr ⟨rfl, List.forall_mem_cons.mpr ⟨rfl, List.forall_mem_cons.mpr ⟨rfl, List.forall_mem_cons.mpr ⟨rfl, List.forall_mem_nil _⟩⟩⟩⟩⟩) (c_fbr_l (I := am_wp uN K Q240) d (L := L) (res := res) (q := q2) (rs := rs2) (rr := rr + 1) hok hwf hhE h0 hB h3E h5 ⟨by omega, by omega⟩ ⟨by omega, by omega⟩ hLE hst2)).imp ?_
          rintro z ⟨Q9, rfl, h9⟩
          exact ⟨Q9, am_r_wk uZ hoff, h9⟩
      · show am_E _ _ _ 96 [(4, .inl (rr : Int)), (2, .inl bg), (1, .inl bh), (0, .inr (.inr (.inl (some 0))))] [] (am_mm D K J ρ) _
        refine am_e_ss 2 (q := (100, [(4, .inl (rr : Int)), (2, .inl bg), (1, .inl bh), (0, .inr (.inr (.inl (some 0))))], [.inr (.inr (.inl (some 69)))], (am_mm D K J ρ))) rfl ?_
        refine am_e_virtual (Q := fun r => r = (some (.inl ((sp_hn (sp_gos S q)))), (am_mm D K J ρ))) rfl rfl (Nat.le_of_ble_eq_true rfl) rfl rfl (Nat.le_of_ble_eq_true rfl) (Nat.le_of_ble_eq_true rfl) ((c_countHere_69 _ (p := sp_hp (sp_gos S q)) hrq.2.1).imp (fun q h => by rw [h, (sp_hn_cnt hokq).1]; rfl)) ?_
        rintro r rfl
        show am_E _ _ _ 103 [(4, .inl (rr : Int)), (2, .inl bg), (1, .inl bh), (0, .inr (.inr (.inl (some 0))))] [.inl ((sp_hn (sp_gos S q)))] (am_mm D K J ρ) _
        refine am_e_ss 3 (q := (108, [(1, .inl ((sp_hn (sp_gos S q)))), (4, .inl (rr : Int)), (2, .inl bg), (0, .inr (.inr (.inl (some 0))))], [.inr (.inr (.inl (some 69)))], (am_mm D K J ρ))) rfl ?_
        refine am_e_virtual (Q := fun r => r = (some (.inl ((sp_G (sp_gos S q)))), (am_mm D K J ρ))) rfl rfl (Nat.le_of_ble_eq_true rfl) rfl rfl (Nat.le_of_ble_eq_true rfl) (Nat.le_of_ble_eq_true rfl) (c_sumGlad _ hokq hrq) ?_
        rintro r rfl
        show am_E _ _ _ 111 [(1, .inl ((sp_hn (sp_gos S q)))), (4, .inl (rr : Int)), (2, .inl bg), (0, .inr (.inr (.inl (some 0))))] [.inl ((sp_G (sp_gos S q)))] (am_mm D K J ρ) _
        refine am_e_ss 9 (q := (127, [(2, .inl ((sp_G (sp_gos S q)))), (1, .inl ((sp_hn (sp_gos S q)))), (4, .inl (rr : Int)), (0, .inr (.inr (.inl (some 0))))], [.inl 6, .inl 0, .inr (.inr (.inl (some 101))), .inl 0, .inr (.inr (.inl (some 97)))], (am_mm D K J ρ))) rfl ?_
        refine am_e_cp (k := 101) (q := 97) (a := 6) (b := 6) (dp := 0) (sp := 0) (n' := 6) rfl rfl rfl rfl rfl (by decide) (by decide) (by decide) (Nat.le_of_ble_eq_true rfl) ?_
        show am_E _ _ _ 130 [(2, .inl ((sp_G (sp_gos S q)))), (1, .inl ((sp_hn (sp_gos S q)))), (4, .inl (rr : Int)), (0, .inr (.inr (.inl (some 0))))] [] (am_mm D (am_cpg K 101 0 97 0 6) J ρ) _
        refine am_e_ss 2 (q := (134, [(2, .inl ((sp_G (sp_gos S q)))), (1, .inl ((sp_hn (sp_gos S q)))), (4, .inl (rr : Int)), (0, .inr (.inr (.inl (some 0))))], [.inr (.inr (.inl (some 71)))], (am_mm D (am_cpg K 101 0 97 0 6) J ρ))) rfl ?_
        refine am_e_virtual (Q := fun r => ∃ Q241, r = (some (.inl ((if nx q = none then 0 else 1))), (am_mm D (am_wp uN (am_cpg K 101 0 97 0 6) Q241) J ρ)) ∧ ∀ q2, nx q = some q2 → am_rowl (Q241 97) 0 q2) rfl rfl (Nat.le_of_ble_eq_true rfl) rfl rfl (Nat.le_of_ble_eq_true rfl) (Nat.le_of_ble_eq_true rfl) (c_next _ (q := q) h3K (by omega) hq6b hrowK hqe) ?_
        rintro r ⟨Q241, rfl, hnq⟩
        show am_E _ _ _ 137 [(2, .inl ((sp_G (sp_gos S q)))), (1, .inl ((sp_hn (sp_gos S q)))), (4, .inl (rr : Int)), (0, .inr (.inr (.inl (some 0))))] [.inl ((if nx q = none then 0 else 1))] (am_mm D (am_wp uN (am_cpg K 101 0 97 0 6) Q241) J ρ) _
        refine am_e_ss 3 (q := (16, [(4, .inl ((rr : Int) + 1)), (3, .inl ((if nx q = none then 0 else 1))), (2, .inl ((sp_G (sp_gos S q)))), (1, .inl ((sp_hn (sp_gos S q)))), (0, .inr (.inr (.inl (some 0))))], [], (am_mm D (am_wp uN (am_cpg K 101 0 97 0 6) Q241) J ρ))) rfl ?_
        have eb : sp_btv (sp_hn (sp_gos S q)) (sp_G (sp_gos S q)) bh bg = 1 := by omega
        have er1 : sp_r1 S (bh, bg, L) q = ((sp_hn (sp_gos S q)), (sp_G (sp_gos S q)), q) := if_pos eb
        rw [List.foldl_cons, er1] at hres
        have hoff : ∀ c i, uZ c i = false → (am_wp uN (am_cpg K 101 0 97 0 6) Q241) c i = I c i := fun c i h => (((am_k_wp (uN_uZ) (am_k_cpg (fun _ => rfl) (am_k_id)))) c i h).trans (hkz c i h)
        have hhE : c_hall D (am_wp uN (am_cpg K 101 0 97 0 6) Q241) ρ 0 S := c_hall_cg hok (Or.inl rfl) hh (fun c i h => hoff c i (uZ_fx h)) (fun _ _ _ => rfl)
        have h3E : (am_wp uN (am_cpg K 101 0 97 0 6) Q241) 71 3 = sp_ops S := h3K.trans hql
        have hLE : (sp_hn (sp_gos S q)) = -1 ∨ (am_rowl ((am_wp uN (am_cpg K 101 0 97 0 6) Q241) 101) 0 q ∧ q.length ≤ 5) := Or.inr ⟨am_rowl_cpg hrowK (show q.length ≤ 6 by omega), by omega⟩
        cases rs with
        | nil =>
          have hst2 : ((if nx q = none then 0 else 1 : Int) = 1 ∧ res = (([] : List Nat) :: ([] : List (List Nat))).foldl (sp_r1 S) ((sp_hn (sp_gos S q)), (sp_G (sp_gos S q)), q) ∧ nx_ch (([] : List Nat) :: ([] : List (List Nat))) = true ∧ am_rowl ((am_wp uN (am_cpg K 101 0 97 0 6) Q241) 97) 0 ([] : List Nat) ∧ (rr + 1) + ([] : List (List Nat)).length < 120 ∧ ∀ p ∈ ([] : List Nat) :: ([] : List (List Nat)), ((p.length : Int) = sp_ops S ∧ (∀ x ∈ p, x < (S 20).toNat) ∧ ¬ p = [])) ∨ ((if nx q = none then 0 else 1 : Int) = 0 ∧ res = ((sp_hn (sp_gos S q)), (sp_G (sp_gos S q)), q) ∧ (rr + 1) ≤ 120) := Or.inr ⟨if_pos (nx_ch_1 hch), hres, by simp at hrl; omega⟩
          refine (am_less (lv := [(4, .inl ((rr + 1) : Int)), (3, .inl ((if nx q = none then 0 else 1))), (2, .inl ((sp_G (sp_gos S q)))), (1, .inl ((sp_hn (sp_gos S q)))), (0, .inr (.inr (.inl (some 0))))]) rfl (List.forall_mem_cons.mpr ⟨rfl, List.forall_mem_cons.mpr ⟨rfl, List.forall_mem_cons.mpr ⟨rfl, List.forall_mem_cons.mpr ⟨rfl, List.forall_mem_cons.mpr ⟨rfl, List.forall_mem_nil _⟩⟩⟩⟩⟩) (c_fbr_l (I := am_wp uN (am_cpg K 101 0 97 0 6) Q241) d (L := q) (res := res) (q := []) (rs := []) (rr := rr + 1) hok hwf hhE h0 hB h3E h5 ⟨by omega, by omega⟩ ⟨by omega, by omega⟩ hLE hst2)).imp ?_
          rintro z ⟨Q9, rfl, h9⟩
          exact ⟨Q9, am_r_wk uZ hoff, h9⟩
        | cons q2 rs2 =>
          obtain ⟨hn2, hch2⟩ := nx_ch_c hch
          rw [List.length_cons] at hrl
          have hst2 : ((if nx q = none then 0 else 1 : Int) = 1 ∧ res = (q2 :: rs2).foldl (sp_r1 S) ((sp_hn (sp_gos S q)), (sp_G (sp_gos S q)), q) ∧ nx_ch (q2 :: rs2) = true ∧ am_rowl ((am_wp uN (am_cpg K 101 0 97 0 6) Q241) 97) 0 q2 ∧ (rr + 1) + rs2.length < 120 ∧ ∀ p ∈ q2 :: rs2, ((p.length : Int) = sp_ops S ∧ (∀ x ∈ p, x < (S 20).toNat) ∧ ¬ p = [])) ∨ ((if nx q = none then 0 else 1 : Int) = 0 ∧ res = ((sp_hn (sp_gos S q)), (sp_G (sp_gos S q)), q) ∧ (rr + 1) ≤ 120) := Or.inl ⟨if_neg (by rw [hn2]; simp), hres, hch2, hnq q2 hn2, by omega, fun p hp => hvs p (List.mem_cons_of_mem _ hp)⟩
          refine (am_less (lv := [(4, .inl ((rr + 1) : Int)), (3, .inl ((if nx q = none then 0 else 1))), (2, .inl ((sp_G (sp_gos S q)))), (1, .inl ((sp_hn (sp_gos S q)))), (0, .inr (.inr (.inl (some 0))))]) rfl (List.forall_mem_cons.mpr ⟨rfl, List.forall_mem_cons.mpr ⟨rfl, List.forall_mem_cons.mpr ⟨rfl, List.forall_mem_cons.mpr ⟨rfl, List.forall_mem_cons.mpr ⟨rfl, List.forall_mem_nil _⟩⟩⟩⟩⟩) (c_fbr_l (I := am_wp uN (am_cpg K 101 0 97 0 6) Q241) d (L := q) (res := res) (q := q2) (rs := rs2) (rr := rr + 1) hok hwf hhE h0 hB h3E h5 ⟨by omega, by omega⟩ ⟨by omega, by omega⟩ hLE hst2)).imp ?_
          rintro z ⟨Q9, rfl, h9⟩
          exact ⟨Q9, am_r_wk uZ hoff, h9⟩
termination_by 121 - rr
decreasing_by all_goals omega
theorem am_k_cpg_z {I : Nat → Nat → Int} : ∀ c i, uZ c i = false → am_cpg I 97 0 72 0 6 c i = I c i := by
  intro c i h
  refine if_neg (fun e => ?_)
  rw [e.1] at h
  exact absurd (show true = false from h) (by decide)
theorem c_fbr {X : Nat × (Nat → Int)} {D : List (Nat × Nat)} {I J : Nat → Nat → Int} {ρ : Nat → Nat → Option Nat} (d : Nat) {S : Nat → Int} {B : Int} (hok : r_ok S B) (hwf : sp_wfS S) (hh : c_hall D I ρ 0 S) (h0 : S 0 ≤ 190) (hB : B + 480300 ≤ 300000000) (hord : c_ords I S) (h5 : sp_ops S ≤ 5) (ho : ¬ sp_ops S = 0) : am_E X (d + 4) 113 0 [(0, .inr (.inr (.inl (some 0))))] [] (am_mm D I J ρ) (fun z => ∃ Q, z = (none, am_mm D (am_wp uZ I Q) J ρ) ∧ ((sp_rowt S).1 = -1 ∨ am_rowl (Q 101) 0 (sp_rowt S).2.2)) := by
  have ob := sp_ops_b hok
  refine am_e_ss 8 (q := (10, [(3, .inl 1), (2, .inl 0), (1, .inl (-1)), (0, .inr (.inr (.inl (some 0))))], [.inr (.inr (.inl (some 71)))], (am_mm D I J ρ))) rfl ?_
  refine am_e_virtual (Q := fun r => r = (none, (am_mm D (am_cpg I 97 0 72 0 6) J ρ))) rfl rfl (Nat.le_of_ble_eq_true rfl) rfl rfl (Nat.le_of_ble_eq_true rfl) (Nat.le_of_ble_eq_true rfl) (c_start _) ?_
  rintro r rfl
  show am_E _ _ _ 13 [(3, .inl 1), (2, .inl 0), (1, .inl (-1)), (0, .inr (.inr (.inl (some 0))))] [] (am_mm D (am_cpg I 97 0 72 0 6) J ρ) _
  refine am_e_ss 2 (q := (16, [(4, .inl 0), (3, .inl 1), (2, .inl 0), (1, .inl (-1)), (0, .inr (.inr (.inl (some 0))))], [], (am_mm D (am_cpg I 97 0 72 0 6) J ρ))) rfl ?_
  obtain ⟨rs, hP, hrl, hch⟩ := nx_rows hok h5
  have hvs := nx_voice hok h5 ho
  rw [hP] at hvs
  have hoff : ∀ c i, uZ c i = false → (am_cpg I 97 0 72 0 6) c i = I c i := am_k_cpg_z
  have hhK : c_hall D (am_cpg I 97 0 72 0 6) ρ 0 S := c_hall_cg hok (Or.inl rfl) hh (fun c i h => hoff c i (uZ_fx h)) (fun _ _ _ => rfl)
  have hvp : ∀ p ∈ sp_ob S :: rs, ((p.length : Int) = sp_ops S ∧ (∀ x ∈ p, x < (S 20).toNat) ∧ ¬ p = []) := by
    intro p hp
    obtain ⟨h1, h2⟩ := hvs p hp
    rcases h1 with h1 | h1
    · exact absurd h1 h2
    · exact ⟨h1.2.1.1, fun x hx => ((h1.2.2 x).mp hx).1, h2⟩
  have hst2 : ((1 : Int) = 1 ∧ sp_rowt S = ((sp_ob S) :: rs).foldl (sp_r1 S) (-1, 0, []) ∧ nx_ch ((sp_ob S) :: rs) = true ∧ am_rowl ((am_cpg I 97 0 72 0 6) 97) 0 (sp_ob S) ∧ 0 + rs.length < 120 ∧ ∀ p ∈ (sp_ob S) :: rs, ((p.length : Int) = sp_ops S ∧ (∀ x ∈ p, x < (S 20).toNat) ∧ ¬ p = [])) ∨ ((1 : Int) = 0 ∧ sp_rowt S = (-1, 0, []) ∧ 0 ≤ 120) := Or.inl ⟨rfl, by unfold sp_rowt; rw [hP], hch, am_rowl_cpg (n := 6) hord.2.1 (by have := sp_ob_len (S := S); omega), by omega, hvp⟩
  refine (am_less (lv := [(4, .inl (0 : Int)), (3, .inl 1), (2, .inl 0), (1, .inl ((-1))), (0, .inr (.inr (.inl (some 0))))]) rfl (List.forall_mem_cons.mpr ⟨rfl, List.forall_mem_cons.mpr ⟨rfl, List.forall_mem_cons.mpr ⟨rfl, List.forall_mem_cons.mpr ⟨rfl, List.forall_mem_cons.mpr ⟨rfl, List.forall_mem_nil _⟩⟩⟩⟩⟩) (c_fbr_l (I := am_cpg I 97 0 72 0 6) d (L := []) (res := sp_rowt S) (q := sp_ob S) (rs := rs) (rr := 0) hok hwf hhK h0 hB hord.1 h5 ⟨by omega, by omega⟩ ⟨by omega, by omega⟩ (Or.inl rfl) hst2)).imp ?_
  · rintro z ⟨Q9, rfl, h9⟩
    exact ⟨Q9, am_r_wk uZ hoff, h9⟩
theorem sp_r1_len {S : Nat → Int} {n : Int} : ∀ {l : List (List Nat)} {t : Int × Int × List Nat}, (∀ q ∈ l, (q.length : Int) = n) → (t.1 = -1 ∨ (t.2.2.length : Int) = n) → ((l.foldl (sp_r1 S) t).1 = -1 ∨ ((l.foldl (sp_r1 S) t).2.2.length : Int) = n) := by
  intro l
  induction l with
  | nil => intro t _ h; exact h
  | cons q l ih =>
    intro t h h1
    rw [List.foldl_cons]
    refine ih (fun x hx => h x (List.mem_cons_of_mem _ hx)) ?_
    unfold sp_r1
    split
    · exact Or.inr (h q List.mem_cons_self)
    · exact h1
theorem c_row {X : Nat × (Nat → Int)} {D : List (Nat × Nat)} {I J : Nat → Nat → Int} {ρ : Nat → Nat → Option Nat} (d : Nat) {S : Nat → Int} {B : Int} (hok : r_ok S B) (hwf : sp_wfS S) (hh : c_hall D I ρ 0 S) {k : Int} (hk : -2147483648 ≤ k ∧ k < 2147483648) (hB : B + 480300 ≤ 300000000) (h0 : S 0 ≤ 190) : am_E X (d + 5) 112 0 [(0, .inr (.inr (.inl (some 0)))), (1, .inl k)] [] (am_mm D I J ρ) (fun q => ∃ Q ρ2, q = (some (.inl (sp_row5 S k)), am_mm D (am_wp uZ I Q) J ρ2) ∧ ∀ k j, k ≠ 71 → ρ2 k j = ρ k j) := by
  have hh0 := hh
  obtain ⟨⟨h12, h14, h16, h18, h110⟩, ⟨hr0, hhr, hhd, hgl⟩, ⟨htp, hhn⟩, hbk, hlo, hmem, c, hρc, ⟨hsc0, hcc, hc0, hcs⟩⟩ := hh
  have hsc : (am_S ++ D)[c]? = some (1, 10) := hsc0.1.1
  have h12 : I 1 2 = S 19 := h12
  have h14 : I 1 4 = S 20 := h14
  have h16 : I 1 6 = S 21 := h16
  have h18 : I 1 8 = S 23 := h18
  have h110 : I 1 10 = S 22 := h110
  have hr0 : I 2 0 = S 0 := hr0
  have hhr : I 2 1 = am_bits (sp_hp S) 6 := hhr
  have hhd : I 2 2 = am_bits (sp_dp S) 6 := hhd
  have hgl : ∀ m, m < (S 19).toNat → I 3 m = S (1 + m) := hgl
  have htp : ∀ i, i < (S 23).toNat → I 17 i = S (68 + i) := htp
  have hhn : ∀ i, i < (S 22).toNat → I 18 i = S (62 + i) := hhn
  have hbk : ∀ b, b < (S 20).toNat → I (6 + b) 0 = S (38 + b) ∧ I (6 + b) 1 = S (44 + b) ∧ I (6 + b) 2 = S (50 + b) ∧ I (6 + b) 3 = S (56 + b) := hbk
  have hlo : ∀ m b : Nat, m < (S 19).toNat → b < (S 20).toNat → I (20 + m) b = sp_like S m b ∧ I (27 + m) b = sp_odds S m b := hlo
  have hmem : c_mems D I ρ 4 S := hmem
  have hρc : ρ 1 5 = some c := hρc
  have hh := hh0
  have h19 := r_ok_19 hok
  have hokx := hok
  obtain ⟨o0, oG, oH, oD, o19, o20, o21, o22, o23, o24, oK, oV, oP, oM, oS, oY, oHd, oT, oC, oN⟩ := hok
  have hok := hokx
  have ob := sp_ops_b hok
  refine am_e_ss 1 (q := (1, [(0, .inr (.inr (.inl (some 0)))), (1, .inl k)], [.inl k], (am_mm D I J ρ))) rfl ?_
  refine am_e_if2 rfl ⟨by omega, by omega⟩ (fun (hw1 : k < 0) => ?_) (fun (hw1 : ¬ (k < 0)) => ?_)
  · show am_E _ _ _ 9 [(0, .inr (.inr (.inl (some 0)))), (1, .inl k)] [] (am_mm D I J ρ) _
    refine am_e_ss 1 (q := (10, [(0, .inr (.inr (.inl (some 0)))), (1, .inl k)], [.inl (-1)], (am_mm D I J ρ))) rfl ?_
    refine am_e_ireturn rfl rfl ?_
    rw [show sp_row5 S k = (-1) by (unfold sp_row5; (repeat' split) <;> first | rfl | (exfalso; omega))]
    exact ⟨I, ρ, am_r_wp uZ am_k_id, fun _ _ _ => rfl⟩
  · show am_E _ _ _ 4 [(0, .inr (.inr (.inl (some 0)))), (1, .inl k)] [] (am_mm D I J ρ) _
    refine am_e_ss 2 (q := (6, [(0, .inr (.inr (.inl (some 0)))), (1, .inl k)], [.inl 5, .inl k], (am_mm D I J ρ))) rfl ?_
    refine am_e_icmp2 rfl ⟨by omega, by omega⟩ ⟨by omega, by omega⟩ (fun (hw2 : k < 5) => ?_) (fun (hw2 : ¬ (k < 5)) => ?_)
    · show am_E _ _ _ 11 [(0, .inr (.inr (.inl (some 0)))), (1, .inl k)] [] (am_mm D I J ρ) _
      refine am_e_ss 5 (q := (22, [(0, .inr (.inr (.inl (some 0)))), (1, .inl k)], [.inr (.inr (.inl (some 2))), .inr (.inr (.inl (some 71)))], (am_mm D I J ρ))) rfl ?_
      refine am_e_virtual (Q := fun r => ∃ Q242, r = (none, (am_mm D (am_wp uC I Q242) J (am_up ρ 71 1 (some 2)))) ∧ c_ords Q242 S ∧ c_voi Q242 (sp_vl S 0) (S 19).toNat) rfl rfl (Nat.le_of_ble_eq_true rfl) rfl rfl (Nat.le_of_ble_eq_true rfl) (Nat.le_of_ble_eq_true rfl) (c_collect_2 _ hok (c_hall_vh hok hh) hwf) ?_
      rintro r ⟨Q242, rfl, ⟨hord, hvoi⟩⟩
      show am_E _ _ _ 25 [(0, .inr (.inr (.inl (some 0)))), (1, .inl k)] [] (am_mm D (am_wp uC I Q242) J (am_up ρ 71 1 (some 2))) _
      have hordK : c_ords (am_wp uC I Q242) S := ⟨hord.1, hord.2.1, fun j hj => am_rowl_cg (hord.2.2 j hj) (fun i _ => am_wp_in (show uC (74 + j) _ = true from (by rcases (show j = 0 ∨ j = 1 ∨ j = 2 ∨ j = 3 ∨ j = 4 ∨ j = 5 by omega) with rfl | rfl | rfl | rfl | rfl | rfl <;> rfl)))⟩
      have hvoiK : c_voi (am_wp uC I Q242) (sp_vl S 0) (S 19).toNat := ⟨hvoi.1, fun j hj hn => am_rowl_cg (hvoi.2.1 j hj hn) (fun i _ => am_wp_in (show uC (81 + j) _ = true from (by rcases (show j = 0 ∨ j = 1 ∨ j = 2 ∨ j = 3 ∨ j = 4 ∨ j = 5 by omega) with rfl | rfl | rfl | rfl | rfl | rfl <;> rfl))), hvoi.2.2.1, fun a b ha hb => (am_wp_in (show uC (91 + a) b = true from (by rcases (show a = 0 ∨ a = 1 ∨ a = 2 ∨ a = 3 ∨ a = 4 ∨ a = 5 by omega) with rfl | rfl | rfl | rfl | rfl | rfl <;> rfl))).trans (hvoi.2.2.2 a b ha hb)⟩
      have ho3 := hord.1
      have hhK : c_hall D (am_wp uC I Q242) (am_up ρ 71 1 (some 2)) 0 S := c_hall_cg hok (Or.inl rfl) hh (fun c i h => ((am_k_wp (uC_uZ) (am_k_id))) c i (uZ_fx h)) (fun k j hk => if_neg (by omega))
      have hpl : ∀ q ∈ sp_pl2 S (sp_ops S).toNat [], (q.length : Int) = sp_ops S := fun q hq => by have := (sp_pl2_mem _ hq).1; rw [List.length_nil] at this; omega
      have hlen := sp_r1_len (S := S) (n := sp_ops S) (l := sp_pl2 S (sp_ops S).toNat []) (t := (-1, 0, [])) hpl (Or.inl rfl)
      have hlen : (sp_rowt S).1 = -1 ∨ ((sp_rowt S).2.2.length : Int) = sp_ops S := hlen
      have hne : ¬ (sp_rowt S).1 = -1 := sp_r1_pos hok hwf h0 (fun q hq => ⟨by have := hpl q hq; omega, fun x hx => by rcases (sp_pl2_mem _ hq).2 x hx with h | h; simp at h; omega⟩) (Or.inr (sp_pl2_ne hok hwf h0 _ (by rw [List.length_nil]; omega) (fun x hx => by simp at hx) (by show sp_ops S = _; omega))) (by show (-1 : Int) ≤ -1; omega)
      refine am_e_ss 4 (q := (33, [(0, .inr (.inr (.inl (some 0)))), (1, .inl k)], [.inl 5, .inl ((Q242 71 3))], (am_mm D (am_wp uC I Q242) J (am_up ρ 71 1 (some 2))))) rfl ?_
      refine am_e_icmp2 rfl ⟨by omega, by omega⟩ ⟨by omega, by omega⟩ (fun (hw3 : (Q242 71 3) ≤ 5) => ?_) (fun (hw3 : ¬ ((Q242 71 3) ≤ 5)) => ?_)
      · show am_E _ _ _ 39 [(0, .inr (.inr (.inl (some 0)))), (1, .inl k)] [] (am_mm D (am_wp uC I Q242) J (am_up ρ 71 1 (some 2))) _
        refine am_e_ss 4 (q := (47, [(0, .inr (.inr (.inl (some 0)))), (1, .inl k)], [.inl ((Q242 71 3)), .inl k], (am_mm D (am_wp uC I Q242) J (am_up ρ 71 1 (some 2))))) rfl ?_
        refine am_e_icmp2 rfl ⟨by omega, by omega⟩ ⟨by omega, by omega⟩ (fun (hw4 : k < (Q242 71 3)) => ?_) (fun (hw4 : ¬ (k < (Q242 71 3))) => ?_)
        · show am_E _ _ _ 53 [(0, .inr (.inr (.inl (some 0)))), (1, .inl k)] [] (am_mm D (am_wp uC I Q242) J (am_up ρ 71 1 (some 2))) _
          refine am_e_ss 1 (q := (54, [(0, .inr (.inr (.inl (some 0)))), (1, .inl k)], [.inr (.inr (.inl (some 0)))], (am_mm D (am_wp uC I Q242) J (am_up ρ 71 1 (some 2))))) rfl ?_
          refine am_e_virtual (Q := fun r => ∃ Q243, r = (none, (am_mm D (am_wp uZ (am_wp uC I Q242) Q243) J (am_up ρ 71 1 (some 2)))) ∧ ((sp_rowt S).1 = -1 ∨ am_rowl (Q243 101) 0 (sp_rowt S).2.2)) rfl rfl (Nat.le_of_ble_eq_true rfl) rfl rfl (Nat.le_of_ble_eq_true rfl) (Nat.le_of_ble_eq_true rfl) (c_fbr _ hok hwf hhK h0 hB hordK (by omega) (by omega)) ?_
          rintro r ⟨Q243, rfl, hrt⟩
          show am_E _ _ _ 57 [(0, .inr (.inr (.inl (some 0)))), (1, .inl k)] [] (am_mm D (am_wp uZ (am_wp uC I Q242) Q243) J (am_up ρ 71 1 (some 2))) _
          refine am_e_ss 3 (q := (62, [(0, .inr (.inr (.inl (some 0)))), (1, .inl k)], [.inl k, .inr (.inr (.inl (some 101)))], (am_mm D (am_wp uZ (am_wp uC I Q242) Q243) J (am_up ρ 71 1 (some 2))))) rfl ?_
          refine am_e_iaload (m := 6) rfl rfl (by omega) (by omega) (by omega) ?_
          show am_E _ _ _ 63 [(0, .inr (.inr (.inl (some 0)))), (1, .inl k)] [.inl ((Q243 101 (k).toNat))] (am_mm D (am_wp uZ (am_wp uC I Q242) Q243) J (am_up ρ 71 1 (some 2))) _
          refine am_e_ireturn rfl rfl ?_
          have hrow : am_rowl (Q243 101) 0 (sp_rowt S).2.2 := by
            rcases hrt with h | h
            · exact absurd h hne
            · exact h
          have hkl : k.toNat < (sp_rowt S).2.2.length := by omega
          have ev : sp_row5 S k = (Q243 101 (k).toNat) := by
            unfold sp_row5 sp_get
            rw [if_neg (by omega), if_neg (by omega), List.getElem?_eq_getElem hkl]
            have hr := hrow k.toNat _ (List.getElem?_eq_getElem hkl)
            rw [Nat.zero_add] at hr
            exact hr.symm
          rw [ev]
          exact ⟨_, (am_up ρ 71 1 (some 2)), am_r_wp uZ (am_k_wp am_k_sub (am_k_wp (uC_uZ) (am_k_id))), fun k j hk => if_neg (by omega)⟩
        · show am_E _ _ _ 50 [(0, .inr (.inr (.inl (some 0)))), (1, .inl k)] [] (am_mm D (am_wp uC I Q242) J (am_up ρ 71 1 (some 2))) _
          refine am_e_ss 1 (q := (52, [(0, .inr (.inr (.inl (some 0)))), (1, .inl k)], [.inl (-5)], (am_mm D (am_wp uC I Q242) J (am_up ρ 71 1 (some 2))))) rfl ?_
          refine am_e_ireturn rfl rfl ?_
          have ev : sp_row5 S k = -5 := by
            unfold sp_row5 sp_get
            rw [if_neg (by omega), if_neg (by omega), List.getElem?_eq_none (by omega)]
          rw [ev]
          exact ⟨_, (am_up ρ 71 1 (some 2)), am_r_wp uZ (am_k_wp (uC_uZ) (am_k_id)), fun k j hk => if_neg (by omega)⟩
      · show am_E _ _ _ 36 [(0, .inr (.inr (.inl (some 0)))), (1, .inl k)] [] (am_mm D (am_wp uC I Q242) J (am_up ρ 71 1 (some 2))) _
        refine am_e_ss 1 (q := (38, [(0, .inr (.inr (.inl (some 0)))), (1, .inl k)], [.inl (-9)], (am_mm D (am_wp uC I Q242) J (am_up ρ 71 1 (some 2))))) rfl ?_
        refine am_e_ireturn rfl rfl ?_
        rw [show sp_row5 S k = (-9) by (unfold sp_row5; (repeat' split) <;> first | rfl | (exfalso; omega))]
        exact ⟨_, (am_up ρ 71 1 (some 2)), am_r_wp uZ (am_k_wp (uC_uZ) (am_k_id)), fun k j hk => if_neg (by omega)⟩
    · show am_E _ _ _ 9 [(0, .inr (.inr (.inl (some 0)))), (1, .inl k)] [] (am_mm D I J ρ) _
      refine am_e_ss 1 (q := (10, [(0, .inr (.inr (.inl (some 0)))), (1, .inl k)], [.inl (-1)], (am_mm D I J ρ))) rfl ?_
      refine am_e_ireturn rfl rfl ?_
      rw [show sp_row5 S k = (-1) by (unfold sp_row5; (repeat' split) <;> first | rfl | (exfalso; omega))]
      exact ⟨I, ρ, am_r_wp uZ am_k_id, fun _ _ _ => rfl⟩
