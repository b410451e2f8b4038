/-! THE CLASS: enough -/
theorem am_r_wkJ {D : List (Nat × Nat)} {I J L W : Nat → Nat → Int} {ρ : Nat → Nat → Option Nat} {v : Option am_V} (p : Nat → Nat → Bool) (hk : ∀ c i, p c i = false → L c i = J c i) : ((v, am_mm D I (am_wp p L W) ρ) : am_R) = (v, am_mm D I (am_wp p J W) ρ) := by
  have e : am_wp p L W = am_wp p J W := by
    funext c i
    unfold am_wp
    cases h : p c i with
    | true => rfl
    | false => rw [if_neg (by decide), if_neg (by decide)]; exact hk c i h
  rw [e]
theorem cd_step {x y n : Nat} (hx : 0 < x) (hxy : x ≤ y) (h : x * y < 2 ^ n) : ∃ k, n = k + 1 ∧ (y % x) * x < 2 ^ k := by
  cases n with
  | zero =>
    have : 0 < x * y := Nat.mul_pos hx (by omega)
    rw [Nat.pow_zero] at h
    omega
  | succ k =>
    refine ⟨k, rfl, ?_⟩
    have h1 := Nat.div_add_mod y x
    have h2 : x ≤ x * (y / x) := Nat.le_mul_of_pos_right x (Nat.div_pos hxy hx)
    have h3 := Nat.mod_lt y hx
    have h4 : (2 * (y % x)) * x ≤ y * x := Nat.mul_le_mul_right x (by omega)
    rw [Nat.mul_assoc, Nat.mul_comm y x] at h4
    rw [Nat.pow_succ] at h
    omega
theorem c_cd_l {X : Nat × (Nat → Int)} {D : List (Nat × Nat)} {I J : Nat → Nat → Int} {ρ : Nat → Nat → Option Nat} (d : Nat) {s x y n up low : Nat} (hy : y ≤ 1000000) (hxy : x ≤ y) (hy0 : 0 < y) (hn : x * y < 2 ^ n) (hs : s + n ≤ 100) (hg : Nat.gcd x y = Nat.gcd up low) : am_E X d 106 3 [(4, .inl (s : Int)), (2, .inr (.inl (y : Int))), (0, .inr (.inl (x : Int)))] [] (am_mm D I J ρ) (fun r => r = (some (.inr (.inl ((Nat.gcd up low : Nat) : Int))), (am_mm D I J ρ))) := by
  refine am_e_ss 2 (q := (7, [(4, .inl (s : Int)), (2, .inr (.inl (y : Int))), (0, .inr (.inl (x : Int)))], [.inl 100, .inl (s : Int)], (am_mm D I J ρ))) rfl ?_
  refine am_e_icmp2 rfl ⟨by omega, by omega⟩ ⟨by omega, by omega⟩ (fun (hw1 : 100 ≤ (s : Int)) => ?_) (fun (hw1 : ¬ (100 ≤ (s : Int))) => ?_)
  · show am_E _ _ _ 32 [(4, .inl (s : Int)), (2, .inr (.inl (y : Int))), (0, .inr (.inl (x : Int)))] [] (am_mm D I J ρ) _
    refine am_e_ss 1 (q := (33, [(4, .inl (s : Int)), (2, .inr (.inl (y : Int))), (0, .inr (.inl (x : Int)))], [.inr (.inl (y : Int))], (am_mm D I J ρ))) rfl ?_
    refine am_e_lreturn rfl rfl ?_
    have hx0 : x = 0 := by
      by_cases e : s < 100
      · omega
      · have hn0 : n = 0 := by omega
        subst hn0
        rw [Nat.pow_zero] at hn
        have : x * y = 0 := by omega
        rcases Nat.mul_eq_zero.mp this with h | h <;> omega
    subst hx0
    rw [show Nat.gcd up low = y by rw [← hg, Nat.gcd_zero_left]]
  · show am_E _ _ _ 10 [(4, .inl (s : Int)), (2, .inr (.inl (y : Int))), (0, .inr (.inl (x : Int)))] [] (am_mm D I J ρ) _
    refine am_e_ss 2 (q := (12, [(4, .inl (s : Int)), (2, .inr (.inl (y : Int))), (0, .inr (.inl (x : Int)))], [.inr (.inl 0), .inr (.inl (x : Int))], (am_mm D I J ρ))) rfl ?_
    refine am_e_lcmp rfl ⟨by omega, by omega⟩ ⟨by omega, by omega⟩ ?_
    show am_E _ _ _ 13 [(4, .inl (s : Int)), (2, .inr (.inl (y : Int))), (0, .inr (.inl (x : Int)))] [.inl ((am_sg3 (x : Int) 0))] (am_mm D I J ρ) _
    have c32 := am_sg3_p (x : Int) 0
    refine am_e_if2 rfl ⟨by omega, by omega⟩ (fun (hw3 : (am_sg3 (x : Int) 0) = 0) => ?_) (fun (hw3 : ¬ ((am_sg3 (x : Int) 0) = 0)) => ?_)
    · show am_E _ _ _ 32 [(4, .inl (s : Int)), (2, .inr (.inl (y : Int))), (0, .inr (.inl (x : Int)))] [] (am_mm D I J ρ) _
      refine am_e_ss 1 (q := (33, [(4, .inl (s : Int)), (2, .inr (.inl (y : Int))), (0, .inr (.inl (x : Int)))], [.inr (.inl (y : Int))], (am_mm D I J ρ))) rfl ?_
      refine am_e_lreturn rfl rfl ?_
      have hx0 : x = 0 := by
        by_cases e : s < 100
        · omega
        · have hn0 : n = 0 := by omega
          subst hn0
          rw [Nat.pow_zero] at hn
          have : x * y = 0 := by omega
          rcases Nat.mul_eq_zero.mp this with h | h <;> omega
      subst hx0
      rw [show Nat.gcd up low = y by rw [← hg, Nat.gcd_zero_left]]
    · show am_E _ _ _ 16 [(4, .inl (s : Int)), (2, .inr (.inl (y : Int))), (0, .inr (.inl (x : Int)))] [] (am_mm D I J ρ) _
      refine am_e_ss 2 (q := (18, [(4, .inl (s : Int)), (2, .inr (.inl (y : Int))), (0, .inr (.inl (x : Int)))], [.inr (.inl (x : Int)), .inr (.inl (y : Int))], (am_mm D I J ρ))) rfl ?_
      refine am_e_lremp rfl ⟨by omega, by omega⟩ ⟨by omega, by omega⟩ ?_
      show am_E _ _ _ 19 [(4, .inl (s : Int)), (2, .inr (.inl (y : Int))), (0, .inr (.inl (x : Int)))] [.inr (.inl ((y : Int) % (x : Int)))] (am_mm D I J ρ) _
      refine am_e_ss 7 (q := (3, [(4, .inl ((s : Int) + 1)), (0, .inr (.inl ((y : Int) % (x : Int)))), (2, .inr (.inl (x : Int))), (5, .inr (.inl ((y : Int) % (x : Int))))], [], (am_mm D I J ρ))) rfl ?_
      obtain ⟨k, rfl, hk⟩ := cd_step (x := x) (y := y) (n := n) (by omega) hxy hn
      have hlt : y % x < x := Nat.mod_lt _ (by omega)
      exact am_less (lv := [(4, .inl ((s + 1) : Int)), (2, .inr (.inl (x : Int))), (0, .inr (.inl ((y % x : Nat) : Int)))]) rfl (List.forall_mem_cons.mpr ⟨rfl, List.forall_mem_cons.mpr ⟨rfl, List.forall_mem_cons.mpr ⟨rfl, List.forall_mem_nil _⟩⟩⟩) (c_cd_l d (s := s + 1) (x := y % x) (y := x) (n := k) (up := up) (low := low) (by omega) (by omega) (by omega) hk (by omega) (by rw [← Nat.gcd_rec]; exact hg))
termination_by n
decreasing_by all_goals omega
theorem c_cd {X : Nat × (Nat → Int)} {D : List (Nat × Nat)} {I J : Nat → Nat → Int} {ρ : Nat → Nat → Option Nat} (d : Nat) {up low : Nat} (hup : up ≤ low) (hlow : 1 ≤ low ∧ low ≤ 1000000) : am_E X d 106 0 [(0, .inr (.inl (up : Int))), (2, .inr (.inl (low : Int)))] [] (am_mm D I J ρ) (fun r => r = (some (.inr (.inl ((Nat.gcd up low : Nat) : Int))), (am_mm D I J ρ))) := by
  refine am_e_ss 2 (q := (3, [(4, .inl 0), (0, .inr (.inl (up : Int))), (2, .inr (.inl (low : Int)))], [], (am_mm D I J ρ))) rfl ?_
  have hpr : up * low < 2 ^ 40 := by
    have h1 : up * low ≤ 1000000 * 1000000 := Nat.mul_le_mul (by omega) (by omega)
    have h2 : 1000000 * 1000000 < 2 ^ 40 := by decide
    omega
  exact am_less (lv := [(4, .inl (0 : Int)), (2, .inr (.inl (low : Int))), (0, .inr (.inl (up : Int)))]) rfl (List.forall_mem_cons.mpr ⟨rfl, List.forall_mem_cons.mpr ⟨rfl, List.forall_mem_cons.mpr ⟨rfl, List.forall_mem_nil _⟩⟩⟩) (c_cd_l d (s := 0) (x := up) (y := low) (n := 40) (up := up) (low := low) (by omega) (by omega) (by omega) hpr (by omega) rfl)
theorem c_cdI {X : Nat × (Nat → Int)} {D : List (Nat × Nat)} {I J : Nat → Nat → Int} {ρ : Nat → Nat → Option Nat} (d : Nat) {up low : Int} (hup : 0 ≤ up ∧ up ≤ low) (hlow : 1 ≤ low ∧ low ≤ 1000000) : am_E X d 106 0 [(0, .inr (.inl up)), (2, .inr (.inl low))] [] (am_mm D I J ρ) (fun r => r = (some (.inr (.inl ((Nat.gcd up.toNat low.toNat : Nat) : Int))), am_mm D I J ρ)) := by
  obtain ⟨u, rfl⟩ : ∃ u : Nat, up = (u : Int) := ⟨up.toNat, by omega⟩
  obtain ⟨l, rfl⟩ : ∃ l : Nat, low = (l : Int) := ⟨low.toNat, by omega⟩
  exact c_cd d (by omega) (by omega)
def u100 : Nat → Nat → Bool := fun c i => Nat.beq c 100
theorem c_sc_in {X : Nat × (Nat → Int)} {D : List (Nat × Nat)} {I J : Nat → Nat → Int} {ρ : Nat → Nat → Option Nat} (d : Nat) {P : am_R → Prop} {w : Nat → Int} {e p b lo : Int} {m jn : Nat} (hp : 0 ≤ p ∧ p ≤ 10) (he : e = (jn : Int) - 1 ∧ 1 ≤ jn ∧ jn ≤ 7) (hhi : ∀ i, jn ≤ i → i < 7 → J 100 i = sp_wyk p w i) (hlo2 : ∀ i, i < jn → J 100 i = w i) (hc : ∀ L, (∀ c i, u100 c i = false → L c i = J c i) → (∀ i, i < 7 → L 100 i = sp_wyk p w i) → am_E X d 105 140 [(4, .inl (m : Int)), (2, .inr (.inl lo)), (1, .inl b), (0, .inr (.inr (.inl (some 0))))] [] (am_mm D I L ρ) P) : am_E X d 105 79 [(6, .inl e), (5, .inl p), (4, .inl (m : Int)), (2, .inr (.inl lo)), (1, .inl b), (0, .inr (.inr (.inl (some 0))))] [] (am_mm D I J ρ) (P) := by
  refine am_e_ss 1 (q := (81, [(6, .inl e), (5, .inl p), (4, .inl (m : Int)), (2, .inr (.inl lo)), (1, .inl b), (0, .inr (.inr (.inl (some 0))))], [.inl e], (am_mm D I J ρ))) rfl ?_
  refine am_e_if2 rfl ⟨by omega, by omega⟩ (fun (hw1 : e ≤ 0) => ?_) (fun (hw1 : ¬ (e ≤ 0)) => ?_)
  · show am_E _ _ _ 125 [(6, .inl e), (5, .inl p), (4, .inl (m : Int)), (2, .inr (.inl lo)), (1, .inl b), (0, .inr (.inr (.inl (some 0))))] [] (am_mm D I J ρ) _
    refine am_e_ss 11 (q := (140, [(6, .inl e), (5, .inl p), (4, .inl (m : Int)), (2, .inr (.inl lo)), (1, .inl b), (0, .inr (.inr (.inl (some 0))))], [], (am_mm D I (am_up J 100 0 ((J 100 0) * (am_w (10 - p)))) ρ))) rfl ?_
    have e9 : ∀ i, i < 7 → (am_up J 100 0 ((J 100 0) * (am_w (10 - p)))) 100 i = sp_wyk p w i := by
      intro i h2
      by_cases e : i = 0
      · subst e
        refine am_up_at2.trans ?_
        unfold sp_wyk
        rw [am_w_id (z := 10 - p) (by omega) (by omega), if_pos rfl, ← hlo2 _ (show 0 < jn by omega), Int.add_zero]
      · exact (am_up_ne2 (by omega)).trans (hhi i (by omega) h2)
    exact am_less (lv := [(4, .inl (m : Int)), (2, .inr (.inl lo)), (1, .inl b), (0, .inr (.inr (.inl (some 0))))]) rfl (List.forall_mem_cons.mpr ⟨rfl, List.forall_mem_cons.mpr ⟨rfl, List.forall_mem_cons.mpr ⟨rfl, List.forall_mem_cons.mpr ⟨rfl, List.forall_mem_nil _⟩⟩⟩⟩) (hc _ (show ∀ c i, u100 c i = false → (am_up J 100 0 ((J 100 0) * (am_w (10 - p)))) c i = J c i from (am_k_up rfl am_k_id)) e9)
  · show am_E _ _ _ 84 [(6, .inl e), (5, .inl p), (4, .inl (m : Int)), (2, .inr (.inl lo)), (1, .inl b), (0, .inr (.inr (.inl (some 0))))] [] (am_mm D I J ρ) _
    refine am_e_ss 6 (q := (96, [(6, .inl e), (5, .inl p), (4, .inl (m : Int)), (2, .inr (.inl lo)), (1, .inl b), (0, .inr (.inr (.inl (some 0))))], [.inl e, .inr (.inr (.inl (some 100))), .inl e, .inr (.inr (.inl (some 100)))], (am_mm D I J ρ))) rfl ?_
    refine am_e_laload (m := 7) rfl rfl (by omega) (by omega) (by omega) ?_
    show am_E _ _ _ 97 [(6, .inl e), (5, .inl p), (4, .inl (m : Int)), (2, .inr (.inl lo)), (1, .inl b), (0, .inr (.inr (.inl (some 0))))] [.inr (.inl (J 100 (e).toNat)), .inl e, .inr (.inr (.inl (some 100)))] (am_mm D I J ρ) _
    refine am_e_ss 10 (q := (112, [(6, .inl e), (5, .inl p), (4, .inl (m : Int)), (2, .inr (.inl lo)), (1, .inl b), (0, .inr (.inr (.inl (some 0))))], [.inl (e - 1), .inr (.inr (.inl (some 100))), .inr (.inl ((J 100 (e).toNat) * (am_w (10 - p)))), .inl e, .inr (.inr (.inl (some 100)))], (am_mm D I J ρ))) rfl ?_
    refine am_e_laload (m := 7) rfl rfl (by omega) (by omega) (by omega) ?_
    show am_E _ _ _ 113 [(6, .inl e), (5, .inl p), (4, .inl (m : Int)), (2, .inr (.inl lo)), (1, .inl b), (0, .inr (.inr (.inl (some 0))))] [.inr (.inl (J 100 ((e - 1)).toNat)), .inr (.inl ((J 100 (e).toNat) * (am_w (10 - p)))), .inl e, .inr (.inr (.inl (some 100)))] (am_mm D I J ρ) _
    refine am_e_ss 4 (q := (118, [(6, .inl e), (5, .inl p), (4, .inl (m : Int)), (2, .inr (.inl lo)), (1, .inl b), (0, .inr (.inr (.inl (some 0))))], [.inr (.inl (((J 100 (e).toNat) * (am_w (10 - p))) + ((J 100 ((e - 1)).toNat) * (am_w p)))), .inl e, .inr (.inr (.inl (some 100)))], (am_mm D I J ρ))) rfl ?_
    refine am_e_lastore (m := 7) rfl rfl (by omega) (by omega) (by omega) ?_
    show am_E _ _ _ 119 [(6, .inl e), (5, .inl p), (4, .inl (m : Int)), (2, .inr (.inl lo)), (1, .inl b), (0, .inr (.inr (.inl (some 0))))] [] (am_mm D I (am_up J 100 (e).toNat (((J 100 (e).toNat) * (am_w (10 - p))) + ((J 100 ((e - 1)).toNat) * (am_w p)))) ρ) _
    refine am_e_ss 2 (q := (79, [(6, .inl (e + (-1))), (5, .inl p), (4, .inl (m : Int)), (2, .inr (.inl lo)), (1, .inl b), (0, .inr (.inr (.inl (some 0))))], [], (am_mm D I (am_up J 100 (e).toNat (((J 100 (e).toNat) * (am_w (10 - p))) + ((J 100 ((e - 1)).toNat) * (am_w p)))) ρ))) rfl ?_
    have e9 : ∀ i, jn - 1 ≤ i → i < 7 → (am_up J 100 (e).toNat (((J 100 (e).toNat) * (am_w (10 - p))) + ((J 100 ((e - 1)).toNat) * (am_w p)))) 100 i = sp_wyk p w i := by
      intro i h1 h2
      by_cases e : i = jn - 1
      · subst e
        rw [show jn - 1 = (e).toNat by omega]
        refine am_up_at2.trans ?_
        unfold sp_wyk
        rw [am_w_id (z := 10 - p) (by omega) (by omega), am_w_id (z := p) (by omega) (by omega), if_neg (by omega), ← hlo2 _ (show (e).toNat < jn by omega), show (e - 1).toNat = (e).toNat - 1 by omega, ← hlo2 _ (show (e).toNat - 1 < jn by omega)]
      · exact (am_up_ne2 (by omega)).trans (hhi i (by omega) h2)
    have e8 : ∀ i, i < jn - 1 → (am_up J 100 (e).toNat (((J 100 (e).toNat) * (am_w (10 - p))) + ((J 100 ((e - 1)).toNat) * (am_w p)))) 100 i = w i := fun i hi => (am_up_ne2 (by omega)).trans (hlo2 i (by omega))
    exact am_less (lv := [(6, .inl ((e + -1))), (5, .inl p), (4, .inl (m : Int)), (2, .inr (.inl lo)), (1, .inl b), (0, .inr (.inr (.inl (some 0))))]) rfl (List.forall_mem_cons.mpr ⟨rfl, List.forall_mem_cons.mpr ⟨rfl, List.forall_mem_cons.mpr ⟨rfl, List.forall_mem_cons.mpr ⟨rfl, List.forall_mem_cons.mpr ⟨rfl, List.forall_mem_cons.mpr ⟨rfl, List.forall_mem_nil _⟩⟩⟩⟩⟩⟩) (c_sc_in (J := am_up J 100 (e).toNat (((J 100 (e).toNat) * (am_w (10 - p))) + ((J 100 ((e - 1)).toNat) * (am_w p)))) d (e := e + -1) (jn := jn - 1) (w := w) hp (by omega) e9 e8 (fun L hL hw => hc L (fun c i h => (hL c i h).trans ((show ∀ c i, u100 c i = false → (am_up J 100 (e).toNat (((J 100 (e).toNat) * (am_w (10 - p))) + ((J 100 ((e - 1)).toNat) * (am_w p)))) c i = J c i from (am_k_up rfl am_k_id)) c i h)) hw))
termination_by jn
decreasing_by all_goals omega
theorem c_sc_2 {X : Nat × (Nat → Int)} {D : List (Nat × Nat)} {I J : Nat → Nat → Int} {ρ : Nat → Nat → Option Nat} (d : Nat) {S : Nat → Int} {B : Int} (hok : r_ok S B) (hwf : sp_wfS S) (hh : c_hall D I ρ 0 S) {b : Int} (hb : 0 ≤ b ∧ b < S 20) {lo : Int} {m : Nat} (hm : (m : Int) ≤ S 19) (hw : ∀ i, i < 7 → J 100 i = sp_wy S b m i) (hlw : lo = sp_low S m) : am_E X (d + 1) 105 34 [(4, .inl (m : Int)), (2, .inr (.inl lo)), (1, .inl b), (0, .inr (.inr (.inl (some 0))))] [] (am_mm D I J ρ) (fun z => ∃ W, z = (some (.inr (.inl (sp_low S (S 19).toNat))), am_mm D I (am_wp u100 J W) ρ) ∧ ∀ i, i < 7 → W 100 i = sp_wy S b (S 19).toNat i) := by
  have hh0 := hh
  obtain ⟨⟨h12, h14, h16, h18, h110⟩, ⟨hr0, hhr, hhd, hgl⟩, ⟨htp, hhn⟩, hbk, hlo, hmem, c, hρc, ⟨hsc0, hcc, hc0, hcs⟩⟩ := hh
  have hsc : (am_S ++ D)[c]? = some (1, 10) := hsc0.1.1
  have h12 : I 1 2 = S 19 := h12
  have h14 : I 1 4 = S 20 := h14
  have h16 : I 1 6 = S 21 := h16
  have h18 : I 1 8 = S 23 := h18
  have h110 : I 1 10 = S 22 := h110
  have hr0 : I 2 0 = S 0 := hr0
  have hhr : I 2 1 = am_bits (sp_hp S) 6 := hhr
  have hhd : I 2 2 = am_bits (sp_dp S) 6 := hhd
  have hgl : ∀ m, m < (S 19).toNat → I 3 m = S (1 + m) := hgl
  have htp : ∀ i, i < (S 23).toNat → I 17 i = S (68 + i) := htp
  have hhn : ∀ i, i < (S 22).toNat → I 18 i = S (62 + i) := hhn
  have hbk : ∀ b, b < (S 20).toNat → I (6 + b) 0 = S (38 + b) ∧ I (6 + b) 1 = S (44 + b) ∧ I (6 + b) 2 = S (50 + b) ∧ I (6 + b) 3 = S (56 + b) := hbk
  have hlo : ∀ m b : Nat, m < (S 19).toNat → b < (S 20).toNat → I (20 + m) b = sp_like S m b ∧ I (27 + m) b = sp_odds S m b := hlo
  have hmem : c_mems D I ρ 4 S := hmem
  have hρc : ρ 1 5 = some c := hρc
  have hh := hh0
  have h19 := r_ok_19 hok
  have hokx := hok
  obtain ⟨o0, oG, oH, oD, o19, o20, o21, o22, o23, o24, oK, oV, oP, oM, oS, oY, oHd, oT, oC, oN⟩ := hok
  have hok := hokx
  refine am_e_ss 4 (q := (43, [(4, .inl (m : Int)), (2, .inr (.inl lo)), (1, .inl b), (0, .inr (.inr (.inl (some 0))))], [.inl ((I 1 2)), .inl (m : Int)], (am_mm D I J ρ))) rfl ?_
  refine am_e_icmp2 rfl ⟨by omega, by omega⟩ ⟨by omega, by omega⟩ (fun (hw1 : (I 1 2) ≤ (m : Int)) => ?_) (fun (hw1 : ¬ ((I 1 2) ≤ (m : Int))) => ?_)
  · show am_E _ _ _ 152 [(4, .inl (m : Int)), (2, .inr (.inl lo)), (1, .inl b), (0, .inr (.inr (.inl (some 0))))] [] (am_mm D I J ρ) _
    refine am_e_ss 1 (q := (153, [(4, .inl (m : Int)), (2, .inr (.inl lo)), (1, .inl b), (0, .inr (.inr (.inl (some 0))))], [.inr (.inl lo)], (am_mm D I J ρ))) rfl ?_
    refine am_e_lreturn rfl rfl ?_
    have em : m = (S 19).toNat := by omega
    rw [hlw, em]
    rw [em] at hw
    exact ⟨J, by rw [← am_wp_of am_k_id], hw⟩
  · show am_E _ _ _ 46 [(4, .inl (m : Int)), (2, .inr (.inl lo)), (1, .inl b), (0, .inr (.inr (.inl (some 0))))] [] (am_mm D I J ρ) _
    refine am_e_ss 4 (q := (55, [(4, .inl (m : Int)), (2, .inr (.inl lo)), (1, .inl b), (0, .inr (.inr (.inl (some 0))))], [.inl (m : Int), .inr (.inr (.inl (some 2)))], (am_mm D I J ρ))) rfl ?_
    refine am_e_virtual (Q := fun r => r = (some (.inl ((am_bi (sp_hp S ((m : Int)).toNat = true)))), (am_mm D I J ρ))) rfl rfl (Nat.le_of_ble_eq_true rfl) rfl rfl (Nat.le_of_ble_eq_true rfl) (Nat.le_of_ble_eq_true rfl) (c_isHereI_2 _ (p := sp_hp S) hhr ⟨by omega, by omega⟩) ?_
    rintro r rfl
    show am_E _ _ _ 58 [(4, .inl (m : Int)), (2, .inr (.inl lo)), (1, .inl b), (0, .inr (.inr (.inl (some 0))))] [.inl ((am_bi (sp_hp S ((m : Int)).toNat = true)))] (am_mm D I J ρ) _
    refine am_e_ifeq rfl (fun hw2 => ?_) (fun hw2 => ?_)
    · show am_E _ _ _ 146 [(4, .inl (m : Int)), (2, .inr (.inl lo)), (1, .inl b), (0, .inr (.inr (.inl (some 0))))] [] (am_mm D I J ρ) _
      refine am_e_ss 2 (q := (34, [(4, .inl ((m : Int) + 1)), (2, .inr (.inl lo)), (1, .inl b), (0, .inr (.inr (.inl (some 0))))], [], (am_mm D I J ρ))) rfl ?_
      have hz : ¬ S (7 + m) = 0 := fun h => absurd ((sp_hp_t (S := S) (m := m)).mpr ⟨by omega, h⟩) (by assumption)
      have hall : ∀ i, i < 7 → J 100 i = sp_wy S b (m + 1) i := by
        intro i hi
        unfold sp_wy
        rw [if_neg hz]
        exact hw i hi
      have elo : lo = sp_low S (m + 1) := by unfold sp_low; rw [if_neg hz]; exact hlw
      refine (am_less (lv := [(4, .inl ((m + 1) : Int)), (2, .inr (.inl lo)), (1, .inl b), (0, .inr (.inr (.inl (some 0))))]) rfl (List.forall_mem_cons.mpr ⟨rfl, List.forall_mem_cons.mpr ⟨rfl, List.forall_mem_cons.mpr ⟨rfl, List.forall_mem_cons.mpr ⟨rfl, List.forall_mem_nil _⟩⟩⟩⟩) (c_sc_2 d (m := m + 1) (lo := lo) hok hwf hh hb (by omega) hall elo)).imp ?_
      rintro r ⟨W9, rfl, h9⟩
      exact ⟨W9, am_r_wkJ u100 am_k_id, h9⟩
    · show am_E _ _ _ 61 [(4, .inl (m : Int)), (2, .inr (.inl lo)), (1, .inl b), (0, .inr (.inr (.inl (some 0))))] [] (am_mm D I J ρ) _
      refine am_e_ss 4 (q := (70, [(4, .inl (m : Int)), (2, .inr (.inl lo)), (1, .inl b), (0, .inr (.inr (.inl (some 0))))], [.inl (m : Int), .inr (.inr (.inl (some 26)))], (am_mm D I J ρ))) rfl ?_
      refine am_e_aaload (m := 6) (c := 23) rfl rfl (by decide) (by omega) (by omega) (by omega) ?_
      rw [show ((am_mm D I J ρ)).2.2.2 26 ((m : Int)).toNat = some (27 + m) from (am_r26 (ρ := ρ) (by omega))]
      show am_E _ _ _ 71 [(4, .inl (m : Int)), (2, .inr (.inl lo)), (1, .inl b), (0, .inr (.inr (.inl (some 0))))] [.inr (.inr (.inl (some (27 + m))))] (am_mm D I J ρ) _
      refine am_e_ss 1 (q := (72, [(4, .inl (m : Int)), (2, .inr (.inl lo)), (1, .inl b), (0, .inr (.inr (.inl (some 0))))], [.inl b, .inr (.inr (.inl (some (27 + m))))], (am_mm D I J ρ))) rfl ?_
      refine am_e_iaload (m := 6) rfl (am_k27 (by omega)) (by omega) (by omega) (by omega) ?_
      show am_E _ _ _ 73 [(4, .inl (m : Int)), (2, .inr (.inl lo)), (1, .inl b), (0, .inr (.inr (.inl (some 0))))] [.inl ((I (27 + m) (b).toNat))] (am_mm D I J ρ) _
      refine am_e_ss 3 (q := (79, [(6, .inl 6), (5, .inl ((I (27 + m) (b).toNat))), (4, .inl (m : Int)), (2, .inr (.inl lo)), (1, .inl b), (0, .inr (.inr (.inl (some 0))))], [], (am_mm D I J ρ))) rfl ?_
      have hz : S (7 + m) = 0 := ((sp_hp_t (S := S) (m := m)).mp (by assumption)).2
      have hl := (hlo m (b).toNat (by omega) (by omega)).2
      rw [show ((b.toNat : Nat) : Int) = b by omega] at hl
      have pb := sp_odds_b S m b
      refine am_less (lv := [(6, .inl 6), (5, .inl ((I (27 + m) (b).toNat))), (4, .inl (m : Int)), (2, .inr (.inl lo)), (1, .inl b), (0, .inr (.inr (.inl (some 0))))]) rfl (List.forall_mem_cons.mpr ⟨rfl, List.forall_mem_cons.mpr ⟨rfl, List.forall_mem_cons.mpr ⟨rfl, List.forall_mem_cons.mpr ⟨rfl, List.forall_mem_cons.mpr ⟨rfl, List.forall_mem_cons.mpr ⟨rfl, List.forall_mem_nil _⟩⟩⟩⟩⟩⟩) (c_sc_in (d + 1) (e := 6) (p := (I (27 + m) (b).toNat)) (jn := 7) (w := sp_wy S b m) (by omega) (by omega) (fun i h1 h2 => by omega) hw ?_)
      intro L hL hwL
      have hall : ∀ i, i < 7 → L 100 i = sp_wy S b (m + 1) i := by
        intro i hi
        have := hwL i hi
        rw [hl] at this
        unfold sp_wy
        rw [if_pos hz]
        exact this
      have elo : lo * 10 = sp_low S (m + 1) := by unfold sp_low; rw [if_pos hz, ← hlw]
      refine am_e_ss 6 (q := (34, [(4, .inl ((m : Int) + 1)), (2, .inr (.inl (lo * (10)))), (1, .inl b), (0, .inr (.inr (.inl (some 0))))], [], (am_mm D I L ρ))) rfl ?_
      refine (am_less (lv := [(4, .inl ((m + 1) : Int)), (2, .inr (.inl (lo * (10)))), (1, .inl b), (0, .inr (.inr (.inl (some 0))))]) rfl (List.forall_mem_cons.mpr ⟨rfl, List.forall_mem_cons.mpr ⟨rfl, List.forall_mem_cons.mpr ⟨rfl, List.forall_mem_cons.mpr ⟨rfl, List.forall_mem_nil _⟩⟩⟩⟩) (c_sc_2 (J := L) d (m := m + 1) (lo := (lo * (10))) hok hwf hh hb (by omega) hall elo)).imp ?_
      rintro r ⟨W9, rfl, h9⟩
      exact ⟨W9, am_r_wkJ u100 hL, h9⟩
termination_by (S 19).toNat - m
decreasing_by all_goals omega
theorem c_sc_1 {X : Nat × (Nat → Int)} {D : List (Nat × Nat)} {I J : Nat → Nat → Int} {ρ : Nat → Nat → Option Nat} (d : Nat) {S : Nat → Int} {B : Int} (hok : r_ok S B) (hwf : sp_wfS S) (hh : c_hall D I ρ 0 S) {b : Int} (hb : 0 ≤ b ∧ b < S 20) {j : Nat} (hj : j ≤ 7) (hw : ∀ i, i < j → J 100 i = (if i = 0 then 1 else 0)) : am_E X (d + 1) 105 2 [(2, .inl (j : Int)), (1, .inl b), (0, .inr (.inr (.inl (some 0))))] [] (am_mm D I J ρ) (fun z => ∃ W, z = (some (.inr (.inl (sp_low S (S 19).toNat))), am_mm D I (am_wp u100 J W) ρ) ∧ ∀ i, i < 7 → W 100 i = sp_wy S b (S 19).toNat i) := by
  have h19 := r_ok_19 hok
  refine am_e_ss 2 (q := (5, [(2, .inl (j : Int)), (1, .inl b), (0, .inr (.inr (.inl (some 0))))], [.inl 6, .inl (j : Int)], (am_mm D I J ρ))) rfl ?_
  refine am_e_icmp2 rfl ⟨by omega, by omega⟩ ⟨by omega, by omega⟩ (fun (hw1 : 6 < (j : Int)) => ?_) (fun (hw1 : ¬ (6 < (j : Int))) => ?_)
  · show am_E _ _ _ 29 [(2, .inl (j : Int)), (1, .inl b), (0, .inr (.inr (.inl (some 0))))] [] (am_mm D I J ρ) _
    refine am_e_ss 4 (q := (34, [(4, .inl 0), (2, .inr (.inl 1)), (1, .inl b), (0, .inr (.inr (.inl (some 0))))], [], (am_mm D I J ρ))) rfl ?_
    refine (am_less (lv := [(4, .inl (0 : Int)), (2, .inr (.inl 1)), (1, .inl b), (0, .inr (.inr (.inl (some 0))))]) rfl (List.forall_mem_cons.mpr ⟨rfl, List.forall_mem_cons.mpr ⟨rfl, List.forall_mem_cons.mpr ⟨rfl, List.forall_mem_cons.mpr ⟨rfl, List.forall_mem_nil _⟩⟩⟩⟩) (c_sc_2 d (m := 0) (lo := 1) hok hwf hh hb (by omega) (fun i hi => hw i (by omega)) rfl)).imp ?_
    rintro r ⟨W9, rfl, h9⟩
    exact ⟨W9, am_r_wkJ u100 am_k_id, h9⟩
  · show am_E _ _ _ 8 [(2, .inl (j : Int)), (1, .inl b), (0, .inr (.inr (.inl (some 0))))] [] (am_mm D I J ρ) _
    refine am_e_ss 4 (q := (14, [(2, .inl (j : Int)), (1, .inl b), (0, .inr (.inr (.inl (some 0))))], [.inl (j : Int), .inl (j : Int), .inr (.inr (.inl (some 100)))], (am_mm D I J ρ))) rfl ?_
    refine am_e_if2 rfl ⟨by omega, by omega⟩ (fun (hw2 : ¬ (j : Int) = 0) => ?_) (fun (hw2 : ¬ (¬ (j : Int) = 0)) => ?_)
    · show am_E _ _ _ 21 [(2, .inl (j : Int)), (1, .inl b), (0, .inr (.inr (.inl (some 0))))] [.inl (j : Int), .inr (.inr (.inl (some 100)))] (am_mm D I J ρ) _
      refine am_e_ss 1 (q := (22, [(2, .inl (j : Int)), (1, .inl b), (0, .inr (.inr (.inl (some 0))))], [.inr (.inl 0), .inl (j : Int), .inr (.inr (.inl (some 100)))], (am_mm D I J ρ))) rfl ?_
      refine am_e_lastore (m := 7) rfl rfl (by omega) (by omega) (by omega) ?_
      show am_E _ _ _ 23 [(2, .inl (j : Int)), (1, .inl b), (0, .inr (.inr (.inl (some 0))))] [] (am_mm D I (am_up J 100 j 0) ρ) _
      refine am_e_ss 2 (q := (2, [(2, .inl ((j : Int) + 1)), (1, .inl b), (0, .inr (.inr (.inl (some 0))))], [], (am_mm D I (am_up J 100 j 0) ρ))) rfl ?_
      have e9 : ∀ i, i < j + 1 → (am_up J 100 j 0) 100 i = (if i = 0 then 1 else 0) := by
        intro i hi
        by_cases e : i = j
        · subst e; refine am_up_at2.trans ?_; (split <;> omega)
        · exact (am_up_ne2 (by omega)).trans (hw i (by omega))
      refine (am_less (lv := [(2, .inl ((j + 1) : Int)), (1, .inl b), (0, .inr (.inr (.inl (some 0))))]) rfl (List.forall_mem_cons.mpr ⟨rfl, List.forall_mem_cons.mpr ⟨rfl, List.forall_mem_cons.mpr ⟨rfl, List.forall_mem_nil _⟩⟩⟩) (c_sc_1 d (j := j + 1) hok hwf hh hb (by omega) e9)).imp ?_
      rintro r ⟨W9, rfl, h9⟩
      exact ⟨W9, am_r_wkJ u100 (am_k_up rfl am_k_id), h9⟩
    · show am_E _ _ _ 17 [(2, .inl (j : Int)), (1, .inl b), (0, .inr (.inr (.inl (some 0))))] [.inl (j : Int), .inr (.inr (.inl (some 100)))] (am_mm D I J ρ) _
      refine am_e_ss 2 (q := (22, [(2, .inl (j : Int)), (1, .inl b), (0, .inr (.inr (.inl (some 0))))], [.inr (.inl 1), .inl (j : Int), .inr (.inr (.inl (some 100)))], (am_mm D I J ρ))) rfl ?_
      refine am_e_lastore (m := 7) rfl rfl (by omega) (by omega) (by omega) ?_
      show am_E _ _ _ 23 [(2, .inl (j : Int)), (1, .inl b), (0, .inr (.inr (.inl (some 0))))] [] (am_mm D I (am_up J 100 j 1) ρ) _
      refine am_e_ss 2 (q := (2, [(2, .inl ((j : Int) + 1)), (1, .inl b), (0, .inr (.inr (.inl (some 0))))], [], (am_mm D I (am_up J 100 j 1) ρ))) rfl ?_
      have e9 : ∀ i, i < j + 1 → (am_up J 100 j 1) 100 i = (if i = 0 then 1 else 0) := by
        intro i hi
        by_cases e : i = j
        · subst e; refine am_up_at2.trans ?_; (split <;> omega)
        · exact (am_up_ne2 (by omega)).trans (hw i (by omega))
      refine (am_less (lv := [(2, .inl ((j + 1) : Int)), (1, .inl b), (0, .inr (.inr (.inl (some 0))))]) rfl (List.forall_mem_cons.mpr ⟨rfl, List.forall_mem_cons.mpr ⟨rfl, List.forall_mem_cons.mpr ⟨rfl, List.forall_mem_nil _⟩⟩⟩) (c_sc_1 d (j := j + 1) hok hwf hh hb (by omega) e9)).imp ?_
      rintro r ⟨W9, rfl, h9⟩
      exact ⟨W9, am_r_wkJ u100 (am_k_up rfl am_k_id), h9⟩
termination_by 7 - j
decreasing_by all_goals omega
theorem c_sc {X : Nat × (Nat → Int)} {D : List (Nat × Nat)} {I J : Nat → Nat → Int} {ρ : Nat → Nat → Option Nat} (d : Nat) {S : Nat → Int} {B : Int} (hok : r_ok S B) (hwf : sp_wfS S) (hh : c_hall D I ρ 0 S) {b : Int} (hb : 0 ≤ b ∧ b < S 20)  : am_E X (d + 1) 105 0 [(0, .inr (.inr (.inl (some 0)))), (1, .inl b)] [] (am_mm D I J ρ) (fun z => ∃ W, z = (some (.inr (.inl (sp_low S (S 19).toNat))), am_mm D I (am_wp u100 J W) ρ) ∧ ∀ i, i < 7 → W 100 i = sp_wy S b (S 19).toNat i) := by
  refine am_e_ss 2 (q := (2, [(2, .inl 0), (0, .inr (.inr (.inl (some 0)))), (1, .inl b)], [], (am_mm D I J ρ))) rfl ?_
  refine (am_less (lv := [(2, .inl (0 : Int)), (1, .inl b), (0, .inr (.inr (.inl (some 0))))]) rfl (List.forall_mem_cons.mpr ⟨rfl, List.forall_mem_cons.mpr ⟨rfl, List.forall_mem_cons.mpr ⟨rfl, List.forall_mem_nil _⟩⟩⟩) (c_sc_1 d (j := 0) hok hwf hh hb (by omega) (fun i hi => by omega))).imp ?_
  rintro r ⟨W9, rfl, h9⟩
  exact ⟨W9, am_r_wkJ u100 am_k_id, h9⟩
theorem c_en_4 {X : Nat × (Nat → Int)} {D : List (Nat × Nat)} {I J : Nat → Nat → Int} {ρ : Nat → Nat → Option Nat} (d : Nat) {S : Nat → Int} {B b k part : Int} (hok : r_ok S B) (hb : 0 ≤ b ∧ b < S 20) (hk : 0 ≤ k ∧ k ≤ 6) (hpart : part = 0 ∨ part = 1) {u : Int} {j : Nat} (hj : k ≤ (j : Int) ∧ j ≤ 7) (hu : u = sp_upk (sp_wy S b (S 19).toNat) k.toNat (j - k.toNat)) (hw : ∀ i, i < 7 → J 100 i = (sp_wy S b (S 19).toNat) i) : am_E X (d + 1) 104 44 [(8, .inl (j : Int)), (6, .inr (.inl u)), (4, .inr (.inl (sp_low S (S 19).toNat))), (3, .inl part), (2, .inl k), (0, .inr (.inr (.inl (some 0))))] [] (am_mm D I J ρ) (fun z => ∃ W, z = (some (.inr (.inl (sp_enough S b k part))), am_mm D I (am_wp u100 J W) ρ)) := by
  have h19 := r_ok_19 hok
  have hlb := sp_low_6 (S := S) (m := (S 19).toNat) (by omega)
  have hgp : 0 < Nat.gcd u.toNat (sp_low S (S 19).toNat).toNat := Nat.gcd_pos_of_pos_right _ (by omega)
  have hgl : Nat.gcd u.toNat (sp_low S (S 19).toNat).toNat ≤ (sp_low S (S 19).toNat).toNat := Nat.gcd_le_right _ (by omega)
  refine am_e_ss 2 (q := (48, [(8, .inl (j : Int)), (6, .inr (.inl u)), (4, .inr (.inl (sp_low S (S 19).toNat))), (3, .inl part), (2, .inl k), (0, .inr (.inr (.inl (some 0))))], [.inl 6, .inl (j : Int)], (am_mm D I J ρ))) rfl ?_
  refine am_e_icmp2 rfl ⟨by omega, by omega⟩ ⟨by omega, by omega⟩ (fun (hw1 : 6 < (j : Int)) => ?_) (fun (hw1 : ¬ (6 < (j : Int))) => ?_)
  · show am_E _ _ _ 69 [(8, .inl (j : Int)), (6, .inr (.inl u)), (4, .inr (.inl (sp_low S (S 19).toNat))), (3, .inl part), (2, .inl k), (0, .inr (.inr (.inl (some 0))))] [] (am_mm D I J ρ) _
    have hub : 0 ≤ u ∧ u ≤ sp_low S (S 19).toNat := by
      rw [hu, show j = 7 by omega]
      exact sp_up_b (by omega)
    refine am_e_ss 2 (q := (73, [(8, .inl (j : Int)), (6, .inr (.inl u)), (4, .inr (.inl (sp_low S (S 19).toNat))), (3, .inl part), (2, .inl k), (0, .inr (.inr (.inl (some 0))))], [.inr (.inl (sp_low S (S 19).toNat)), .inr (.inl u)], (am_mm D I J ρ))) rfl ?_
    refine am_e_static (Q := fun r => r = (some (.inr (.inl ((Nat.gcd (u).toNat ((sp_low S (S 19).toNat)).toNat : Nat) : Int))), (am_mm D I J ρ))) rfl (Nat.le_of_ble_eq_true rfl) rfl (Nat.le_of_ble_eq_true rfl) (Nat.le_of_ble_eq_true rfl) (c_cdI _ (up := u) (low := (sp_low S (S 19).toNat)) ⟨by omega, by omega⟩ ⟨by omega, by omega⟩) ?_
    rintro r rfl
    show am_E _ _ _ 76 [(8, .inl (j : Int)), (6, .inr (.inl u)), (4, .inr (.inl (sp_low S (S 19).toNat))), (3, .inl part), (2, .inl k), (0, .inr (.inr (.inl (some 0))))] [.inr (.inl ((Nat.gcd (u).toNat ((sp_low S (S 19).toNat)).toNat : Nat) : Int))] (am_mm D I J ρ) _
    refine am_e_ss 3 (q := (81, [(8, .inr (.inl ((Nat.gcd (u).toNat ((sp_low S (S 19).toNat)).toNat : Nat) : Int))), (6, .inr (.inl u)), (4, .inr (.inl (sp_low S (S 19).toNat))), (3, .inl part), (2, .inl k), (0, .inr (.inr (.inl (some 0))))], [.inr (.inl 0), .inr (.inl ((Nat.gcd (u).toNat ((sp_low S (S 19).toNat)).toNat : Nat) : Int))], (am_mm D I J ρ))) rfl ?_
    refine am_e_lcmp rfl ⟨by omega, by omega⟩ ⟨by omega, by omega⟩ ?_
    show am_E _ _ _ 82 [(8, .inr (.inl ((Nat.gcd (u).toNat ((sp_low S (S 19).toNat)).toNat : Nat) : Int))), (6, .inr (.inl u)), (4, .inr (.inl (sp_low S (S 19).toNat))), (3, .inl part), (2, .inl k), (0, .inr (.inr (.inl (some 0))))] [.inl ((am_sg3 ((Nat.gcd (u).toNat ((sp_low S (S 19).toNat)).toNat : Nat) : Int) 0))] (am_mm D I J ρ) _
    have c32 := am_sg3_p ((Nat.gcd (u).toNat ((sp_low S (S 19).toNat)).toNat : Nat) : Int) 0
    refine am_e_if2 rfl ⟨by omega, by omega⟩ (fun (hw3 : 0 < (am_sg3 ((Nat.gcd (u).toNat ((sp_low S (S 19).toNat)).toNat : Nat) : Int) 0)) => ?_) (fun (hw3 : ¬ (0 < (am_sg3 ((Nat.gcd (u).toNat ((sp_low S (S 19).toNat)).toNat : Nat) : Int) 0))) => ?_)
    · show am_E _ _ _ 89 [(8, .inr (.inl ((Nat.gcd (u).toNat ((sp_low S (S 19).toNat)).toNat : Nat) : Int))), (6, .inr (.inl u)), (4, .inr (.inl (sp_low S (S 19).toNat))), (3, .inl part), (2, .inl k), (0, .inr (.inr (.inl (some 0))))] [] (am_mm D I J ρ) _
      refine am_e_ss 1 (q := (90, [(8, .inr (.inl ((Nat.gcd (u).toNat ((sp_low S (S 19).toNat)).toNat : Nat) : Int))), (6, .inr (.inl u)), (4, .inr (.inl (sp_low S (S 19).toNat))), (3, .inl part), (2, .inl k), (0, .inr (.inr (.inl (some 0))))], [.inl part], (am_mm D I J ρ))) rfl ?_
      refine am_e_if2 rfl ⟨by omega, by omega⟩ (fun (hw4 : ¬ part = 0) => ?_) (fun (hw4 : ¬ (¬ part = 0)) => ?_)
      · show am_E _ _ _ 98 [(8, .inr (.inl ((Nat.gcd (u).toNat ((sp_low S (S 19).toNat)).toNat : Nat) : Int))), (6, .inr (.inl u)), (4, .inr (.inl (sp_low S (S 19).toNat))), (3, .inl part), (2, .inl k), (0, .inr (.inr (.inl (some 0))))] [] (am_mm D I J ρ) _
        refine am_e_ss 2 (q := (102, [(8, .inr (.inl ((Nat.gcd (u).toNat ((sp_low S (S 19).toNat)).toNat : Nat) : Int))), (6, .inr (.inl u)), (4, .inr (.inl (sp_low S (S 19).toNat))), (3, .inl part), (2, .inl k), (0, .inr (.inr (.inl (some 0))))], [.inr (.inl ((Nat.gcd (u).toNat ((sp_low S (S 19).toNat)).toNat : Nat) : Int)), .inr (.inl (sp_low S (S 19).toNat))], (am_mm D I J ρ))) rfl ?_
        refine am_e_ldivp rfl ⟨by omega, by omega⟩ ⟨by omega, by omega⟩ ?_
        show am_E _ _ _ 103 [(8, .inr (.inl ((Nat.gcd (u).toNat ((sp_low S (S 19).toNat)).toNat : Nat) : Int))), (6, .inr (.inl u)), (4, .inr (.inl (sp_low S (S 19).toNat))), (3, .inl part), (2, .inl k), (0, .inr (.inr (.inl (some 0))))] [.inr (.inl ((sp_low S (S 19).toNat) / ((Nat.gcd (u).toNat ((sp_low S (S 19).toNat)).toNat : Nat) : Int)))] (am_mm D I J ρ) _
        refine am_e_lreturn rfl rfl ?_
        rw [show sp_enough S b k part = ((sp_low S (S 19).toNat) / ((Nat.gcd (u).toNat ((sp_low S (S 19).toNat)).toNat : Nat) : Int)) by
          rw [hu, show j = 7 by omega]
          unfold sp_enough
          rw [if_neg (by omega), if_neg (by omega), if_neg (by omega)]
          unfold sp_frac
          rw [if_neg (by omega)]
          rfl]
        exact ⟨J, by rw [← am_wp_of am_k_id]⟩
      · show am_E _ _ _ 93 [(8, .inr (.inl ((Nat.gcd (u).toNat ((sp_low S (S 19).toNat)).toNat : Nat) : Int))), (6, .inr (.inl u)), (4, .inr (.inl (sp_low S (S 19).toNat))), (3, .inl part), (2, .inl k), (0, .inr (.inr (.inl (some 0))))] [] (am_mm D I J ρ) _
        refine am_e_ss 3 (q := (102, [(8, .inr (.inl ((Nat.gcd (u).toNat ((sp_low S (S 19).toNat)).toNat : Nat) : Int))), (6, .inr (.inl u)), (4, .inr (.inl (sp_low S (S 19).toNat))), (3, .inl part), (2, .inl k), (0, .inr (.inr (.inl (some 0))))], [.inr (.inl ((Nat.gcd (u).toNat ((sp_low S (S 19).toNat)).toNat : Nat) : Int)), .inr (.inl u)], (am_mm D I J ρ))) rfl ?_
        refine am_e_ldivp rfl ⟨by omega, by omega⟩ ⟨by omega, by omega⟩ ?_
        show am_E _ _ _ 103 [(8, .inr (.inl ((Nat.gcd (u).toNat ((sp_low S (S 19).toNat)).toNat : Nat) : Int))), (6, .inr (.inl u)), (4, .inr (.inl (sp_low S (S 19).toNat))), (3, .inl part), (2, .inl k), (0, .inr (.inr (.inl (some 0))))] [.inr (.inl (u / ((Nat.gcd (u).toNat ((sp_low S (S 19).toNat)).toNat : Nat) : Int)))] (am_mm D I J ρ) _
        refine am_e_lreturn rfl rfl ?_
        rw [show sp_enough S b k part = (u / ((Nat.gcd (u).toNat ((sp_low S (S 19).toNat)).toNat : Nat) : Int)) by
          rw [hu, show j = 7 by omega]
          unfold sp_enough
          rw [if_neg (by omega), if_neg (by omega), if_neg (by omega)]
          unfold sp_frac
          rw [if_pos (by omega)]
          rfl]
        exact ⟨J, by rw [← am_wp_of am_k_id]⟩
    · show am_E _ _ _ 85 [(8, .inr (.inl ((Nat.gcd (u).toNat ((sp_low S (S 19).toNat)).toNat : Nat) : Int))), (6, .inr (.inl u)), (4, .inr (.inl (sp_low S (S 19).toNat))), (3, .inl part), (2, .inl k), (0, .inr (.inr (.inl (some 0))))] [] (am_mm D I J ρ) _
      refine am_e_ss 1 (q := (88, [(8, .inr (.inl ((Nat.gcd (u).toNat ((sp_low S (S 19).toNat)).toNat : Nat) : Int))), (6, .inr (.inl u)), (4, .inr (.inl (sp_low S (S 19).toNat))), (3, .inl part), (2, .inl k), (0, .inr (.inr (.inl (some 0))))], [.inr (.inl (-9223372036854775808))], (am_mm D I J ρ))) rfl ?_
      refine am_e_lreturn rfl rfl ?_
      exfalso
      omega
  · show am_E _ _ _ 51 [(8, .inl (j : Int)), (6, .inr (.inl u)), (4, .inr (.inl (sp_low S (S 19).toNat))), (3, .inl part), (2, .inl k), (0, .inr (.inr (.inl (some 0))))] [] (am_mm D I J ρ) _
    refine am_e_ss 4 (q := (59, [(8, .inl (j : Int)), (6, .inr (.inl u)), (4, .inr (.inl (sp_low S (S 19).toNat))), (3, .inl part), (2, .inl k), (0, .inr (.inr (.inl (some 0))))], [.inl (j : Int), .inr (.inr (.inl (some 100))), .inr (.inl u)], (am_mm D I J ρ))) rfl ?_
    refine am_e_laload (m := 7) rfl rfl (by omega) (by omega) (by omega) ?_
    show am_E _ _ _ 60 [(8, .inl (j : Int)), (6, .inr (.inl u)), (4, .inr (.inl (sp_low S (S 19).toNat))), (3, .inl part), (2, .inl k), (0, .inr (.inr (.inl (some 0))))] [.inr (.inl (J 100 j)), .inr (.inl u)] (am_mm D I J ρ) _
    refine am_e_ss 4 (q := (44, [(8, .inl ((j : Int) + 1)), (6, .inr (.inl (u + (J 100 j)))), (4, .inr (.inl (sp_low S (S 19).toNat))), (3, .inl part), (2, .inl k), (0, .inr (.inr (.inl (some 0))))], [], (am_mm D I J ρ))) rfl ?_
    have e9 : (u + (J 100 j)) = sp_upk (sp_wy S b (S 19).toNat) k.toNat (j + 1 - k.toNat) := by
      rw [show j + 1 - k.toNat = (j - k.toNat) + 1 by omega]
      show _ = sp_upk (sp_wy S b (S 19).toNat) k.toNat (j - k.toNat) + (sp_wy S b (S 19).toNat) (k.toNat + (j - k.toNat))
      rw [← hu, show k.toNat + (j - k.toNat) = j by omega, hw j (by omega)]
    refine (am_less (lv := [(8, .inl ((j + 1) : Int)), (6, .inr (.inl (u + (J 100 j)))), (4, .inr (.inl (sp_low S (S 19).toNat))), (3, .inl part), (2, .inl k), (0, .inr (.inr (.inl (some 0))))]) rfl (List.forall_mem_cons.mpr ⟨rfl, List.forall_mem_cons.mpr ⟨rfl, List.forall_mem_cons.mpr ⟨rfl, List.forall_mem_cons.mpr ⟨rfl, List.forall_mem_cons.mpr ⟨rfl, List.forall_mem_cons.mpr ⟨rfl, List.forall_mem_nil _⟩⟩⟩⟩⟩⟩) (c_en_4 d (j := j + 1) (k := k) hok hb hk hpart (by omega) e9 hw)).imp ?_
    rintro r ⟨W9, rfl⟩
    exact ⟨W9, am_r_wkJ u100 am_k_id⟩
termination_by 7 - j
decreasing_by all_goals omega
theorem c_enough {X : Nat × (Nat → Int)} {D : List (Nat × Nat)} {I J : Nat → Nat → Int} {ρ : Nat → Nat → Option Nat} (d : Nat) {S : Nat → Int} {B : Int} (hok : r_ok S B) (hwf : sp_wfS S) (hh : c_hall D I ρ 0 S) {b k part : Int} (hb : -2147483648 ≤ b ∧ b < 2147483648) (hk : -2147483648 ≤ k ∧ k < 2147483648) (hpart : -2147483648 ≤ part ∧ part < 2147483648) : am_E X (d + 2) 104 0 [(0, .inr (.inr (.inl (some 0)))), (1, .inl b), (2, .inl k), (3, .inl part)] [] (am_mm D I J ρ) (fun z => ∃ W, z = (some (.inr (.inl (sp_enough S b k part))), am_mm D I (am_wp u100 J W) ρ)) := by
  have hh0 := hh
  obtain ⟨⟨h12, h14, h16, h18, h110⟩, ⟨hr0, hhr, hhd, hgl⟩, ⟨htp, hhn⟩, hbk, hlo, hmem, c, hρc, ⟨hsc0, hcc, hc0, hcs⟩⟩ := hh
  have hsc : (am_S ++ D)[c]? = some (1, 10) := hsc0.1.1
  have h12 : I 1 2 = S 19 := h12
  have h14 : I 1 4 = S 20 := h14
  have h16 : I 1 6 = S 21 := h16
  have h18 : I 1 8 = S 23 := h18
  have h110 : I 1 10 = S 22 := h110
  have hr0 : I 2 0 = S 0 := hr0
  have hhr : I 2 1 = am_bits (sp_hp S) 6 := hhr
  have hhd : I 2 2 = am_bits (sp_dp S) 6 := hhd
  have hgl : ∀ m, m < (S 19).toNat → I 3 m = S (1 + m) := hgl
  have htp : ∀ i, i < (S 23).toNat → I 17 i = S (68 + i) := htp
  have hhn : ∀ i, i < (S 22).toNat → I 18 i = S (62 + i) := hhn
  have hbk : ∀ b, b < (S 20).toNat → I (6 + b) 0 = S (38 + b) ∧ I (6 + b) 1 = S (44 + b) ∧ I (6 + b) 2 = S (50 + b) ∧ I (6 + b) 3 = S (56 + b) := hbk
  have hlo : ∀ m b : Nat, m < (S 19).toNat → b < (S 20).toNat → I (20 + m) b = sp_like S m b ∧ I (27 + m) b = sp_odds S m b := hlo
  have hmem : c_mems D I ρ 4 S := hmem
  have hρc : ρ 1 5 = some c := hρc
  have hh := hh0
  have h19 := r_ok_19 hok
  have hokx := hok
  obtain ⟨o0, oG, oH, oD, o19, o20, o21, o22, o23, o24, oK, oV, oP, oM, oS, oY, oHd, oT, oC, oN⟩ := hok
  have hok := hokx
  refine am_e_ss 2 (q := (2, [(0, .inr (.inr (.inl (some 0)))), (1, .inl b), (2, .inl k), (3, .inl part)], [.inl b, .inr (.inr (.inl (some 0)))], (am_mm D I J ρ))) rfl ?_
  refine am_e_virtual (Q := fun r => r = (some (.inl ((am_bi (0 ≤ b ∧ b ≤ S 20 - 1)))), (am_mm D I J ρ))) rfl rfl (Nat.le_of_ble_eq_true rfl) rfl rfl (Nat.le_of_ble_eq_true rfl) (Nat.le_of_ble_eq_true rfl) (c_isBook _ (v := b) hok ⟨by omega, by omega⟩ h14) ?_
  rintro r rfl
  show am_E _ _ _ 5 [(0, .inr (.inr (.inl (some 0)))), (1, .inl b), (2, .inl k), (3, .inl part)] [.inl ((am_bi (0 ≤ b ∧ b ≤ S 20 - 1)))] (am_mm D I J ρ) _
  refine am_e_ifeq rfl (fun hw1 => ?_) (fun hw1 => ?_)
  · show am_E _ _ _ 27 [(0, .inr (.inr (.inl (some 0)))), (1, .inl b), (2, .inl k), (3, .inl part)] [] (am_mm D I J ρ) _
    refine am_e_ss 1 (q := (30, [(0, .inr (.inr (.inl (some 0)))), (1, .inl b), (2, .inl k), (3, .inl part)], [.inr (.inl (-9223372036854775808))], (am_mm D I J ρ))) rfl ?_
    refine am_e_lreturn rfl rfl ?_
    rw [show sp_enough S b k part = (-9223372036854775808) by (unfold sp_enough; (repeat' split) <;> first | rfl | (exfalso; omega))]
    exact ⟨J, by rw [← am_wp_of am_k_id]⟩
  · show am_E _ _ _ 8 [(0, .inr (.inr (.inl (some 0)))), (1, .inl b), (2, .inl k), (3, .inl part)] [] (am_mm D I J ρ) _
    refine am_e_ss 1 (q := (9, [(0, .inr (.inr (.inl (some 0)))), (1, .inl b), (2, .inl k), (3, .inl part)], [.inl k], (am_mm D I J ρ))) rfl ?_
    refine am_e_if2 rfl ⟨by omega, by omega⟩ (fun (hw2 : k < 0) => ?_) (fun (hw2 : ¬ (k < 0)) => ?_)
    · show am_E _ _ _ 27 [(0, .inr (.inr (.inl (some 0)))), (1, .inl b), (2, .inl k), (3, .inl part)] [] (am_mm D I J ρ) _
      refine am_e_ss 1 (q := (30, [(0, .inr (.inr (.inl (some 0)))), (1, .inl b), (2, .inl k), (3, .inl part)], [.inr (.inl (-9223372036854775808))], (am_mm D I J ρ))) rfl ?_
      refine am_e_lreturn rfl rfl ?_
      rw [show sp_enough S b k part = (-9223372036854775808) by (unfold sp_enough; (repeat' split) <;> first | rfl | (exfalso; omega))]
      exact ⟨J, by rw [← am_wp_of am_k_id]⟩
    · show am_E _ _ _ 12 [(0, .inr (.inr (.inl (some 0)))), (1, .inl b), (2, .inl k), (3, .inl part)] [] (am_mm D I J ρ) _
      refine am_e_ss 2 (q := (15, [(0, .inr (.inr (.inl (some 0)))), (1, .inl b), (2, .inl k), (3, .inl part)], [.inl 6, .inl k], (am_mm D I J ρ))) rfl ?_
      refine am_e_icmp2 rfl ⟨by omega, by omega⟩ ⟨by omega, by omega⟩ (fun (hw3 : 6 < k) => ?_) (fun (hw3 : ¬ (6 < k)) => ?_)
      · show am_E _ _ _ 27 [(0, .inr (.inr (.inl (some 0)))), (1, .inl b), (2, .inl k), (3, .inl part)] [] (am_mm D I J ρ) _
        refine am_e_ss 1 (q := (30, [(0, .inr (.inr (.inl (some 0)))), (1, .inl b), (2, .inl k), (3, .inl part)], [.inr (.inl (-9223372036854775808))], (am_mm D I J ρ))) rfl ?_
        refine am_e_lreturn rfl rfl ?_
        rw [show sp_enough S b k part = (-9223372036854775808) by (unfold sp_enough; (repeat' split) <;> first | rfl | (exfalso; omega))]
        exact ⟨J, by rw [← am_wp_of am_k_id]⟩
      · show am_E _ _ _ 18 [(0, .inr (.inr (.inl (some 0)))), (1, .inl b), (2, .inl k), (3, .inl part)] [] (am_mm D I J ρ) _
        refine am_e_ss 1 (q := (19, [(0, .inr (.inr (.inl (some 0)))), (1, .inl b), (2, .inl k), (3, .inl part)], [.inl part], (am_mm D I J ρ))) rfl ?_
        refine am_e_if2 rfl ⟨by omega, by omega⟩ (fun (hw4 : part < 0) => ?_) (fun (hw4 : ¬ (part < 0)) => ?_)
        · show am_E _ _ _ 27 [(0, .inr (.inr (.inl (some 0)))), (1, .inl b), (2, .inl k), (3, .inl part)] [] (am_mm D I J ρ) _
          refine am_e_ss 1 (q := (30, [(0, .inr (.inr (.inl (some 0)))), (1, .inl b), (2, .inl k), (3, .inl part)], [.inr (.inl (-9223372036854775808))], (am_mm D I J ρ))) rfl ?_
          refine am_e_lreturn rfl rfl ?_
          rw [show sp_enough S b k part = (-9223372036854775808) by (unfold sp_enough; (repeat' split) <;> first | rfl | (exfalso; omega))]
          exact ⟨J, by rw [← am_wp_of am_k_id]⟩
        · show am_E _ _ _ 22 [(0, .inr (.inr (.inl (some 0)))), (1, .inl b), (2, .inl k), (3, .inl part)] [] (am_mm D I J ρ) _
          refine am_e_ss 2 (q := (24, [(0, .inr (.inr (.inl (some 0)))), (1, .inl b), (2, .inl k), (3, .inl part)], [.inl 1, .inl part], (am_mm D I J ρ))) rfl ?_
          refine am_e_icmp2 rfl ⟨by omega, by omega⟩ ⟨by omega, by omega⟩ (fun (hw5 : part ≤ 1) => ?_) (fun (hw5 : ¬ (part ≤ 1)) => ?_)
          · show am_E _ _ _ 31 [(0, .inr (.inr (.inl (some 0)))), (1, .inl b), (2, .inl k), (3, .inl part)] [] (am_mm D I J ρ) _
            refine am_e_ss 2 (q := (33, [(0, .inr (.inr (.inl (some 0)))), (1, .inl b), (2, .inl k), (3, .inl part)], [.inl b, .inr (.inr (.inl (some 0)))], (am_mm D I J ρ))) rfl ?_
            refine am_e_virtual (Q := fun r => ∃ Q244, r = (some (.inr (.inl (sp_low S (S 19).toNat))), (am_mm D I (am_wp u100 J Q244) ρ)) ∧ ∀ i, i < 7 → Q244 100 i = sp_wy S b (S 19).toNat i) rfl rfl (Nat.le_of_ble_eq_true rfl) rfl rfl (Nat.le_of_ble_eq_true rfl) (Nat.le_of_ble_eq_true rfl) (c_sc _ hok hwf hh ⟨by omega, by omega⟩) ?_
            rintro r ⟨Q244, rfl, hw⟩
            show am_E _ _ _ 36 [(0, .inr (.inr (.inl (some 0)))), (1, .inl b), (2, .inl k), (3, .inl part)] [.inr (.inl (sp_low S (S 19).toNat))] (am_mm D I (am_wp u100 J Q244) ρ) _
            refine am_e_ss 5 (q := (44, [(8, .inl k), (6, .inr (.inl 0)), (4, .inr (.inl (sp_low S (S 19).toNat))), (0, .inr (.inr (.inl (some 0)))), (1, .inl b), (2, .inl k), (3, .inl part)], [], (am_mm D I (am_wp u100 J Q244) ρ))) rfl ?_
            obtain ⟨kn, rfl⟩ : ∃ kn : Nat, k = (kn : Int) := ⟨k.toNat, by omega⟩
            refine (am_less (lv := [(8, .inl (kn : Int)), (6, .inr (.inl 0)), (4, .inr (.inl (sp_low S (S 19).toNat))), (3, .inl part), (2, .inl (kn : Int)), (0, .inr (.inr (.inl (some 0))))]) rfl (List.forall_mem_cons.mpr ⟨rfl, List.forall_mem_cons.mpr ⟨rfl, List.forall_mem_cons.mpr ⟨rfl, List.forall_mem_cons.mpr ⟨rfl, List.forall_mem_cons.mpr ⟨rfl, List.forall_mem_cons.mpr ⟨rfl, List.forall_mem_nil _⟩⟩⟩⟩⟩⟩) (c_en_4 (J := am_wp u100 J Q244) (d + 1) (j := kn) (k := (kn : Int)) (u := 0) hok ⟨by omega, by omega⟩ ⟨by omega, by omega⟩ (by omega) (by omega) (by rw [show kn - (kn : Int).toNat = 0 by omega]; rfl) hw)).imp ?_
            rintro r ⟨W9, rfl⟩
            exact ⟨W9, am_r_wkJ u100 (am_k_wp am_k_sub am_k_id)⟩
          · show am_E _ _ _ 27 [(0, .inr (.inr (.inl (some 0)))), (1, .inl b), (2, .inl k), (3, .inl part)] [] (am_mm D I J ρ) _
            refine am_e_ss 1 (q := (30, [(0, .inr (.inr (.inl (some 0)))), (1, .inl b), (2, .inl k), (3, .inl part)], [.inr (.inl (-9223372036854775808))], (am_mm D I J ρ))) rfl ?_
            refine am_e_lreturn rfl rfl ?_
            rw [show sp_enough S b k part = (-9223372036854775808) by (unfold sp_enough; (repeat' split) <;> first | rfl | (exfalso; omega))]
            exact ⟨J, by rw [← am_wp_of am_k_id]⟩
