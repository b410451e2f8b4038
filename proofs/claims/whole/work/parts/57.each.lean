/-! THE CLASS: for each member -/
def uR : Nat → Nat → Bool := fun c i => Nat.beq c 74 || Nat.beq c 75 || Nat.beq c 76 || Nat.beq c 77 || Nat.beq c 78 || Nat.beq c 79
theorem uS_1 {m : Nat} (hm : m < 6) : ∀ c i, (fun c _ => Nat.beq c (81 + m)) c i = true → uS c i = true := by
  intro c i h
  have e : c = 81 + m := Nat.eq_of_beq_eq_true h
  subst e
  unfold uS
  simp
  omega
theorem uR_1 {m : Nat} (hm : m < 6) : ∀ c i, (fun c _ => Nat.beq c (74 + m)) c i = true → uR c i = true := by
  intro c i h
  have e : c = 74 + m := Nat.eq_of_beq_eq_true h
  subst e
  unfold uR
  simp
  omega
/-- a row of one set touched, the others not -/
theorem am_one {D : List (Nat × Nat)} {I J : Nat → Nat → Int} {ρ : Nat → Nat → Option Nat} {v : Option am_V} {P : (Nat → Int) → Prop} {q : am_R} {u : Nat → Nat → Bool} {b m : Nat} (hu : ∀ c i, (fun c _ => Nat.beq c (b + m)) c i = true → u c i = true) (h : ∃ Q, q = (v, am_mm D (am_wp (fun c _ => Nat.beq c (b + m)) I Q) J ρ) ∧ P (Q (b + m))) : ∃ Q, q = (v, am_mm D (am_wp u I Q) J ρ) ∧ P (Q (b + m)) ∧ ∀ j, j ≠ m → ∀ i, Q (b + j) i = I (b + j) i := by
  obtain ⟨Q, rfl, h⟩ := h
  refine ⟨_, am_r_wp u (am_k_wp hu am_k_id), ?_, ?_⟩
  · have e : am_wp (fun c _ => Nat.beq c (b + m)) I Q (b + m) = Q (b + m) := funext (fun i => am_wp_in (Nat.beq_refl _))
    rw [e]
    exact h
  · intro j hj i
    exact am_wp_off (am_beq_f (by omega))
theorem c_sortM {X : Nat × (Nat → Int)} {D : List (Nat × Nat)} {I J : Nat → Nat → Int} {ρ : Nat → Nat → Option Nat} (d : Nat) {m : Nat} {l : Nat → Int} {L : List Nat} (hm : m < 6) (hL : am_rowl (I 72) 0 L) (hc : I 71 3 = (L.length : Int)) (h6 : L.length ≤ 6) (hx6 : ∀ x ∈ L, x < 6) (hl : ∀ x ∈ L, I (20 + m) x = l x ∧ (-2147483648 ≤ l x ∧ l x < 2147483648)) : am_E X d 68 0 [(0, .inr (.inr (.inl (some 71)))), (1, .inr (.inr (.inl (some (20 + m))))), (2, .inr (.inr (.inl (some (74 + m)))))] [] (am_mm D I J ρ) (fun q => ∃ Q, q = (none, am_mm D (am_wp uR I Q) J ρ) ∧ am_rowl (Q (74 + m)) 0 (sp_isrt l L) ∧ ∀ j, j ≠ m → ∀ i, Q (74 + j) i = I (74 + j) i) := by
  refine am_E.imp ?_ (fun q h => am_one (b := 74) (P := fun R => am_rowl R 0 (sp_isrt l L)) (uR_1 hm) h)
  have h6m : m = 0 ∨ m = 1 ∨ m = 2 ∨ m = 3 ∨ m = 4 ∨ m = 5 := by omega
  rcases h6m with rfl | rfl | rfl | rfl | rfl | rfl
  · exact c_sort_0 d hL hc h6 hx6 hl
  · exact c_sort_1 d hL hc h6 hx6 hl
  · exact c_sort_2 d hL hc h6 hx6 hl
  · exact c_sort_3 d hL hc h6 hx6 hl
  · exact c_sort_4 d hL hc h6 hx6 hl
  · exact c_sort_5 d hL hc h6 hx6 hl
theorem c_tallyM {X : Nat × (Nat → Int)} {D : List (Nat × Nat)} {I J : Nat → Nat → Int} {ρ : Nat → Nat → Option Nat} (d : Nat) {m : Nat} {z : Int} {L : List Nat} (hm : m < 6) (hz : z = 1 ∨ z = -1) (h71 : I 71 3 = (L.length : Int)) (h6 : L.length ≤ 6) (hn : L.Nodup) (hx6 : ∀ x ∈ L, x < 6) (hrow : am_rowl (I (81 + m)) 0 L) : am_E X d 76 0 [(0, .inr (.inr (.inl (some 71)))), (1, .inr (.inr (.inl (some (81 + m))))), (2, .inl z)] [] (am_mm D I J ρ) (fun q => ∃ Q, q = (none, am_mm D (am_wp uT I Q) J ρ) ∧ c_talQ I Q z L) := by
  have h6m : m = 0 ∨ m = 1 ∨ m = 2 ∨ m = 3 ∨ m = 4 ∨ m = 5 := by omega
  rcases h6m with rfl | rfl | rfl | rfl | rfl | rfl
  · exact c_tally_81 d hz h71 h6 hn hx6 hrow
  · exact c_tally_82 d hz h71 h6 hn hx6 hrow
  · exact c_tally_83 d hz h71 h6 hn hx6 hrow
  · exact c_tally_84 d hz h71 h6 hn hx6 hrow
  · exact c_tally_85 d hz h71 h6 hn hx6 hrow
  · exact c_tally_86 d hz h71 h6 hn hx6 hrow
theorem c_hear {X : Nat × (Nat → Int)} {D : List (Nat × Nat)} {I J : Nat → Nat → Int} {ρ : Nat → Nat → Option Nat} (d : Nat) {m : Nat} {p : Nat → Bool} {L : List Nat} (hm : m < 6) (hsp : I 71 6 = am_bits p 6) (h3 : I 71 3 = (L.length : Int)) (h6 : L.length ≤ 6) (hn : L.Nodup) (hx6 : ∀ x ∈ L, x < 6) (hrow : am_rowl (I (81 + m)) 0 L) : am_E X (d + 1) 75 0 [(0, .inr (.inr (.inl (some 71)))), (1, .inl (m : Int))] [] (am_mm D I J ρ) (fun q => ∃ Q, q = (none, am_mm D (am_wp uTc I Q) J ρ) ∧ Q 71 6 = am_bits (fun x => p x || x == m) 6 ∧ c_talQ I Q 1 L) := by
  refine am_e_ss 12 (q := (18, [(0, .inr (.inr (.inl (some 71)))), (1, .inl (m : Int))], [.inl (m : Int), .inr (.inr (.inl (some 80))), .inr (.inr (.inl (some 71)))], (am_mm D (am_up I 71 6 (Int32.ofInt (I 71 6) ||| Int32.ofInt (Int32.ofInt 1 <<< (Int32.ofInt (m : Int) &&& 31)).toInt).toInt) J ρ))) rfl ?_
  refine am_e_aaload (m := 6) (c := 23) rfl rfl (by decide) (by omega) (by omega) (by omega) ?_
  rw [show ((am_mm D (am_up I 71 6 (Int32.ofInt (I 71 6) ||| Int32.ofInt (Int32.ofInt 1 <<< (Int32.ofInt (m : Int) &&& 31)).toInt).toInt) J ρ)).2.2.2 80 ((m : Int)).toNat = some (81 + m) from (am_r80 (ρ := ρ) (by omega))]
  show am_E _ _ _ 19 [(0, .inr (.inr (.inl (some 71)))), (1, .inl (m : Int))] [.inr (.inr (.inl (some (81 + m)))), .inr (.inr (.inl (some 71)))] (am_mm D (am_up I 71 6 (Int32.ofInt (I 71 6) ||| Int32.ofInt (Int32.ofInt 1 <<< (Int32.ofInt (m : Int) &&& 31)).toInt).toInt) J ρ) _
  refine am_e_ss 1 (q := (20, [(0, .inr (.inr (.inl (some 71)))), (1, .inl (m : Int))], [.inl 1, .inr (.inr (.inl (some (81 + m)))), .inr (.inr (.inl (some 71)))], (am_mm D (am_up I 71 6 (Int32.ofInt (I 71 6) ||| Int32.ofInt (Int32.ofInt 1 <<< (Int32.ofInt (m : Int) &&& 31)).toInt).toInt) J ρ))) rfl ?_
  refine am_e_virtual (Q := fun r => ∃ Q125, r = (none, (am_mm D (am_wp uT (am_up I 71 6 (Int32.ofInt (I 71 6) ||| Int32.ofInt (Int32.ofInt 1 <<< (Int32.ofInt (m : Int) &&& 31)).toInt).toInt) Q125) J ρ)) ∧ c_talQ (am_up I 71 6 (Int32.ofInt (I 71 6) ||| Int32.ofInt (Int32.ofInt 1 <<< (Int32.ofInt (m : Int) &&& 31)).toInt).toInt) Q125 1 L) rfl rfl (Nat.le_of_ble_eq_true rfl) rfl rfl (Nat.le_of_ble_eq_true rfl) (Nat.le_of_ble_eq_true rfl) (c_tallyM _ (m := m) (L := L) (by omega) (Or.inl rfl) h3 h6 hn hx6 (am_rowl_cg hrow (fun i hi => am_up_ne2 (by omega)))) ?_
  rintro r ⟨Q125, rfl, htq⟩
  show am_E _ _ _ 23 [(0, .inr (.inr (.inl (some 71)))), (1, .inl (m : Int))] [] (am_mm D (am_wp uT (am_up I 71 6 (Int32.ofInt (I 71 6) ||| Int32.ofInt (Int32.ofInt 1 <<< (Int32.ofInt (m : Int) &&& 31)).toInt).toInt) Q125) J ρ) _
  refine am_e_return rfl rfl ?_
  refine ⟨_, am_r_wp uTc (am_k_wp (uT_uTc) (am_k_up rfl (am_k_id))), ?_, ?_, ?_⟩
  · show (Int32.ofInt (I 71 6) ||| Int32.ofInt (Int32.ofInt 1 <<< (Int32.ofInt (m : Int) &&& 31)).toInt).toInt = _
    rw [hsp]
    exact am_bits_set p m hm
  · intro b hb
    exact htq.1 b hb
  · intro a b ha hb
    refine (am_wp_in (by unfold uT; simp; omega)).trans ((htq.2 a b ha hb).trans ?_)
    rw [am_up_ne2 (by omega)]
theorem sp_says_o {S : Nat → Int} {m : Nat} (ho : ¬ sp_ops S = 0) (hh : S (7 + m) = 0) (haw : ¬ (S (26 + m) = 6 ∧ S 0 % (S (32 + m) + 2) = 0)) (h1 : ¬ S (26 + m) = 1) (h4 : ¬ S (26 + m) = 4) (h5 : ¬ S (26 + m) = 5) : sp_says S m = sp_ord S m := by
  unfold sp_says
  rw [if_neg ho, if_neg (by omega), if_neg haw, if_neg (fun h => h4 h.1), if_neg (by omega), if_neg (fun h => h5 h.1)]
  exact sp_sayl_no (fun x hx => by omega)
theorem sp_says_1 {S : Nat → Int} {m : Nat} (ho : ¬ sp_ops S = 0) (hh : S (7 + m) = 0) (h1 : S (26 + m) = 1) : sp_says S m = sp_sayl (sp_ord S m) (if sp_hd S m = sp_first S then -1 else sp_first S) := by
  unfold sp_says
  rw [if_neg ho, if_neg (by omega), if_neg (by omega), if_neg (by omega), if_pos (by omega)]
theorem sp_says_5 {S : Nat → Int} {m v : Nat} (ho : ¬ sp_ops S = 0) (hh : S (7 + m) = 0) (h5 : S (26 + m) = 5) (hv : S (32 + m) = (v : Int)) : sp_says S m = sp_sayl (sp_ord S m) (v : Int) := by
  unfold sp_says
  rw [if_neg ho, if_neg (by omega), if_neg (by omega), if_neg (by omega), if_neg (by omega), hv, show (13 + (v : Int)).toNat = 13 + v by omega]
  by_cases e : S (26 + m) = 5 ∧ (0 ≤ (v : Int) ∧ (v : Int) ≤ S 20 - 1) ∧ S (13 + v) = 0
  · rw [if_pos e]
  · rw [if_neg e, sp_sayl_no (fun x hx => by omega), sp_sayl_no]
    intro x hx h
    have hx := sp_ord_mem.mp hx
    have : x = v := by omega
    subst this
    exact e ⟨h5, by omega, hx.2⟩
theorem sp_says_4 {S : Nat → Int} {m v : Nat} (ho : ¬ sp_ops S = 0) (hh : S (7 + m) = 0) (h4 : S (26 + m) = 4) (hv : S (32 + m) = (v : Int)) : sp_says S m = (if ¬ v = m ∧ v < (S 19).toNat ∧ S (7 + v) = 0 then sp_ord S v else sp_sayl (sp_ord S m) (if sp_hd S m = sp_first S then -1 else sp_first S)) := by
  unfold sp_says
  rw [if_neg ho, if_neg (by omega), if_neg (by omega), hv, show (7 + (v : Int)).toNat = 7 + v by omega, show ((v : Int)).toNat = v by omega]
  by_cases e : ¬ v = m ∧ v < (S 19).toNat ∧ S (7 + v) = 0
  · rw [if_pos e, if_pos ⟨h4, by omega, by omega, e.2.2⟩, sp_sayl_no (fun x hx => by omega)]
  · rw [if_neg e, if_neg (fun h => e ⟨by omega, by omega, h.2.2.2⟩), if_pos (by omega)]
theorem sp_sayl_memr {L : List Nat} {z : Int} {x : Nat} (hx : x ∈ L) : x ∈ sp_sayl L z := by
  unfold sp_sayl
  rw [List.mem_append]
  by_cases e : (x : Int) = z
  · right
    have hlt : (L.filter (fun b : Nat => decide (¬ (b : Int) = z))).length < L.length := by
      have h1 := List.length_filter_le (fun b : Nat => decide (¬ (b : Int) = z)) L
      have h2 : ¬ (L.filter (fun b : Nat => decide (¬ (b : Int) = z))).length = L.length := by
        intro h
        have := List.length_filter_eq_length_iff.mp h x hx
        simp [e] at this
      omega
    rw [if_pos hlt]
    simp
    omega
  · left
    rw [List.mem_filter]
    exact ⟨hx, by simp [e]⟩
theorem sp_sayl_nd {L : List Nat} {z : Int} (hn : L.Nodup) : (sp_sayl L z).Nodup := by
  unfold sp_sayl
  split
  · rename_i h
    rw [List.nodup_append]
    refine ⟨hn.filter _, List.nodup_cons.mpr ⟨by simp, List.nodup_nil⟩, ?_⟩
    intro a ha b hb
    have hb : b = z.toNat := by simpa using hb
    have ha := (List.mem_filter.mp ha).2
    obtain ⟨x, hx1, hx2⟩ := sp_flt_ex h
    intro e
    have : (a : Int) = z := by omega
    simp [this] at ha
  · rw [List.append_nil]
    exact hn.filter _
/-- a voice: nothing, or all open books -/
def sp_voice (S : Nat → Int) (L : List Nat) : Prop := L = [] ∨ (L.Nodup ∧ ((L.length : Int) = sp_ops S ∧ ¬ sp_ops S = 0) ∧ ∀ x, x ∈ L ↔ (x < (S 20).toNat ∧ S (13 + x) = 0))
theorem sp_ord_voice {S : Nat → Int} {m : Nat} (ho : ¬ sp_ops S = 0) : sp_voice S (sp_ord S m) := Or.inr ⟨sp_ord_nd, ⟨sp_ord_len, ho⟩, fun _ => sp_ord_mem⟩
theorem sp_sayl_voice {S : Nat → Int} {m : Nat} {z : Int} (ho : ¬ sp_ops S = 0) : sp_voice S (sp_sayl (sp_ord S m) z) := Or.inr ⟨sp_sayl_nd sp_ord_nd, ⟨by rw [sp_sayl_len sp_ord_nd]; exact sp_ord_len, ho⟩, fun x => ⟨fun h => sp_ord_mem.mp (sp_sayl_mem h), fun h => sp_sayl_memr (sp_ord_mem.mpr h)⟩⟩
theorem sp_says_voice {S : Nat → Int} {m : Nat} : sp_voice S (sp_says S m) := by
  unfold sp_says
  by_cases ho : sp_ops S = 0
  · rw [if_pos ho]; exact Or.inl rfl
  · rw [if_neg ho]
    (repeat' split) <;> first | exact Or.inl rfl | exact sp_sayl_voice ho
theorem sp_vl_voice {S : Nat → Int} {t : Int} {m : Nat} : sp_voice S (sp_vl S t m) := by
  unfold sp_vl
  split
  · exact sp_says_voice
  · split
    · by_cases ho : sp_ops S = 0
      · left
        have := sp_ord_len (S := S) (m := m)
        exact List.eq_nil_of_length_eq_zero (by omega)
      · exact sp_ord_voice ho
    · exact Or.inl rfl
theorem sp_says_nn {S : Nat → Int} {m : Nat} (ho : ¬ sp_ops S = 0) (hh : S (7 + m) = 0) (haw : ¬ (S (26 + m) = 6 ∧ S 0 % (S (32 + m) + 2) = 0)) : ¬ sp_says S m = [] := by
  have h : ∀ L : List Nat, (L.length : Int) = sp_ops S → ¬ L = [] := by
    intro L h e
    rw [e] at h
    exact ho h.symm
  unfold sp_says
  rw [if_neg ho, if_neg (by omega), if_neg haw]
  (repeat' split) <;> exact h _ (by rw [sp_sayl_len sp_ord_nd]; exact sp_ord_len)
theorem sp_says_n {S : Nat → Int} {m : Nat} (h : ¬ S (7 + m) = 0 ∨ (S (26 + m) = 6 ∧ S 0 % (S (32 + m) + 2) = 0)) : sp_says S m = [] := by
  unfold sp_says
  split
  · rfl
  · split
    · rfl
    · rename_i h2
      rw [if_pos (by rcases h with h | h; exact absurd h h2; exact h)]
theorem m_sayK_2_0 {X : Nat × (Nat → Int)} {D : List (Nat × Nat)} {I J : Nat → Nat → Int} {ρ : Nat → Nat → Option Nat} (d : Nat) {k K : Nat} {S : Nat → Int} {B : Int} (hK : K < 7) (hok : r_ok S B) (hs : (am_S ++ D)[k]? = some (am_kc K, 3)) (hKe : S (26 + 0) = (K : Int)) (hk124 : 124 ≤ k) (hk1 : I k 1 = ((0 : Nat) : Int)) (hk2 : I k 2 = S (32 + 0)) (h3 : I 71 3 = sp_ops S) (hO : ∀ j, j < (S 19).toNat → am_rowl (I (74 + j)) 0 (sp_ord S j)) (hm : 0 < (S 19).toNat) (hfav : I 71 7 = sp_fav S) (ho : ¬ sp_ops S = 0) (h71 : ρ 71 1 = some 2) (h12 : I 1 2 = S 19) (hhr : I 2 1 = am_bits (sp_hp S) 6) (hh : S (7 + 0) = 0) (haw : ¬ (S (26 + 0) = 6 ∧ S 0 % (S (32 + 0) + 2) = 0)) : am_E X (d + 3) (am_tg [37, 43, 37, 37, 22, 62, 37] K) 0 [(0, .inr (.inr (.inl (some k)))), (1, .inr (.inr (.inl (some 71)))), (2, .inr (.inr (.inl (some (81 + 0)))))] [] (am_mm D I J ρ) (fun q => ∃ Q, q = (none, am_mm D (am_wp (fun c _ => Nat.beq c (81 + 0)) I Q) J ρ) ∧ am_rowl (Q (81 + 0)) 0 (sp_says S 0)) := by
  have hV : 0 ≤ S (32 + 0) ∧ S (32 + 0) ≤ 9 := by
    obtain ⟨o0, oG, oH, oD, o19, o20, o21, o22, o23, o24, oK, oV, _⟩ := hok
    exact oV 0 (by omega)
  obtain ⟨v, hv⟩ : ∃ v : Nat, S (32 + 0) = (v : Int) := ⟨(S (32 + 0)).toNat, by omega⟩
  have hkv := hk2.trans hv
  have h : K = 0 ∨ K = 1 ∨ K = 2 ∨ K = 3 ∨ K = 4 ∨ K = 5 ∨ K = 6 := by omega
  rcases h with rfl | rfl | rfl | rfl | rfl | rfl | rfl
  · rw [sp_says_o ho hh haw (by omega) (by omega) (by omega)]
    exact m_say_4_0 (d + 1) hs hok hk124 hk1 h3 hO hm
  · rw [sp_says_1 ho hh (by omega)]
    exact m_say_p5_0 (d + 1) hs hok hk124 hk1 h3 hO hm hfav ho
  · rw [sp_says_o ho hh haw (by omega) (by omega) (by omega)]
    exact m_say_6_0 (d + 1) hs hok hk124 hk1 h3 hO hm
  · rw [sp_says_o ho hh haw (by omega) (by omega) (by omega)]
    exact m_say_8_0 (d + 1) hs hok hk124 hk1 h3 hO hm
  · rw [sp_says_4 ho hh (by omega) hv]
    exact m_say_f2_0 d hs hok hk124 hk1 h3 hO hm hfav ho hkv (by omega) h71 h12 hhr
  · rw [sp_says_5 ho hh (by omega) hv]
    exact m_say_9_0 (d + 1) hs hok hk124 hk1 h3 hO hm hkv (by omega)
  · rw [sp_says_o ho hh haw (by omega) (by omega) (by omega)]
    exact m_say_0_0 (d + 1) hs hok hk124 hk1 h3 hO hm
theorem m_sayK_2_1 {X : Nat × (Nat → Int)} {D : List (Nat × Nat)} {I J : Nat → Nat → Int} {ρ : Nat → Nat → Option Nat} (d : Nat) {k K : Nat} {S : Nat → Int} {B : Int} (hK : K < 7) (hok : r_ok S B) (hs : (am_S ++ D)[k]? = some (am_kc K, 3)) (hKe : S (26 + 1) = (K : Int)) (hk124 : 124 ≤ k) (hk1 : I k 1 = ((1 : Nat) : Int)) (hk2 : I k 2 = S (32 + 1)) (h3 : I 71 3 = sp_ops S) (hO : ∀ j, j < (S 19).toNat → am_rowl (I (74 + j)) 0 (sp_ord S j)) (hm : 1 < (S 19).toNat) (hfav : I 71 7 = sp_fav S) (ho : ¬ sp_ops S = 0) (h71 : ρ 71 1 = some 2) (h12 : I 1 2 = S 19) (hhr : I 2 1 = am_bits (sp_hp S) 6) (hh : S (7 + 1) = 0) (haw : ¬ (S (26 + 1) = 6 ∧ S 0 % (S (32 + 1) + 2) = 0)) : am_E X (d + 3) (am_tg [37, 43, 37, 37, 22, 62, 37] K) 0 [(0, .inr (.inr (.inl (some k)))), (1, .inr (.inr (.inl (some 71)))), (2, .inr (.inr (.inl (some (81 + 1)))))] [] (am_mm D I J ρ) (fun q => ∃ Q, q = (none, am_mm D (am_wp (fun c _ => Nat.beq c (81 + 1)) I Q) J ρ) ∧ am_rowl (Q (81 + 1)) 0 (sp_says S 1)) := by
  have hV : 0 ≤ S (32 + 1) ∧ S (32 + 1) ≤ 9 := by
    obtain ⟨o0, oG, oH, oD, o19, o20, o21, o22, o23, o24, oK, oV, _⟩ := hok
    exact oV 1 (by omega)
  obtain ⟨v, hv⟩ : ∃ v : Nat, S (32 + 1) = (v : Int) := ⟨(S (32 + 1)).toNat, by omega⟩
  have hkv := hk2.trans hv
  have h : K = 0 ∨ K = 1 ∨ K = 2 ∨ K = 3 ∨ K = 4 ∨ K = 5 ∨ K = 6 := by omega
  rcases h with rfl | rfl | rfl | rfl | rfl | rfl | rfl
  · rw [sp_says_o ho hh haw (by omega) (by omega) (by omega)]
    exact m_say_4_1 (d + 1) hs hok hk124 hk1 h3 hO hm
  · rw [sp_says_1 ho hh (by omega)]
    exact m_say_p5_1 (d + 1) hs hok hk124 hk1 h3 hO hm hfav ho
  · rw [sp_says_o ho hh haw (by omega) (by omega) (by omega)]
    exact m_say_6_1 (d + 1) hs hok hk124 hk1 h3 hO hm
  · rw [sp_says_o ho hh haw (by omega) (by omega) (by omega)]
    exact m_say_8_1 (d + 1) hs hok hk124 hk1 h3 hO hm
  · rw [sp_says_4 ho hh (by omega) hv]
    exact m_say_f2_1 d hs hok hk124 hk1 h3 hO hm hfav ho hkv (by omega) h71 h12 hhr
  · rw [sp_says_5 ho hh (by omega) hv]
    exact m_say_9_1 (d + 1) hs hok hk124 hk1 h3 hO hm hkv (by omega)
  · rw [sp_says_o ho hh haw (by omega) (by omega) (by omega)]
    exact m_say_0_1 (d + 1) hs hok hk124 hk1 h3 hO hm
theorem m_sayK_2_2 {X : Nat × (Nat → Int)} {D : List (Nat × Nat)} {I J : Nat → Nat → Int} {ρ : Nat → Nat → Option Nat} (d : Nat) {k K : Nat} {S : Nat → Int} {B : Int} (hK : K < 7) (hok : r_ok S B) (hs : (am_S ++ D)[k]? = some (am_kc K, 3)) (hKe : S (26 + 2) = (K : Int)) (hk124 : 124 ≤ k) (hk1 : I k 1 = ((2 : Nat) : Int)) (hk2 : I k 2 = S (32 + 2)) (h3 : I 71 3 = sp_ops S) (hO : ∀ j, j < (S 19).toNat → am_rowl (I (74 + j)) 0 (sp_ord S j)) (hm : 2 < (S 19).toNat) (hfav : I 71 7 = sp_fav S) (ho : ¬ sp_ops S = 0) (h71 : ρ 71 1 = some 2) (h12 : I 1 2 = S 19) (hhr : I 2 1 = am_bits (sp_hp S) 6) (hh : S (7 + 2) = 0) (haw : ¬ (S (26 + 2) = 6 ∧ S 0 % (S (32 + 2) + 2) = 0)) : am_E X (d + 3) (am_tg [37, 43, 37, 37, 22, 62, 37] K) 0 [(0, .inr (.inr (.inl (some k)))), (1, .inr (.inr (.inl (some 71)))), (2, .inr (.inr (.inl (some (81 + 2)))))] [] (am_mm D I J ρ) (fun q => ∃ Q, q = (none, am_mm D (am_wp (fun c _ => Nat.beq c (81 + 2)) I Q) J ρ) ∧ am_rowl (Q (81 + 2)) 0 (sp_says S 2)) := by
  have hV : 0 ≤ S (32 + 2) ∧ S (32 + 2) ≤ 9 := by
    obtain ⟨o0, oG, oH, oD, o19, o20, o21, o22, o23, o24, oK, oV, _⟩ := hok
    exact oV 2 (by omega)
  obtain ⟨v, hv⟩ : ∃ v : Nat, S (32 + 2) = (v : Int) := ⟨(S (32 + 2)).toNat, by omega⟩
  have hkv := hk2.trans hv
  have h : K = 0 ∨ K = 1 ∨ K = 2 ∨ K = 3 ∨ K = 4 ∨ K = 5 ∨ K = 6 := by omega
  rcases h with rfl | rfl | rfl | rfl | rfl | rfl | rfl
  · rw [sp_says_o ho hh haw (by omega) (by omega) (by omega)]
    exact m_say_4_2 (d + 1) hs hok hk124 hk1 h3 hO hm
  · rw [sp_says_1 ho hh (by omega)]
    exact m_say_p5_2 (d + 1) hs hok hk124 hk1 h3 hO hm hfav ho
  · rw [sp_says_o ho hh haw (by omega) (by omega) (by omega)]
    exact m_say_6_2 (d + 1) hs hok hk124 hk1 h3 hO hm
  · rw [sp_says_o ho hh haw (by omega) (by omega) (by omega)]
    exact m_say_8_2 (d + 1) hs hok hk124 hk1 h3 hO hm
  · rw [sp_says_4 ho hh (by omega) hv]
    exact m_say_f2_2 d hs hok hk124 hk1 h3 hO hm hfav ho hkv (by omega) h71 h12 hhr
  · rw [sp_says_5 ho hh (by omega) hv]
    exact m_say_9_2 (d + 1) hs hok hk124 hk1 h3 hO hm hkv (by omega)
  · rw [sp_says_o ho hh haw (by omega) (by omega) (by omega)]
    exact m_say_0_2 (d + 1) hs hok hk124 hk1 h3 hO hm
theorem m_sayK_2_3 {X : Nat × (Nat → Int)} {D : List (Nat × Nat)} {I J : Nat → Nat → Int} {ρ : Nat → Nat → Option Nat} (d : Nat) {k K : Nat} {S : Nat → Int} {B : Int} (hK : K < 7) (hok : r_ok S B) (hs : (am_S ++ D)[k]? = some (am_kc K, 3)) (hKe : S (26 + 3) = (K : Int)) (hk124 : 124 ≤ k) (hk1 : I k 1 = ((3 : Nat) : Int)) (hk2 : I k 2 = S (32 + 3)) (h3 : I 71 3 = sp_ops S) (hO : ∀ j, j < (S 19).toNat → am_rowl (I (74 + j)) 0 (sp_ord S j)) (hm : 3 < (S 19).toNat) (hfav : I 71 7 = sp_fav S) (ho : ¬ sp_ops S = 0) (h71 : ρ 71 1 = some 2) (h12 : I 1 2 = S 19) (hhr : I 2 1 = am_bits (sp_hp S) 6) (hh : S (7 + 3) = 0) (haw : ¬ (S (26 + 3) = 6 ∧ S 0 % (S (32 + 3) + 2) = 0)) : am_E X (d + 3) (am_tg [37, 43, 37, 37, 22, 62, 37] K) 0 [(0, .inr (.inr (.inl (some k)))), (1, .inr (.inr (.inl (some 71)))), (2, .inr (.inr (.inl (some (81 + 3)))))] [] (am_mm D I J ρ) (fun q => ∃ Q, q = (none, am_mm D (am_wp (fun c _ => Nat.beq c (81 + 3)) I Q) J ρ) ∧ am_rowl (Q (81 + 3)) 0 (sp_says S 3)) := by
  have hV : 0 ≤ S (32 + 3) ∧ S (32 + 3) ≤ 9 := by
    obtain ⟨o0, oG, oH, oD, o19, o20, o21, o22, o23, o24, oK, oV, _⟩ := hok
    exact oV 3 (by omega)
  obtain ⟨v, hv⟩ : ∃ v : Nat, S (32 + 3) = (v : Int) := ⟨(S (32 + 3)).toNat, by omega⟩
  have hkv := hk2.trans hv
  have h : K = 0 ∨ K = 1 ∨ K = 2 ∨ K = 3 ∨ K = 4 ∨ K = 5 ∨ K = 6 := by omega
  rcases h with rfl | rfl | rfl | rfl | rfl | rfl | rfl
  · rw [sp_says_o ho hh haw (by omega) (by omega) (by omega)]
    exact m_say_4_3 (d + 1) hs hok hk124 hk1 h3 hO hm
  · rw [sp_says_1 ho hh (by omega)]
    exact m_say_p5_3 (d + 1) hs hok hk124 hk1 h3 hO hm hfav ho
  · rw [sp_says_o ho hh haw (by omega) (by omega) (by omega)]
    exact m_say_6_3 (d + 1) hs hok hk124 hk1 h3 hO hm
  · rw [sp_says_o ho hh haw (by omega) (by omega) (by omega)]
    exact m_say_8_3 (d + 1) hs hok hk124 hk1 h3 hO hm
  · rw [sp_says_4 ho hh (by omega) hv]
    exact m_say_f2_3 d hs hok hk124 hk1 h3 hO hm hfav ho hkv (by omega) h71 h12 hhr
  · rw [sp_says_5 ho hh (by omega) hv]
    exact m_say_9_3 (d + 1) hs hok hk124 hk1 h3 hO hm hkv (by omega)
  · rw [sp_says_o ho hh haw (by omega) (by omega) (by omega)]
    exact m_say_0_3 (d + 1) hs hok hk124 hk1 h3 hO hm
theorem m_sayK_2_4 {X : Nat × (Nat → Int)} {D : List (Nat × Nat)} {I J : Nat → Nat → Int} {ρ : Nat → Nat → Option Nat} (d : Nat) {k K : Nat} {S : Nat → Int} {B : Int} (hK : K < 7) (hok : r_ok S B) (hs : (am_S ++ D)[k]? = some (am_kc K, 3)) (hKe : S (26 + 4) = (K : Int)) (hk124 : 124 ≤ k) (hk1 : I k 1 = ((4 : Nat) : Int)) (hk2 : I k 2 = S (32 + 4)) (h3 : I 71 3 = sp_ops S) (hO : ∀ j, j < (S 19).toNat → am_rowl (I (74 + j)) 0 (sp_ord S j)) (hm : 4 < (S 19).toNat) (hfav : I 71 7 = sp_fav S) (ho : ¬ sp_ops S = 0) (h71 : ρ 71 1 = some 2) (h12 : I 1 2 = S 19) (hhr : I 2 1 = am_bits (sp_hp S) 6) (hh : S (7 + 4) = 0) (haw : ¬ (S (26 + 4) = 6 ∧ S 0 % (S (32 + 4) + 2) = 0)) : am_E X (d + 3) (am_tg [37, 43, 37, 37, 22, 62, 37] K) 0 [(0, .inr (.inr (.inl (some k)))), (1, .inr (.inr (.inl (some 71)))), (2, .inr (.inr (.inl (some (81 + 4)))))] [] (am_mm D I J ρ) (fun q => ∃ Q, q = (none, am_mm D (am_wp (fun c _ => Nat.beq c (81 + 4)) I Q) J ρ) ∧ am_rowl (Q (81 + 4)) 0 (sp_says S 4)) := by
  have hV : 0 ≤ S (32 + 4) ∧ S (32 + 4) ≤ 9 := by
    obtain ⟨o0, oG, oH, oD, o19, o20, o21, o22, o23, o24, oK, oV, _⟩ := hok
    exact oV 4 (by omega)
  obtain ⟨v, hv⟩ : ∃ v : Nat, S (32 + 4) = (v : Int) := ⟨(S (32 + 4)).toNat, by omega⟩
  have hkv := hk2.trans hv
  have h : K = 0 ∨ K = 1 ∨ K = 2 ∨ K = 3 ∨ K = 4 ∨ K = 5 ∨ K = 6 := by omega
  rcases h with rfl | rfl | rfl | rfl | rfl | rfl | rfl
  · rw [sp_says_o ho hh haw (by omega) (by omega) (by omega)]
    exact m_say_4_4 (d + 1) hs hok hk124 hk1 h3 hO hm
  · rw [sp_says_1 ho hh (by omega)]
    exact m_say_p5_4 (d + 1) hs hok hk124 hk1 h3 hO hm hfav ho
  · rw [sp_says_o ho hh haw (by omega) (by omega) (by omega)]
    exact m_say_6_4 (d + 1) hs hok hk124 hk1 h3 hO hm
  · rw [sp_says_o ho hh haw (by omega) (by omega) (by omega)]
    exact m_say_8_4 (d + 1) hs hok hk124 hk1 h3 hO hm
  · rw [sp_says_4 ho hh (by omega) hv]
    exact m_say_f2_4 d hs hok hk124 hk1 h3 hO hm hfav ho hkv (by omega) h71 h12 hhr
  · rw [sp_says_5 ho hh (by omega) hv]
    exact m_say_9_4 (d + 1) hs hok hk124 hk1 h3 hO hm hkv (by omega)
  · rw [sp_says_o ho hh haw (by omega) (by omega) (by omega)]
    exact m_say_0_4 (d + 1) hs hok hk124 hk1 h3 hO hm
theorem m_sayK_2_5 {X : Nat × (Nat → Int)} {D : List (Nat × Nat)} {I J : Nat → Nat → Int} {ρ : Nat → Nat → Option Nat} (d : Nat) {k K : Nat} {S : Nat → Int} {B : Int} (hK : K < 7) (hok : r_ok S B) (hs : (am_S ++ D)[k]? = some (am_kc K, 3)) (hKe : S (26 + 5) = (K : Int)) (hk124 : 124 ≤ k) (hk1 : I k 1 = ((5 : Nat) : Int)) (hk2 : I k 2 = S (32 + 5)) (h3 : I 71 3 = sp_ops S) (hO : ∀ j, j < (S 19).toNat → am_rowl (I (74 + j)) 0 (sp_ord S j)) (hm : 5 < (S 19).toNat) (hfav : I 71 7 = sp_fav S) (ho : ¬ sp_ops S = 0) (h71 : ρ 71 1 = some 2) (h12 : I 1 2 = S 19) (hhr : I 2 1 = am_bits (sp_hp S) 6) (hh : S (7 + 5) = 0) (haw : ¬ (S (26 + 5) = 6 ∧ S 0 % (S (32 + 5) + 2) = 0)) : am_E X (d + 3) (am_tg [37, 43, 37, 37, 22, 62, 37] K) 0 [(0, .inr (.inr (.inl (some k)))), (1, .inr (.inr (.inl (some 71)))), (2, .inr (.inr (.inl (some (81 + 5)))))] [] (am_mm D I J ρ) (fun q => ∃ Q, q = (none, am_mm D (am_wp (fun c _ => Nat.beq c (81 + 5)) I Q) J ρ) ∧ am_rowl (Q (81 + 5)) 0 (sp_says S 5)) := by
  have hV : 0 ≤ S (32 + 5) ∧ S (32 + 5) ≤ 9 := by
    obtain ⟨o0, oG, oH, oD, o19, o20, o21, o22, o23, o24, oK, oV, _⟩ := hok
    exact oV 5 (by omega)
  obtain ⟨v, hv⟩ : ∃ v : Nat, S (32 + 5) = (v : Int) := ⟨(S (32 + 5)).toNat, by omega⟩
  have hkv := hk2.trans hv
  have h : K = 0 ∨ K = 1 ∨ K = 2 ∨ K = 3 ∨ K = 4 ∨ K = 5 ∨ K = 6 := by omega
  rcases h with rfl | rfl | rfl | rfl | rfl | rfl | rfl
  · rw [sp_says_o ho hh haw (by omega) (by omega) (by omega)]
    exact m_say_4_5 (d + 1) hs hok hk124 hk1 h3 hO hm
  · rw [sp_says_1 ho hh (by omega)]
    exact m_say_p5_5 (d + 1) hs hok hk124 hk1 h3 hO hm hfav ho
  · rw [sp_says_o ho hh haw (by omega) (by omega) (by omega)]
    exact m_say_6_5 (d + 1) hs hok hk124 hk1 h3 hO hm
  · rw [sp_says_o ho hh haw (by omega) (by omega) (by omega)]
    exact m_say_8_5 (d + 1) hs hok hk124 hk1 h3 hO hm
  · rw [sp_says_4 ho hh (by omega) hv]
    exact m_say_f2_5 d hs hok hk124 hk1 h3 hO hm hfav ho hkv (by omega) h71 h12 hhr
  · rw [sp_says_5 ho hh (by omega) hv]
    exact m_say_9_5 (d + 1) hs hok hk124 hk1 h3 hO hm hkv (by omega)
  · rw [sp_says_o ho hh haw (by omega) (by omega) (by omega)]
    exact m_say_0_5 (d + 1) hs hok hk124 hk1 h3 hO hm
theorem m_sayM_2 {X : Nat × (Nat → Int)} {D : List (Nat × Nat)} {I J : Nat → Nat → Int} {ρ : Nat → Nat → Option Nat} (d : Nat) {k K m : Nat} {S : Nat → Int} {B : Int} (hK : K < 7) (hok : r_ok S B) (hs : (am_S ++ D)[k]? = some (am_kc K, 3)) (hKe : S (26 + m) = (K : Int)) (hk124 : 124 ≤ k) (hk1 : I k 1 = (m : Int)) (hk2 : I k 2 = S (32 + m)) (h3 : I 71 3 = sp_ops S) (hO : ∀ j, j < (S 19).toNat → am_rowl (I (74 + j)) 0 (sp_ord S j)) (hm : m < (S 19).toNat) (hfav : I 71 7 = sp_fav S) (ho : ¬ sp_ops S = 0) (h71 : ρ 71 1 = some 2) (h12 : I 1 2 = S 19) (hhr : I 2 1 = am_bits (sp_hp S) 6) (hh : S (7 + m) = 0) (haw : ¬ (S (26 + m) = 6 ∧ S 0 % (S (32 + m) + 2) = 0)) : am_E X (d + 3) (am_tg [37, 43, 37, 37, 22, 62, 37] K) 0 [(0, .inr (.inr (.inl (some k)))), (1, .inr (.inr (.inl (some 71)))), (2, .inr (.inr (.inl (some (81 + m)))))] [] (am_mm D I J ρ) (fun q => ∃ Q, q = (none, am_mm D (am_wp uS I Q) J ρ) ∧ am_rowl (Q (81 + m)) 0 (sp_says S m) ∧ ∀ j, j ≠ m → ∀ i, Q (81 + j) i = I (81 + j) i) := by
  have h19 := r_ok_19 hok
  refine am_E.imp ?_ (fun q h => am_one (b := 81) (P := fun R => am_rowl R 0 (sp_says S m)) (uS_1 (by omega)) h)
  have h6m : m = 0 ∨ m = 1 ∨ m = 2 ∨ m = 3 ∨ m = 4 ∨ m = 5 := by omega
  rcases h6m with rfl | rfl | rfl | rfl | rfl | rfl
  · exact m_sayK_2_0 d hK hok hs hKe hk124 hk1 hk2 h3 hO hm hfav ho h71 h12 hhr hh haw
  · exact m_sayK_2_1 d hK hok hs hKe hk124 hk1 hk2 h3 hO hm hfav ho h71 h12 hhr hh haw
  · exact m_sayK_2_2 d hK hok hs hKe hk124 hk1 hk2 h3 hO hm hfav ho h71 h12 hhr hh haw
  · exact m_sayK_2_3 d hK hok hs hKe hk124 hk1 hk2 h3 hO hm hfav ho h71 h12 hhr hh haw
  · exact m_sayK_2_4 d hK hok hs hKe hk124 hk1 hk2 h3 hO hm hfav ho h71 h12 hhr hh haw
  · exact m_sayK_2_5 d hK hok hs hKe hk124 hk1 hk2 h3 hO hm hfav ho h71 h12 hhr hh haw
theorem m_sayK_69_0 {X : Nat × (Nat → Int)} {D : List (Nat × Nat)} {I J : Nat → Nat → Int} {ρ : Nat → Nat → Option Nat} (d : Nat) {k K : Nat} {S : Nat → Int} {B : Int} (hK : K < 7) (hok : r_ok S B) (hs : (am_S ++ D)[k]? = some (am_kc K, 3)) (hKe : S (26 + 0) = (K : Int)) (hk124 : 124 ≤ k) (hk1 : I k 1 = ((0 : Nat) : Int)) (hk2 : I k 2 = S (32 + 0)) (h3 : I 71 3 = sp_ops S) (hO : ∀ j, j < (S 19).toNat → am_rowl (I (74 + j)) 0 (sp_ord S j)) (hm : 0 < (S 19).toNat) (hfav : I 71 7 = sp_fav S) (ho : ¬ sp_ops S = 0) (h71 : ρ 71 1 = some 69) (h12 : I 1 2 = S 19) (hhr : I 69 1 = am_bits (sp_hp S) 6) (hh : S (7 + 0) = 0) (haw : ¬ (S (26 + 0) = 6 ∧ S 0 % (S (32 + 0) + 2) = 0)) : am_E X (d + 3) (am_tg [37, 43, 37, 37, 22, 62, 37] K) 0 [(0, .inr (.inr (.inl (some k)))), (1, .inr (.inr (.inl (some 71)))), (2, .inr (.inr (.inl (some (81 + 0)))))] [] (am_mm D I J ρ) (fun q => ∃ Q, q = (none, am_mm D (am_wp (fun c _ => Nat.beq c (81 + 0)) I Q) J ρ) ∧ am_rowl (Q (81 + 0)) 0 (sp_says S 0)) := by
  have hV : 0 ≤ S (32 + 0) ∧ S (32 + 0) ≤ 9 := by
    obtain ⟨o0, oG, oH, oD, o19, o20, o21, o22, o23, o24, oK, oV, _⟩ := hok
    exact oV 0 (by omega)
  obtain ⟨v, hv⟩ : ∃ v : Nat, S (32 + 0) = (v : Int) := ⟨(S (32 + 0)).toNat, by omega⟩
  have hkv := hk2.trans hv
  have h : K = 0 ∨ K = 1 ∨ K = 2 ∨ K = 3 ∨ K = 4 ∨ K = 5 ∨ K = 6 := by omega
  rcases h with rfl | rfl | rfl | rfl | rfl | rfl | rfl
  · rw [sp_says_o ho hh haw (by omega) (by omega) (by omega)]
    exact m_say_4_0 (d + 1) hs hok hk124 hk1 h3 hO hm
  · rw [sp_says_1 ho hh (by omega)]
    exact m_say_p5_0 (d + 1) hs hok hk124 hk1 h3 hO hm hfav ho
  · rw [sp_says_o ho hh haw (by omega) (by omega) (by omega)]
    exact m_say_6_0 (d + 1) hs hok hk124 hk1 h3 hO hm
  · rw [sp_says_o ho hh haw (by omega) (by omega) (by omega)]
    exact m_say_8_0 (d + 1) hs hok hk124 hk1 h3 hO hm
  · rw [sp_says_4 ho hh (by omega) hv]
    exact m_say_f69_0 d hs hok hk124 hk1 h3 hO hm hfav ho hkv (by omega) h71 h12 hhr
  · rw [sp_says_5 ho hh (by omega) hv]
    exact m_say_9_0 (d + 1) hs hok hk124 hk1 h3 hO hm hkv (by omega)
  · rw [sp_says_o ho hh haw (by omega) (by omega) (by omega)]
    exact m_say_0_0 (d + 1) hs hok hk124 hk1 h3 hO hm
theorem m_sayK_69_1 {X : Nat × (Nat → Int)} {D : List (Nat × Nat)} {I J : Nat → Nat → Int} {ρ : Nat → Nat → Option Nat} (d : Nat) {k K : Nat} {S : Nat → Int} {B : Int} (hK : K < 7) (hok : r_ok S B) (hs : (am_S ++ D)[k]? = some (am_kc K, 3)) (hKe : S (26 + 1) = (K : Int)) (hk124 : 124 ≤ k) (hk1 : I k 1 = ((1 : Nat) : Int)) (hk2 : I k 2 = S (32 + 1)) (h3 : I 71 3 = sp_ops S) (hO : ∀ j, j < (S 19).toNat → am_rowl (I (74 + j)) 0 (sp_ord S j)) (hm : 1 < (S 19).toNat) (hfav : I 71 7 = sp_fav S) (ho : ¬ sp_ops S = 0) (h71 : ρ 71 1 = some 69) (h12 : I 1 2 = S 19) (hhr : I 69 1 = am_bits (sp_hp S) 6) (hh : S (7 + 1) = 0) (haw : ¬ (S (26 + 1) = 6 ∧ S 0 % (S (32 + 1) + 2) = 0)) : am_E X (d + 3) (am_tg [37, 43, 37, 37, 22, 62, 37] K) 0 [(0, .inr (.inr (.inl (some k)))), (1, .inr (.inr (.inl (some 71)))), (2, .inr (.inr (.inl (some (81 + 1)))))] [] (am_mm D I J ρ) (fun q => ∃ Q, q = (none, am_mm D (am_wp (fun c _ => Nat.beq c (81 + 1)) I Q) J ρ) ∧ am_rowl (Q (81 + 1)) 0 (sp_says S 1)) := by
  have hV : 0 ≤ S (32 + 1) ∧ S (32 + 1) ≤ 9 := by
    obtain ⟨o0, oG, oH, oD, o19, o20, o21, o22, o23, o24, oK, oV, _⟩ := hok
    exact oV 1 (by omega)
  obtain ⟨v, hv⟩ : ∃ v : Nat, S (32 + 1) = (v : Int) := ⟨(S (32 + 1)).toNat, by omega⟩
  have hkv := hk2.trans hv
  have h : K = 0 ∨ K = 1 ∨ K = 2 ∨ K = 3 ∨ K = 4 ∨ K = 5 ∨ K = 6 := by omega
  rcases h with rfl | rfl | rfl | rfl | rfl | rfl | rfl
  · rw [sp_says_o ho hh haw (by omega) (by omega) (by omega)]
    exact m_say_4_1 (d + 1) hs hok hk124 hk1 h3 hO hm
  · rw [sp_says_1 ho hh (by omega)]
    exact m_say_p5_1 (d + 1) hs hok hk124 hk1 h3 hO hm hfav ho
  · rw [sp_says_o ho hh haw (by omega) (by omega) (by omega)]
    exact m_say_6_1 (d + 1) hs hok hk124 hk1 h3 hO hm
  · rw [sp_says_o ho hh haw (by omega) (by omega) (by omega)]
    exact m_say_8_1 (d + 1) hs hok hk124 hk1 h3 hO hm
  · rw [sp_says_4 ho hh (by omega) hv]
    exact m_say_f69_1 d hs hok hk124 hk1 h3 hO hm hfav ho hkv (by omega) h71 h12 hhr
  · rw [sp_says_5 ho hh (by omega) hv]
    exact m_say_9_1 (d + 1) hs hok hk124 hk1 h3 hO hm hkv (by omega)
  · rw [sp_says_o ho hh haw (by omega) (by omega) (by omega)]
    exact m_say_0_1 (d + 1) hs hok hk124 hk1 h3 hO hm
theorem m_sayK_69_2 {X : Nat × (Nat → Int)} {D : List (Nat × Nat)} {I J : Nat → Nat → Int} {ρ : Nat → Nat → Option Nat} (d : Nat) {k K : Nat} {S : Nat → Int} {B : Int} (hK : K < 7) (hok : r_ok S B) (hs : (am_S ++ D)[k]? = some (am_kc K, 3)) (hKe : S (26 + 2) = (K : Int)) (hk124 : 124 ≤ k) (hk1 : I k 1 = ((2 : Nat) : Int)) (hk2 : I k 2 = S (32 + 2)) (h3 : I 71 3 = sp_ops S) (hO : ∀ j, j < (S 19).toNat → am_rowl (I (74 + j)) 0 (sp_ord S j)) (hm : 2 < (S 19).toNat) (hfav : I 71 7 = sp_fav S) (ho : ¬ sp_ops S = 0) (h71 : ρ 71 1 = some 69) (h12 : I 1 2 = S 19) (hhr : I 69 1 = am_bits (sp_hp S) 6) (hh : S (7 + 2) = 0) (haw : ¬ (S (26 + 2) = 6 ∧ S 0 % (S (32 + 2) + 2) = 0)) : am_E X (d + 3) (am_tg [37, 43, 37, 37, 22, 62, 37] K) 0 [(0, .inr (.inr (.inl (some k)))), (1, .inr (.inr (.inl (some 71)))), (2, .inr (.inr (.inl (some (81 + 2)))))] [] (am_mm D I J ρ) (fun q => ∃ Q, q = (none, am_mm D (am_wp (fun c _ => Nat.beq c (81 + 2)) I Q) J ρ) ∧ am_rowl (Q (81 + 2)) 0 (sp_says S 2)) := by
  have hV : 0 ≤ S (32 + 2) ∧ S (32 + 2) ≤ 9 := by
    obtain ⟨o0, oG, oH, oD, o19, o20, o21, o22, o23, o24, oK, oV, _⟩ := hok
    exact oV 2 (by omega)
  obtain ⟨v, hv⟩ : ∃ v : Nat, S (32 + 2) = (v : Int) := ⟨(S (32 + 2)).toNat, by omega⟩
  have hkv := hk2.trans hv
  have h : K = 0 ∨ K = 1 ∨ K = 2 ∨ K = 3 ∨ K = 4 ∨ K = 5 ∨ K = 6 := by omega
  rcases h with rfl | rfl | rfl | rfl | rfl | rfl | rfl
  · rw [sp_says_o ho hh haw (by omega) (by omega) (by omega)]
    exact m_say_4_2 (d + 1) hs hok hk124 hk1 h3 hO hm
  · rw [sp_says_1 ho hh (by omega)]
    exact m_say_p5_2 (d + 1) hs hok hk124 hk1 h3 hO hm hfav ho
  · rw [sp_says_o ho hh haw (by omega) (by omega) (by omega)]
    exact m_say_6_2 (d + 1) hs hok hk124 hk1 h3 hO hm
  · rw [sp_says_o ho hh haw (by omega) (by omega) (by omega)]
    exact m_say_8_2 (d + 1) hs hok hk124 hk1 h3 hO hm
  · rw [sp_says_4 ho hh (by omega) hv]
    exact m_say_f69_2 d hs hok hk124 hk1 h3 hO hm hfav ho hkv (by omega) h71 h12 hhr
  · rw [sp_says_5 ho hh (by omega) hv]
    exact m_say_9_2 (d + 1) hs hok hk124 hk1 h3 hO hm hkv (by omega)
  · rw [sp_says_o ho hh haw (by omega) (by omega) (by omega)]
    exact m_say_0_2 (d + 1) hs hok hk124 hk1 h3 hO hm
theorem m_sayK_69_3 {X : Nat × (Nat → Int)} {D : List (Nat × Nat)} {I J : Nat → Nat → Int} {ρ : Nat → Nat → Option Nat} (d : Nat) {k K : Nat} {S : Nat → Int} {B : Int} (hK : K < 7) (hok : r_ok S B) (hs : (am_S ++ D)[k]? = some (am_kc K, 3)) (hKe : S (26 + 3) = (K : Int)) (hk124 : 124 ≤ k) (hk1 : I k 1 = ((3 : Nat) : Int)) (hk2 : I k 2 = S (32 + 3)) (h3 : I 71 3 = sp_ops S) (hO : ∀ j, j < (S 19).toNat → am_rowl (I (74 + j)) 0 (sp_ord S j)) (hm : 3 < (S 19).toNat) (hfav : I 71 7 = sp_fav S) (ho : ¬ sp_ops S = 0) (h71 : ρ 71 1 = some 69) (h12 : I 1 2 = S 19) (hhr : I 69 1 = am_bits (sp_hp S) 6) (hh : S (7 + 3) = 0) (haw : ¬ (S (26 + 3) = 6 ∧ S 0 % (S (32 + 3) + 2) = 0)) : am_E X (d + 3) (am_tg [37, 43, 37, 37, 22, 62, 37] K) 0 [(0, .inr (.inr (.inl (some k)))), (1, .inr (.inr (.inl (some 71)))), (2, .inr (.inr (.inl (some (81 + 3)))))] [] (am_mm D I J ρ) (fun q => ∃ Q, q = (none, am_mm D (am_wp (fun c _ => Nat.beq c (81 + 3)) I Q) J ρ) ∧ am_rowl (Q (81 + 3)) 0 (sp_says S 3)) := by
  have hV : 0 ≤ S (32 + 3) ∧ S (32 + 3) ≤ 9 := by
    obtain ⟨o0, oG, oH, oD, o19, o20, o21, o22, o23, o24, oK, oV, _⟩ := hok
    exact oV 3 (by omega)
  obtain ⟨v, hv⟩ : ∃ v : Nat, S (32 + 3) = (v : Int) := ⟨(S (32 + 3)).toNat, by omega⟩
  have hkv := hk2.trans hv
  have h : K = 0 ∨ K = 1 ∨ K = 2 ∨ K = 3 ∨ K = 4 ∨ K = 5 ∨ K = 6 := by omega
  rcases h with rfl | rfl | rfl | rfl | rfl | rfl | rfl
  · rw [sp_says_o ho hh haw (by omega) (by omega) (by omega)]
    exact m_say_4_3 (d + 1) hs hok hk124 hk1 h3 hO hm
  · rw [sp_says_1 ho hh (by omega)]
    exact m_say_p5_3 (d + 1) hs hok hk124 hk1 h3 hO hm hfav ho
  · rw [sp_says_o ho hh haw (by omega) (by omega) (by omega)]
    exact m_say_6_3 (d + 1) hs hok hk124 hk1 h3 hO hm
  · rw [sp_says_o ho hh haw (by omega) (by omega) (by omega)]
    exact m_say_8_3 (d + 1) hs hok hk124 hk1 h3 hO hm
  · rw [sp_says_4 ho hh (by omega) hv]
    exact m_say_f69_3 d hs hok hk124 hk1 h3 hO hm hfav ho hkv (by omega) h71 h12 hhr
  · rw [sp_says_5 ho hh (by omega) hv]
    exact m_say_9_3 (d + 1) hs hok hk124 hk1 h3 hO hm hkv (by omega)
  · rw [sp_says_o ho hh haw (by omega) (by omega) (by omega)]
    exact m_say_0_3 (d + 1) hs hok hk124 hk1 h3 hO hm
theorem m_sayK_69_4 {X : Nat × (Nat → Int)} {D : List (Nat × Nat)} {I J : Nat → Nat → Int} {ρ : Nat → Nat → Option Nat} (d : Nat) {k K : Nat} {S : Nat → Int} {B : Int} (hK : K < 7) (hok : r_ok S B) (hs : (am_S ++ D)[k]? = some (am_kc K, 3)) (hKe : S (26 + 4) = (K : Int)) (hk124 : 124 ≤ k) (hk1 : I k 1 = ((4 : Nat) : Int)) (hk2 : I k 2 = S (32 + 4)) (h3 : I 71 3 = sp_ops S) (hO : ∀ j, j < (S 19).toNat → am_rowl (I (74 + j)) 0 (sp_ord S j)) (hm : 4 < (S 19).toNat) (hfav : I 71 7 = sp_fav S) (ho : ¬ sp_ops S = 0) (h71 : ρ 71 1 = some 69) (h12 : I 1 2 = S 19) (hhr : I 69 1 = am_bits (sp_hp S) 6) (hh : S (7 + 4) = 0) (haw : ¬ (S (26 + 4) = 6 ∧ S 0 % (S (32 + 4) + 2) = 0)) : am_E X (d + 3) (am_tg [37, 43, 37, 37, 22, 62, 37] K) 0 [(0, .inr (.inr (.inl (some k)))), (1, .inr (.inr (.inl (some 71)))), (2, .inr (.inr (.inl (some (81 + 4)))))] [] (am_mm D I J ρ) (fun q => ∃ Q, q = (none, am_mm D (am_wp (fun c _ => Nat.beq c (81 + 4)) I Q) J ρ) ∧ am_rowl (Q (81 + 4)) 0 (sp_says S 4)) := by
  have hV : 0 ≤ S (32 + 4) ∧ S (32 + 4) ≤ 9 := by
    obtain ⟨o0, oG, oH, oD, o19, o20, o21, o22, o23, o24, oK, oV, _⟩ := hok
    exact oV 4 (by omega)
  obtain ⟨v, hv⟩ : ∃ v : Nat, S (32 + 4) = (v : Int) := ⟨(S (32 + 4)).toNat, by omega⟩
  have hkv := hk2.trans hv
  have h : K = 0 ∨ K = 1 ∨ K = 2 ∨ K = 3 ∨ K = 4 ∨ K = 5 ∨ K = 6 := by omega
  rcases h with rfl | rfl | rfl | rfl | rfl | rfl | rfl
  · rw [sp_says_o ho hh haw (by omega) (by omega) (by omega)]
    exact m_say_4_4 (d + 1) hs hok hk124 hk1 h3 hO hm
  · rw [sp_says_1 ho hh (by omega)]
    exact m_say_p5_4 (d + 1) hs hok hk124 hk1 h3 hO hm hfav ho
  · rw [sp_says_o ho hh haw (by omega) (by omega) (by omega)]
    exact m_say_6_4 (d + 1) hs hok hk124 hk1 h3 hO hm
  · rw [sp_says_o ho hh haw (by omega) (by omega) (by omega)]
    exact m_say_8_4 (d + 1) hs hok hk124 hk1 h3 hO hm
  · rw [sp_says_4 ho hh (by omega) hv]
    exact m_say_f69_4 d hs hok hk124 hk1 h3 hO hm hfav ho hkv (by omega) h71 h12 hhr
  · rw [sp_says_5 ho hh (by omega) hv]
    exact m_say_9_4 (d + 1) hs hok hk124 hk1 h3 hO hm hkv (by omega)
  · rw [sp_says_o ho hh haw (by omega) (by omega) (by omega)]
    exact m_say_0_4 (d + 1) hs hok hk124 hk1 h3 hO hm
theorem m_sayK_69_5 {X : Nat × (Nat → Int)} {D : List (Nat × Nat)} {I J : Nat → Nat → Int} {ρ : Nat → Nat → Option Nat} (d : Nat) {k K : Nat} {S : Nat → Int} {B : Int} (hK : K < 7) (hok : r_ok S B) (hs : (am_S ++ D)[k]? = some (am_kc K, 3)) (hKe : S (26 + 5) = (K : Int)) (hk124 : 124 ≤ k) (hk1 : I k 1 = ((5 : Nat) : Int)) (hk2 : I k 2 = S (32 + 5)) (h3 : I 71 3 = sp_ops S) (hO : ∀ j, j < (S 19).toNat → am_rowl (I (74 + j)) 0 (sp_ord S j)) (hm : 5 < (S 19).toNat) (hfav : I 71 7 = sp_fav S) (ho : ¬ sp_ops S = 0) (h71 : ρ 71 1 = some 69) (h12 : I 1 2 = S 19) (hhr : I 69 1 = am_bits (sp_hp S) 6) (hh : S (7 + 5) = 0) (haw : ¬ (S (26 + 5) = 6 ∧ S 0 % (S (32 + 5) + 2) = 0)) : am_E X (d + 3) (am_tg [37, 43, 37, 37, 22, 62, 37] K) 0 [(0, .inr (.inr (.inl (some k)))), (1, .inr (.inr (.inl (some 71)))), (2, .inr (.inr (.inl (some (81 + 5)))))] [] (am_mm D I J ρ) (fun q => ∃ Q, q = (none, am_mm D (am_wp (fun c _ => Nat.beq c (81 + 5)) I Q) J ρ) ∧ am_rowl (Q (81 + 5)) 0 (sp_says S 5)) := by
  have hV : 0 ≤ S (32 + 5) ∧ S (32 + 5) ≤ 9 := by
    obtain ⟨o0, oG, oH, oD, o19, o20, o21, o22, o23, o24, oK, oV, _⟩ := hok
    exact oV 5 (by omega)
  obtain ⟨v, hv⟩ : ∃ v : Nat, S (32 + 5) = (v : Int) := ⟨(S (32 + 5)).toNat, by omega⟩
  have hkv := hk2.trans hv
  have h : K = 0 ∨ K = 1 ∨ K = 2 ∨ K = 3 ∨ K = 4 ∨ K = 5 ∨ K = 6 := by omega
  rcases h with rfl | rfl | rfl | rfl | rfl | rfl | rfl
  · rw [sp_says_o ho hh haw (by omega) (by omega) (by omega)]
    exact m_say_4_5 (d + 1) hs hok hk124 hk1 h3 hO hm
  · rw [sp_says_1 ho hh (by omega)]
    exact m_say_p5_5 (d + 1) hs hok hk124 hk1 h3 hO hm hfav ho
  · rw [sp_says_o ho hh haw (by omega) (by omega) (by omega)]
    exact m_say_6_5 (d + 1) hs hok hk124 hk1 h3 hO hm
  · rw [sp_says_o ho hh haw (by omega) (by omega) (by omega)]
    exact m_say_8_5 (d + 1) hs hok hk124 hk1 h3 hO hm
  · rw [sp_says_4 ho hh (by omega) hv]
    exact m_say_f69_5 d hs hok hk124 hk1 h3 hO hm hfav ho hkv (by omega) h71 h12 hhr
  · rw [sp_says_5 ho hh (by omega) hv]
    exact m_say_9_5 (d + 1) hs hok hk124 hk1 h3 hO hm hkv (by omega)
  · rw [sp_says_o ho hh haw (by omega) (by omega) (by omega)]
    exact m_say_0_5 (d + 1) hs hok hk124 hk1 h3 hO hm
theorem m_sayM_69 {X : Nat × (Nat → Int)} {D : List (Nat × Nat)} {I J : Nat → Nat → Int} {ρ : Nat → Nat → Option Nat} (d : Nat) {k K m : Nat} {S : Nat → Int} {B : Int} (hK : K < 7) (hok : r_ok S B) (hs : (am_S ++ D)[k]? = some (am_kc K, 3)) (hKe : S (26 + m) = (K : Int)) (hk124 : 124 ≤ k) (hk1 : I k 1 = (m : Int)) (hk2 : I k 2 = S (32 + m)) (h3 : I 71 3 = sp_ops S) (hO : ∀ j, j < (S 19).toNat → am_rowl (I (74 + j)) 0 (sp_ord S j)) (hm : m < (S 19).toNat) (hfav : I 71 7 = sp_fav S) (ho : ¬ sp_ops S = 0) (h71 : ρ 71 1 = some 69) (h12 : I 1 2 = S 19) (hhr : I 69 1 = am_bits (sp_hp S) 6) (hh : S (7 + m) = 0) (haw : ¬ (S (26 + m) = 6 ∧ S 0 % (S (32 + m) + 2) = 0)) : am_E X (d + 3) (am_tg [37, 43, 37, 37, 22, 62, 37] K) 0 [(0, .inr (.inr (.inl (some k)))), (1, .inr (.inr (.inl (some 71)))), (2, .inr (.inr (.inl (some (81 + m)))))] [] (am_mm D I J ρ) (fun q => ∃ Q, q = (none, am_mm D (am_wp uS I Q) J ρ) ∧ am_rowl (Q (81 + m)) 0 (sp_says S m) ∧ ∀ j, j ≠ m → ∀ i, Q (81 + j) i = I (81 + j) i) := by
  have h19 := r_ok_19 hok
  refine am_E.imp ?_ (fun q h => am_one (b := 81) (P := fun R => am_rowl R 0 (sp_says S m)) (uS_1 (by omega)) h)
  have h6m : m = 0 ∨ m = 1 ∨ m = 2 ∨ m = 3 ∨ m = 4 ∨ m = 5 := by omega
  rcases h6m with rfl | rfl | rfl | rfl | rfl | rfl
  · exact m_sayK_69_0 d hK hok hs hKe hk124 hk1 hk2 h3 hO hm hfav ho h71 h12 hhr hh haw
  · exact m_sayK_69_1 d hK hok hs hKe hk124 hk1 hk2 h3 hO hm hfav ho h71 h12 hhr hh haw
  · exact m_sayK_69_2 d hK hok hs hKe hk124 hk1 hk2 h3 hO hm hfav ho h71 h12 hhr hh haw
  · exact m_sayK_69_3 d hK hok hs hKe hk124 hk1 hk2 h3 hO hm hfav ho h71 h12 hhr hh haw
  · exact m_sayK_69_4 d hK hok hs hKe hk124 hk1 hk2 h3 hO hm hfav ho h71 h12 hhr hh haw
  · exact m_sayK_69_5 d hK hok hs hKe hk124 hk1 hk2 h3 hO hm hfav ho h71 h12 hhr hh haw
