/-! THE CLASS AND THE REFERENCE: what ties them -/
/-- codes of a club as the class has them -/
def ps_tr (c : Int) : Int := if 0 ≤ c then ((c % 8) * 3 + c / 8 % 4) * 100 + c / 32 else c
/-- clauses: a word (0 like, 1 loath, 2 read, 3 come), its number, its codes -/
abbrev ps_C : Type := Int × Int × List Int
def ps_codes (cs : List ps_C) : List Int := cs.flatMap (fun x => x.2.2)
def ps_kd (w : Int) : Int := if w = 0 then -10 else if w = 1 then -200 else -400
def ps_fl (cs : List ps_C) : List Int := cs.flatMap (fun x => if x.1 = 3 then [] else x.2.2 ++ [ps_kd x.1 - x.2.1])
def ps_nh (c h : Int) : Int := if 0 ≤ c then h + 1 else if c = -1 then h else h - 1
def ps_ht : List Int → Int → Int
  | [], h => h
  | c :: L, h => ps_ht L (ps_nh c h)
def ps_hk : List Int → Int → Prop
  | [], _ => True
  | c :: L, h => ((0 ≤ c ∧ c < 3200 ∧ c % 8 ≤ 5 ∧ c / 8 % 4 ≤ 2 ∧ 0 ≤ h ∧ h < 30) ∨ (c = -1 ∧ 1 ≤ h ∧ h ≤ 30) ∨ ((c = -2 ∨ c = -3) ∧ 2 ≤ h ∧ h ≤ 30)) ∧ ps_hk L (ps_nh c h)
def ps_bal (L : List Int) : Prop := ps_hk L 0 ∧ ps_ht L 0 = 1
def ps_wf (cs : List ps_C) : Prop := cs.length ≤ 10 ∧ (∀ x ∈ cs, (0 ≤ x.1 ∧ x.1 ≤ 3) ∧ (0 ≤ x.2.1 ∧ x.2.1 ≤ 99) ∧ (x.1 = 3 → x.2.2 = []) ∧ (¬ x.1 = 3 → ps_bal x.2.2)) ∧ (ps_codes cs).length ≤ 100
def ps_rel (S : Nat → Int) (cs : List ps_C) : Prop := sp_many S = ((ps_fl cs).length : Int) ∧ (∀ k, k < (ps_fl cs).length → sp_stp S k = (ps_fl cs).getD k 0) ∧ ps_wf cs
/-- a club's cells -/
def c_clk (D : List (Nat × Nat)) (ρ : Nat → Nat → Option Nat) (c : Nat) : Prop := ((am_S ++ D)[c]? = some (1, 10) ∧ (am_S ++ D)[c + 1]? = some (20, 10) ∧ (am_S ++ D)[c + 2]? = some (20, 10) ∧ (am_S ++ D)[c + 3]? = some (20, 10) ∧ (am_S ++ D)[c + 4]? = some (20, 100)) ∧ am_Rf ρ c 4 = some (c + 1) ∧ am_Rf ρ c 5 = some (c + 2) ∧ am_Rf ρ c 6 = some (c + 3) ∧ am_Rf ρ c 7 = some (c + 4)
def c_cs (I : Nat → Nat → Int) (c : Nat) (cs : List ps_C) : Prop := I c 2 = (cs.length : Int) ∧ (∀ i, i < cs.length → I (c + 1) i = (cs.getD i (0, 0, [])).1 ∧ I (c + 2) i = (cs.getD i (0, 0, [])).2.1 ∧ I (c + 3) i = ((ps_codes (cs.take (i + 1))).length : Int)) ∧ ∀ k, k < (ps_codes cs).length → I (c + 4) k = ps_tr ((ps_codes cs).getD k 0)
def c_club (D : List (Nat × Nat)) (I : Nat → Nat → Int) (ρ : Nat → Nat → Option Nat) (c : Nat) (S : Nat → Int) : Prop := c_clk D ρ c ∧ (c = 12 ∨ c = 46 ∨ c = 102 ∨ 124 ≤ c) ∧ I c 0 = sp_come S ∧ ∃ cs, c_cs I c cs ∧ ps_rel S cs
def c_clb (D : List (Nat × Nat)) (I : Nat → Nat → Int) (ρ : Nat → Nat → Option Nat) (a : Nat) (S : Nat → Int) : Prop := ∃ c, ρ a 5 = some c ∧ c_club D I ρ c S
/-- a hall, o cells behind the first one -/
def c_hall (D : List (Nat × Nat)) (I : Nat → Nat → Int) (ρ : Nat → Nat → Option Nat) (o : Nat) (S : Nat → Int) : Prop :=
  (I (1 + o) 2 = S 19 ∧ I (1 + o) 4 = S 20 ∧ I (1 + o) 6 = S 21 ∧ I (1 + o) 8 = S 23 ∧ I (1 + o) 10 = S 22) ∧ c_roll I (2 + o) (3 + o) S ∧
  ((∀ i, i < (S 23).toNat → I (17 + o) i = S (68 + i)) ∧ (∀ i, i < (S 22).toNat → I (18 + o) i = S (62 + i))) ∧
  (∀ b, b < (S 20).toNat → I (6 + o + b) 0 = S (38 + b) ∧ I (6 + o + b) 1 = S (44 + b) ∧ I (6 + o + b) 2 = S (50 + b) ∧ I (6 + o + b) 3 = S (56 + b)) ∧
  c_lo I o S ∧ c_mems D I ρ (4 + o) S ∧ c_clb D I ρ (1 + o) S
def c_seats (D : List (Nat × Nat)) (ρ : Nat → Nat → Option Nat) : Prop := ∀ a m, (a = 4 ∨ a = 38) → m < 6 → ∃ k c, ρ a m = some k ∧ (am_S ++ D)[k]? = some (c, 3) ∧ am_mem c = true
def c_spare (D : List (Nat × Nat)) (ρ : Nat → Nat → Option Nat) : Prop := ∃ c, ρ 0 7 = some c ∧ c_clk D ρ c ∧ (c = 102 ∨ 124 ≤ c) ∧ (∀ e, (ρ 1 5 = some e ∨ ρ 35 5 = some e) → e + 5 ≤ c ∨ c + 5 ≤ e) ∧ ∀ a m k, (a = 4 ∨ a = 38) → m < 6 → ρ a m = some k → k < c ∨ c + 5 ≤ k
def c_rel (D : List (Nat × Nat)) (I : Nat → Nat → Int) (ρ : Nat → Nat → Option Nat) (S T : Nat → Int) (hi ran : Int) (row : Nat → Int) : Prop :=
  c_hall D I ρ 0 S ∧ (I 0 8 = hi ∧ (hi = 1 → c_hall D I ρ 34 T)) ∧ (I 99 0 = ran ∧ ∀ i : Nat, i < 20 → (i : Int) < ran → I 99 (1 + i) = row i) ∧ c_seats D ρ ∧ c_spare D ρ
/-- the cells on which this leans -/
def c_fx (c : Nat) : Prop := c < 69 ∨ c = 99 ∨ (102 ≤ c ∧ c < 107) ∨ 124 ≤ c
section
variable {D : List (Nat × Nat)} {I K : Nat → Nat → Int} {ρ ρ' : Nat → Nat → Option Nat} {S T : Nat → Int}
theorem am_Rf_cg {c j : Nat} (h : ρ' c j = ρ c j) : am_Rf ρ' c j = am_Rf ρ c j := by
  unfold am_Rf
  rw [h]
theorem c_clk_cg {c : Nat} (h : c_clk D ρ c) (hr : ∀ j, ρ' c j = ρ c j) : c_clk D ρ' c := by
  obtain ⟨h1, h2, h3, h4, h5⟩ := h
  exact ⟨h1, (am_Rf_cg (hr 4)).trans h2, (am_Rf_cg (hr 5)).trans h3, (am_Rf_cg (hr 6)).trans h4, (am_Rf_cg (hr 7)).trans h5⟩
theorem c_club_cg {c : Nat} (h : c_club D I ρ c S) (hk : ∀ c i, c_fx c → K c i = I c i) (hr : ∀ k j, k ≠ 71 → ρ' k j = ρ k j) : c_club D K ρ' c S := by
  obtain ⟨h1, h2, h3, cs, ⟨g1, g2, g3⟩, h5⟩ := h
  have hf : ∀ j, j < 5 → c_fx (c + j) := by
    intro j hj
    unfold c_fx
    omega
  have k0 : ∀ i, K c i = I c i := fun i => hk c i (hf 0 (by omega))
  refine ⟨c_clk_cg h1 (fun j => hr c j (by omega)), h2, (k0 0).trans h3, cs, ⟨(k0 2).trans g1, ?_, ?_⟩, h5⟩
  · intro i hi
    have := g2 i hi
    exact ⟨(hk _ i (hf 1 (by omega))).trans this.1, (hk _ i (hf 2 (by omega))).trans this.2.1, (hk _ i (hf 3 (by omega))).trans this.2.2⟩
  · intro k hk2
    exact (hk _ k (hf 4 (by omega))).trans (g3 k hk2)
theorem c_mems_fx {a : Nat} (h : c_mems D I ρ a S) (ha : a ≠ 71) (hk : ∀ c i, c_fx c → K c i = I c i) (hr : ∀ k j, k ≠ 71 → ρ' k j = ρ k j) : c_mems D K ρ' a S := by
  intro m hm
  obtain ⟨k, h1, h2, h3, h4, h5, h6⟩ := h m hm
  have hf : c_fx k := by unfold c_fx; omega
  exact ⟨k, (hr a m ha).trans h1, h2, h3, (hk k 0 hf).trans h4, (hk k 1 hf).trans h5, (hk k 2 hf).trans h6⟩
theorem c_hall_cg {o : Nat} {B : Int} (hok : r_ok S B) (ho : o = 0 ∨ o = 34) (h : c_hall D I ρ o S) (hk : ∀ c i, c_fx c → K c i = I c i) (hr : ∀ k j, k ≠ 71 → ρ' k j = ρ k j) : c_hall D K ρ' o S := by
  have h19 := r_ok_19 hok
  have hf : ∀ c, c < 69 → ∀ i, K c i = I c i := fun c hc i => hk c i (Or.inl hc)
  obtain ⟨⟨a1, a2, a3, a4, a5⟩, ⟨b1, b2, b3, b4⟩, ⟨d1, d2⟩, e1, f1, g1, c, i1, i2⟩ := h
  refine ⟨⟨?_, ?_, ?_, ?_, ?_⟩, ⟨?_, ?_, ?_, ?_⟩, ⟨?_, ?_⟩, ?_, ?_, c_mems_fx g1 (by omega) hk hr, c, (hr _ 5 (by omega)).trans i1, c_club_cg i2 hk hr⟩
  · exact (hf _ (by omega) _).trans a1
  · exact (hf _ (by omega) _).trans a2
  · exact (hf _ (by omega) _).trans a3
  · exact (hf _ (by omega) _).trans a4
  · exact (hf _ (by omega) _).trans a5
  · exact (hf _ (by omega) _).trans b1
  · exact (hf _ (by omega) _).trans b2
  · exact (hf _ (by omega) _).trans b3
  · exact fun m hm => (hf _ (by omega) _).trans (b4 m hm)
  · exact fun i hi => (hf _ (by omega) _).trans (d1 i hi)
  · exact fun i hi => (hf _ (by omega) _).trans (d2 i hi)
  · exact fun b hb => ⟨(hf _ (by omega) _).trans (e1 b hb).1, (hf _ (by omega) _).trans (e1 b hb).2.1, (hf _ (by omega) _).trans (e1 b hb).2.2.1, (hf _ (by omega) _).trans (e1 b hb).2.2.2⟩
  · exact fun m b hm hb => ⟨(hf _ (by omega) _).trans (f1 m b hm hb).1, (hf _ (by omega) _).trans (f1 m b hm hb).2⟩
theorem c_rel_cg {hi ran B : Int} {row : Nat → Int} (hok : r_ok S B) (hokT : hi = 1 → r_ok T B) (h : c_rel D I ρ S T hi ran row) (hk : ∀ c i, c_fx c → K c i = I c i) (hr : ∀ k j, k ≠ 71 → ρ' k j = ρ k j) : c_rel D K ρ' S T hi ran row := by
  obtain ⟨h1, ⟨h2, h3⟩, ⟨h4, h5⟩, h6, c, s1, s2, s3, s4, s5⟩ := h
  refine ⟨c_hall_cg hok (Or.inl rfl) h1 hk hr, ⟨(hk 0 8 (Or.inl (by omega))).trans h2, fun e => c_hall_cg (hokT e) (Or.inr rfl) (h3 e) hk hr⟩, ⟨(hk 99 0 (Or.inr (Or.inl rfl))).trans h4, fun i hi hr2 => (hk 99 _ (Or.inr (Or.inl rfl))).trans (h5 i hi hr2)⟩, ?_, c, (hr 0 7 (by omega)).trans s1, c_clk_cg s2 (fun j => hr c j (by omega)), s3, ?_, ?_⟩
  · intro a m ha hm
    obtain ⟨k, c, g1, g2⟩ := h6 a m ha hm
    exact ⟨k, c, (hr a m (by omega)).trans g1, g2⟩
  · intro e he
    rw [hr 1 5 (by omega), hr 35 5 (by omega)] at he
    exact s4 e he
  · intro a m k ha hm hk2
    rw [hr a m (by omega)] at hk2
    exact s5 a m k ha hm hk2
theorem c_hall_vh {B : Int} (hok : r_ok S B) (h : c_hall D I ρ 0 S) : c_vh D I ρ 2 S := by
  obtain ⟨⟨a1, a2, a3, a4, a5⟩, ⟨b1, b2, b3, b4⟩, ⟨d1, d2⟩, e1, f1, g1, c, i1, i2⟩ := h
  exact ⟨a1, a2, b1, b2, b3, fun m b hm hb => (f1 m b hm hb).1, g1⟩
theorem c_hall_mh (h : c_hall D I ρ 0 S) : c_mh D I ρ S := by
  obtain ⟨⟨a1, a2, a3, a4, a5⟩, ⟨b1, b2, b3, b4⟩, ⟨d1, d2⟩, e1, f1, g1, c, i1, ⟨i2, i3, i4, i5⟩⟩ := h
  exact ⟨a1, a2, f1, g1, c, i1, i2.1.1, i3, i4⟩
end
/-- scratch cells -/
def uZ : Nat → Nat → Bool := fun c _ => (Nat.ble 69 c && Nat.ble c 98) || Nat.beq c 101
theorem uZ_fx {c i : Nat} (h : c_fx c) : uZ c i = false := by
  unfold c_fx at h
  cases e : uZ c i with
  | false => rfl
  | true =>
    exfalso
    unfold uZ at e
    simp at e
    omega
theorem uC_uZ : ∀ c i, uC c i = true → uZ c i = true := by
  intro c i
  unfold uC uZ
  simp
  omega
theorem uV_uZ : ∀ c i, uV c i = true → uZ c i = true := by
  intro c i
  unfold uV uZ
  simp
  omega
theorem uW_uZ : ∀ c i, uW c i = true → uZ c i = true := by
  intro c i
  unfold uW uZ
  simp
  omega
theorem uN_uZ : ∀ c i, uN c i = true → uZ c i = true := by
  intro c i
  unfold uN uZ
  simp
  omega
theorem uP69_uZ : ∀ c i, uP69 c i = true → uZ c i = true := by
  intro c i
  unfold uP69 uZ
  simp
  omega
theorem uK69_uZ : ∀ c i, uK69 c i = true → uZ c i = true := by
  intro c i
  unfold uK69 uZ
  simp
  omega
theorem c_isMember {X : Nat × (Nat → Int)} {D : List (Nat × Nat)} {I J : Nat → Nat → Int} {ρ : Nat → Nat → Option Nat} (d : Nat) {S : Nat → Int} {B v : Int} (hok : r_ok S B) (hv : -2147483648 ≤ v ∧ v < 2147483648) (h : I 1 2 = S 19) : am_E X d 122 0 [(0, .inr (.inr (.inl (some 0)))), (1, .inl v)] [] (am_mm D I J ρ) (fun r => r = (some (.inl ((am_bi (0 ≤ v ∧ v ≤ S 19 - 1)))), (am_mm D I J ρ))) := by
  have h19 := r_ok_19 hok
  refine am_e_ss 1 (q := (1, [(0, .inr (.inr (.inl (some 0)))), (1, .inl v)], [.inl v], (am_mm D I J ρ))) rfl ?_
  refine am_e_if2 rfl ⟨by omega, by omega⟩ (fun (hw1 : v < 0) => ?_) (fun (hw1 : ¬ (v < 0)) => ?_)
  · show am_E _ _ _ 19 [(0, .inr (.inr (.inl (some 0)))), (1, .inl v)] [] (am_mm D I J ρ) _
    refine am_e_ss 1 (q := (20, [(0, .inr (.inr (.inl (some 0)))), (1, .inl v)], [.inl 0], (am_mm D I J ρ))) rfl ?_
    refine am_e_ireturn rfl rfl ?_
    rw [am_bi_f (by omega)]
  · show am_E _ _ _ 4 [(0, .inr (.inr (.inl (some 0)))), (1, .inl v)] [] (am_mm D I J ρ) _
    refine am_e_ss 4 (q := (12, [(0, .inr (.inr (.inl (some 0)))), (1, .inl v)], [.inl ((I 1 2)), .inl v], (am_mm D I J ρ))) rfl ?_
    refine am_e_icmp2 rfl ⟨by omega, by omega⟩ ⟨by omega, by omega⟩ (fun (hw2 : (I 1 2) ≤ v) => ?_) (fun (hw2 : ¬ ((I 1 2) ≤ v)) => ?_)
    · show am_E _ _ _ 19 [(0, .inr (.inr (.inl (some 0)))), (1, .inl v)] [] (am_mm D I J ρ) _
      refine am_e_ss 1 (q := (20, [(0, .inr (.inr (.inl (some 0)))), (1, .inl v)], [.inl 0], (am_mm D I J ρ))) rfl ?_
      refine am_e_ireturn rfl rfl ?_
      rw [am_bi_f (by omega)]
    · show am_E _ _ _ 15 [(0, .inr (.inr (.inl (some 0)))), (1, .inl v)] [] (am_mm D I J ρ) _
      refine am_e_ss 2 (q := (20, [(0, .inr (.inr (.inl (some 0)))), (1, .inl v)], [.inl 1], (am_mm D I J ρ))) rfl ?_
      refine am_e_ireturn rfl rfl ?_
      rw [am_bi_t (by omega)]
theorem c_isBook {X : Nat × (Nat → Int)} {D : List (Nat × Nat)} {I J : Nat → Nat → Int} {ρ : Nat → Nat → Option Nat} (d : Nat) {S : Nat → Int} {B v : Int} (hok : r_ok S B) (hv : -2147483648 ≤ v ∧ v < 2147483648) (h : I 1 4 = S 20) : am_E X d 123 0 [(0, .inr (.inr (.inl (some 0)))), (1, .inl v)] [] (am_mm D I J ρ) (fun r => r = (some (.inl ((am_bi (0 ≤ v ∧ v ≤ S 20 - 1)))), (am_mm D I J ρ))) := by
  have h19 := r_ok_19 hok
  refine am_e_ss 1 (q := (1, [(0, .inr (.inr (.inl (some 0)))), (1, .inl v)], [.inl v], (am_mm D I J ρ))) rfl ?_
  refine am_e_if2 rfl ⟨by omega, by omega⟩ (fun (hw1 : v < 0) => ?_) (fun (hw1 : ¬ (v < 0)) => ?_)
  · show am_E _ _ _ 19 [(0, .inr (.inr (.inl (some 0)))), (1, .inl v)] [] (am_mm D I J ρ) _
    refine am_e_ss 1 (q := (20, [(0, .inr (.inr (.inl (some 0)))), (1, .inl v)], [.inl 0], (am_mm D I J ρ))) rfl ?_
    refine am_e_ireturn rfl rfl ?_
    rw [am_bi_f (by omega)]
  · show am_E _ _ _ 4 [(0, .inr (.inr (.inl (some 0)))), (1, .inl v)] [] (am_mm D I J ρ) _
    refine am_e_ss 4 (q := (12, [(0, .inr (.inr (.inl (some 0)))), (1, .inl v)], [.inl ((I 1 4)), .inl v], (am_mm D I J ρ))) rfl ?_
    refine am_e_icmp2 rfl ⟨by omega, by omega⟩ ⟨by omega, by omega⟩ (fun (hw2 : (I 1 4) ≤ v) => ?_) (fun (hw2 : ¬ ((I 1 4) ≤ v)) => ?_)
    · show am_E _ _ _ 19 [(0, .inr (.inr (.inl (some 0)))), (1, .inl v)] [] (am_mm D I J ρ) _
      refine am_e_ss 1 (q := (20, [(0, .inr (.inr (.inl (some 0)))), (1, .inl v)], [.inl 0], (am_mm D I J ρ))) rfl ?_
      refine am_e_ireturn rfl rfl ?_
      rw [am_bi_f (by omega)]
    · show am_E _ _ _ 15 [(0, .inr (.inr (.inl (some 0)))), (1, .inl v)] [] (am_mm D I J ρ) _
      refine am_e_ss 2 (q := (20, [(0, .inr (.inr (.inl (some 0)))), (1, .inl v)], [.inl 1], (am_mm D I J ρ))) rfl ?_
      refine am_e_ireturn rfl rfl ?_
      rw [am_bi_t (by omega)]
theorem c_isWay {X : Nat × (Nat → Int)} {D : List (Nat × Nat)} {I J : Nat → Nat → Int} {ρ : Nat → Nat → Option Nat} (d : Nat) {v : Int} (hv : -2147483648 ≤ v ∧ v < 2147483648) : am_E X d 124 0 [(0, .inl v)] [] (am_mm D I J ρ) (fun r => r = (some (.inl ((am_bi (0 ≤ v ∧ v ≤ 5)))), (am_mm D I J ρ))) := by
  refine am_e_ss 1 (q := (1, [(0, .inl v)], [.inl v], (am_mm D I J ρ))) rfl ?_
  refine am_e_if2 rfl ⟨by omega, by omega⟩ (fun (hw1 : v < 0) => ?_) (fun (hw1 : ¬ (v < 0)) => ?_)
  · show am_E _ _ _ 14 [(0, .inl v)] [] (am_mm D I J ρ) _
    refine am_e_ss 1 (q := (15, [(0, .inl v)], [.inl 0], (am_mm D I J ρ))) rfl ?_
    refine am_e_ireturn rfl rfl ?_
    rw [am_bi_f (by omega)]
  · show am_E _ _ _ 4 [(0, .inl v)] [] (am_mm D I J ρ) _
    refine am_e_ss 2 (q := (7, [(0, .inl v)], [.inl 6, .inl v], (am_mm D I J ρ))) rfl ?_
    refine am_e_icmp2 rfl ⟨by omega, by omega⟩ ⟨by omega, by omega⟩ (fun (hw2 : 6 ≤ v) => ?_) (fun (hw2 : ¬ (6 ≤ v)) => ?_)
    · show am_E _ _ _ 14 [(0, .inl v)] [] (am_mm D I J ρ) _
      refine am_e_ss 1 (q := (15, [(0, .inl v)], [.inl 0], (am_mm D I J ρ))) rfl ?_
      refine am_e_ireturn rfl rfl ?_
      rw [am_bi_f (by omega)]
    · show am_E _ _ _ 10 [(0, .inl v)] [] (am_mm D I J ρ) _
      refine am_e_ss 2 (q := (15, [(0, .inl v)], [.inl 1], (am_mm D I J ρ))) rfl ?_
      refine am_e_ireturn rfl rfl ?_
      rw [am_bi_t (by omega)]
theorem am_e_gm {X : Nat × (Nat → Int)} {d mid pc n x : Nat} {lv : List (Nat × am_V)} {st : List am_V} {P : am_R → Prop} {D : List (Nat × Nat)} {I J : Nat → Nat → Int} {ρ : Nat → Nat → Option Nat} {v k K f : Nat} (hi : am_ins mid pc = some (.getfield v, n, x)) (hs : (am_S ++ D)[k]? = some (am_kc K, 3)) (hK : K < 7) (hf : ∀ K, K < 7 → am_F x (am_kc K) = some f) (hft : ∀ K, K < 7 → am_ft (am_kc K) f = 0) (hm : f < 3) (h : am_E X d mid (pc + n) lv (.inl (I k f) :: st) (am_mm D I J ρ) P) : am_E X d mid pc lv (.inr (.inr (.inl (some k))) :: st) (am_mm D I J ρ) P := by
  refine am_e_getfield hi hs (hf K hK) (am_kc_lt K hK) hm ?_
  unfold am_gf
  rw [hft K hK]
  exact h
