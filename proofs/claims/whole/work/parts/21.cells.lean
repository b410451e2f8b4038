/-! THE CELLS THAT ARE THERE FROM THE START: their kinds and sizes, what refers to what -/
def am_S : List (Nat × Nat) := [(11, 9), (3, 14), (7, 4), (20, 6), (24, 6), (23, 6), (20, 4), (20, 4), (20, 4), (20, 4), (20, 4), (20, 4), (1, 10), (20, 10), (20, 10), (20, 10), (20, 100), (20, 100), (20, 6), (23, 6), (20, 6), (20, 6), (20, 6), (20, 6), (20, 6), (20, 6), (23, 6), (20, 6), (20, 6), (20, 6), (20, 6), (20, 6), (20, 6), (20, 6), (4, 3), (3, 14), (7, 4), (20, 6), (24, 6), (23, 6), (20, 4), (20, 4), (20, 4), (20, 4), (20, 4), (20, 4), (1, 10), (20, 10), (20, 10), (20, 10), (20, 100), (20, 100), (20, 6), (23, 6), (20, 6), (20, 6), (20, 6), (20, 6), (20, 6), (20, 6), (23, 6), (20, 6), (20, 6), (20, 6), (20, 6), (20, 6), (20, 6), (20, 6), (4, 3), (7, 4), (20, 6), (10, 14), (20, 6), (23, 6), (20, 6), (20, 6), (20, 6), (20, 6), (20, 6), (20, 6), (23, 6), (20, 6), (20, 6), (20, 6), (20, 6), (20, 6), (20, 6), (20, 6), (20, 6), (20, 6), (23, 6), (20, 6), (20, 6), (20, 6), (20, 6), (20, 6), (20, 6), (20, 6), (20, 6), (20, 21), (21, 7), (20, 6), (1, 10), (20, 10), (20, 10), (20, 10), (20, 100), (12, 36), (20, 878), (20, 878), (20, 19), (20, 6), (22, 64), (20, 36), (20, 36), (20, 36), (20, 6), (20, 36), (20, 6), (21, 7), (20, 133), (20, 6), (20, 6), (20, 20)]
def am_S0 : List (List (Option Nat)) := [[some 71, some 1, some 35, some 69, some 99, some 100, some 101, some 102, none], [some 2, some 4, none, some 5, none, some 12, none, some 17, none, some 18, none, some 19, some 26, some 33], [none, none, none, some 3], [], [some 34, some 34, some 34, some 34, some 34, some 34], [some 6, some 7, some 8, some 9, some 10, some 11], [], [], [], [], [], [], [none, none, none, none, some 13, some 14, some 15, some 16, some 16, none], [], [], [], [], [], [], [some 20, some 21, some 22, some 23, some 24, some 25], [], [], [], [], [], [], [some 27, some 28, some 29, some 30, some 31, some 32], [], [], [], [], [], [], [], [none, none, none], [some 36, some 38, none, some 39, none, some 46, none, some 51, none, some 52, none, some 53, some 60, some 67], [none, none, none, some 37], [], [some 68, some 68, some 68, some 68, some 68, some 68], [some 40, some 41, some 42, some 43, some 44, some 45], [], [], [], [], [], [], [none, none, none, none, some 47, some 48, some 49, some 50, some 50, none], [], [], [], [], [], [], [some 54, some 55, some 56, some 57, some 58, some 59], [], [], [], [], [], [], [some 61, some 62, some 63, some 64, some 65, some 66], [], [], [], [], [], [], [], [none, none, none], [none, none, none, some 70], [], [some 1, some 2, some 72, none, some 73, some 80, none, none, some 87, some 88, some 89, some 90, some 97, some 98], [], [some 74, some 75, some 76, some 77, some 78, some 79], [], [], [], [], [], [], [some 81, some 82, some 83, some 84, some 85, some 86], [], [], [], [], [], [], [], [], [], [some 91, some 92, some 93, some 94, some 95, some 96], [], [], [], [], [], [], [], [], [], [], [], [none, none, none, none, some 103, some 104, some 105, some 106, some 106, none], [], [], [], [], [none, some 108, some 109, some 110, none, none, none, none, none, none, some 111, some 112, none, none, some 113, some 114, some 115, some 116, some 117, some 118, none, none, none, none, some 119, none, none, none, some 120, some 121, some 122, some 123, none, none, none, none], [], [], [], [], [], [], [], [], [], [], [], [], [], [], [], []]
/-- the references that change -/
def am_mut (k i : Nat) : Bool := match k with
  | 0 => i == 7
  | 1 => i == 5
  | 35 => i == 5
  | 4 => true
  | 38 => true
  | 71 => i == 1
  | 12 => i == 8
  | 46 => i == 8
  | 102 => i == 8
  | _ => Nat.ble 124 k
def am_Rf (ρ : Nat → Nat → Option Nat) : Nat → Nat → Option Nat := fun k i => if am_mut k i = true then ρ k i else (am_S0.getD k []).getD i none
abbrev am_mm (D : List (Nat × Nat)) (I J : Nat → Nat → Int) (ρ : Nat → Nat → Option Nat) : am_M := (am_S ++ D, I, J, am_Rf ρ)
theorem am_Rf_up {ρ : Nat → Nat → Option Nat} {k i : Nat} {v : Option Nat} (h : am_mut k i = true) : am_up (am_Rf ρ) k i v = am_Rf (am_up ρ k i v) := by
  funext k' i'
  show (if k' = k ∧ i' = i then v else if am_mut k' i' = true then ρ k' i' else (am_S0.getD k' []).getD i' none) = if am_mut k' i' = true then (if k' = k ∧ i' = i then v else ρ k' i') else (am_S0.getD k' []).getD i' none
  by_cases e : k' = k ∧ i' = i
  · obtain ⟨rfl, rfl⟩ := e
    simp [h]
  · simp [e]
abbrev am_bi (p : Prop) [Decidable p] : Int := if p then 1 else 0
section
variable {X : Nat × (Nat → Int)} {d mid pc n x : Nat} {lv : List (Nat × am_V)} {st : List am_V} {M : am_M} {P : am_R → Prop}
theorem am_e_icmp2 {c : ClassFile.Cond} {off : Int} {z y : Int} (hi : am_ins mid pc = some (.if_icmp c off, n, x)) (hz : -2147483648 ≤ z ∧ z < 2147483648) (hy : -2147483648 ≤ y ∧ y < 2147483648) (ht : am_cp2 c z y → am_E X d mid x lv st M P) (hf : ¬ am_cp2 c z y → am_E X d mid (pc + n) lv st M P) : am_E X d mid pc lv (.inl y :: .inl z :: st) M P := by
  refine am_e_icmp hi ?_ ?_
  · rw [am_w_id hz.1 hz.2, am_w_id hy.1 hy.2]; exact ht
  · rw [am_w_id hz.1 hz.2, am_w_id hy.1 hy.2]; exact hf
theorem am_e_if2 {c : ClassFile.Cond} {off : Int} {z : Int} (hi : am_ins mid pc = some (.ifCond c off, n, x)) (hz : -2147483648 ≤ z ∧ z < 2147483648) (ht : am_cp2 c z 0 → am_E X d mid x lv st M P) (hf : ¬ am_cp2 c z 0 → am_E X d mid (pc + n) lv st M P) : am_E X d mid pc lv (.inl z :: st) M P := by
  refine am_e_if hi ?_ ?_
  · rw [am_w_id hz.1 hz.2]; exact ht
  · rw [am_w_id hz.1 hz.2]; exact hf
theorem am_bi_w {p : Prop} [Decidable p] : am_w (am_bi p) = am_bi p := by
  unfold am_bi
  split <;> decide
theorem am_e_ifeq {off : Int} {p : Prop} [Decidable p] (hi : am_ins mid pc = some (.ifCond .eq off, n, x)) (ht : ¬ p → am_E X d mid x lv st M P) (hf : p → am_E X d mid (pc + n) lv st M P) : am_E X d mid pc lv (.inl (am_bi p) :: st) M P := by
  refine am_e_if hi (fun h => ht ?_) (fun h => hf ?_)
  · rw [am_bi_w] at h
    intro hp
    have h : am_bi p = 0 := h
    unfold am_bi at h
    rw [if_pos hp] at h
    omega
  · rw [am_bi_w] at h
    have h : ¬ am_bi p = 0 := h
    unfold am_bi at h
    by_cases hp : p
    · exact hp
    · rw [if_neg hp] at h
      omega
theorem am_e_ifne {off : Int} {p : Prop} [Decidable p] (hi : am_ins mid pc = some (.ifCond .ne off, n, x)) (ht : p → am_E X d mid x lv st M P) (hf : ¬ p → am_E X d mid (pc + n) lv st M P) : am_E X d mid pc lv (.inl (am_bi p) :: st) M P := by
  refine am_e_if hi (fun h => ht ?_) (fun h => hf ?_)
  · rw [am_bi_w] at h
    have h : ¬ am_bi p = 0 := h
    unfold am_bi at h
    by_cases hp : p
    · exact hp
    · rw [if_neg hp] at h
      omega
  · rw [am_bi_w] at h
    intro hp
    have h : ¬ ¬ am_bi p = 0 := h
    unfold am_bi at h
    rw [if_pos hp] at h
    omega
theorem am_rok_bi {p : Prop} [Decidable p] (h : am_r mid = some .boolean) : am_rok mid (some (.inl (am_bi p))) = true := by
  unfold am_rok
  rw [h]
  show (decide ((if p then (1 : Int) else 0) = 0) || decide ((if p then (1 : Int) else 0) = 1)) = true
  by_cases hp : p
  · rw [if_pos hp]; rfl
  · rw [if_neg hp]; rfl
theorem am_e_tabIn {dflt lo hh off : Int} {offs : Array Int} {z : Int} {t : Nat} (hi : am_ins mid pc = some (.tableswitch dflt lo hh offs, n, x)) (hz : -2147483648 ≤ z ∧ z < 2147483648) (h1 : lo ≤ z ∧ z ≤ hh) (ho : offs[(z - lo).toNat]? = some off) (ht : ((pc : Int) + off).toNat = t) (h : am_E X d mid t lv st M P) : am_E X d mid pc lv (.inl z :: st) M P := by
  subst ht
  refine am_e_s hi (q := (((pc : Int) + off).toNat, lv, st, M)) ?_ h
  simp only [am_s]
  rw [am_w_id hz.1 hz.2, if_neg (by omega), ho]
theorem am_e_tabOut {dflt lo hh : Int} {offs : Array Int} {z : Int} {t : Nat} (hi : am_ins mid pc = some (.tableswitch dflt lo hh offs, n, x)) (hz : -2147483648 ≤ z ∧ z < 2147483648) (h1 : z < lo ∨ hh < z) (ht : ((pc : Int) + dflt).toNat = t) (h : am_E X d mid t lv st M P) : am_E X d mid pc lv (.inl z :: st) M P := by
  subst ht
  refine am_e_s hi (q := (((pc : Int) + dflt).toNat, lv, st, M)) ?_ h
  simp only [am_s]
  rw [am_w_id hz.1 hz.2, if_pos h1]
theorem am_e_look {dflt off : Int} {ps : Array (Int × Int)} {z : Int} {t : Nat} (hi : am_ins mid pc = some (.lookupswitch dflt ps, n, x)) (hz : -2147483648 ≤ z ∧ z < 2147483648) (ho : Op.lookupswitch.offset ps.toList dflt z = off) (ht : ((pc : Int) + off).toNat = t) (h : am_E X d mid t lv st M P) : am_E X d mid pc lv (.inl z :: st) M P := by
  subst ht
  subst ho
  refine am_e_s hi (q := (((pc : Int) + Op.lookupswitch.offset ps.toList dflt z).toNat, lv, st, M)) ?_ h
  simp only [am_s]
  rw [am_w_id hz.1 hz.2]
theorem am_bi_t {p : Prop} [Decidable p] (h : p) : am_bi p = 1 := if_pos h
theorem am_bi_f {p : Prop} [Decidable p] (h : ¬ p) : am_bi p = 0 := if_neg h
end
/-- a row of the memory, whole -/
def am_sr (I : Nat → Nat → Int) (c : Nat) (r : Nat → Int) : Nat → Nat → Int := fun c' i => if c' = c then r i else I c' i
def am_u1 (r : Nat → Int) (i : Nat) (v : Int) : Nat → Int := fun j => if j = i then v else r j
theorem am_up_sr {I : Nat → Nat → Int} {c i : Nat} {v : Int} : am_up I c i v = am_sr I c (am_u1 (I c) i v) := by
  funext c' i'
  unfold am_up am_sr am_u1
  by_cases h1 : c' = c
  · subst h1
    by_cases h2 : i' = i <;> simp [h2]
  · simp [h1]
theorem am_sr_at {I : Nat → Nat → Int} {c : Nat} {r : Nat → Int} : am_sr I c r c = r := by
  funext i
  unfold am_sr
  rw [if_pos rfl]
theorem am_sr_ne {I : Nat → Nat → Int} {c c' : Nat} {r : Nat → Int} (h : c' ≠ c) : am_sr I c r c' = I c' := by
  funext i
  unfold am_sr
  rw [if_neg h]
theorem am_sr_sr {I : Nat → Nat → Int} {c : Nat} {r r' : Nat → Int} : am_sr (am_sr I c r) c r' = am_sr I c r' := by
  funext c' i'
  unfold am_sr
  by_cases h1 : c' = c <;> simp [h1]
theorem am_sr_self {I : Nat → Nat → Int} {c : Nat} : am_sr I c (I c) = I := by
  funext c' i'
  unfold am_sr
  by_cases h1 : c' = c <;> simp [h1]
theorem am_sr_comm {I : Nat → Nat → Int} {c e : Nat} {r r' : Nat → Int} (h : c ≠ e) : am_sr (am_sr I c r) e r' = am_sr (am_sr I e r') c r := by
  funext c' i'
  unfold am_sr
  by_cases h1 : c' = c
  · subst h1
    simp [h]
  · by_cases h2 : c' = e
    · subst h2
      simp [h1]
    · simp [h1, h2]
theorem am_u1_at {r : Nat → Int} {i : Nat} {v : Int} : am_u1 r i v i = v := if_pos rfl
theorem am_u1_ne {r : Nat → Int} {i j : Nat} {v : Int} (h : j ≠ i) : am_u1 r i v j = r j := if_neg h
def am_nd : List Nat → Bool
  | [] => true
  | a :: l => !(l.elem a) && am_nd l
theorem am_nd_ok {l : List Nat} (h : am_nd l = true) : l.Nodup := by
  induction l with
  | nil => exact List.nodup_nil
  | cons a l ih =>
    have h : (!(l.elem a) && am_nd l) = true := h
    rw [Bool.and_eq_true, Bool.not_eq_true'] at h
    refine List.nodup_cons.mpr ⟨fun hm => ?_, ih h.2⟩
    rw [List.elem_eq_true_of_mem hm] at h
    exact absurd h.1 (by decide)
theorem am_less {X : Nat × (Nat → Int)} {d mid pc : Nat} {lv lv' : List (Nat × am_V)} {st : List am_V} {M : am_M} {P : am_R → Prop} (hn : am_nd (lv.map (fun q => q.1)) = true) (hs : ∀ q ∈ lv, lv'.lookup q.1 = some q.2) (h : am_E X d mid pc lv st M P) : am_E X d mid pc lv' st M P := h.less (am_nd_ok hn) hs
