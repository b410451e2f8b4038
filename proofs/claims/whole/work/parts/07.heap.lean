/-! steps that read and write cells -/
def am_fok (k : Nat) (ty : FieldType) : Bool := match k, ty with
  | 0, .int => true
  | 3, .boolean => true
  | 2, .object _ => true
  | 2, .array _ => true
  | _, _ => false
def am_CO (c : Nat) (r : vw_C) (ty0 : Nat → FieldType) : Prop := vwCl[c]? = some r ∧ r.2.2 = am_nf c ∧ (∀ w ∈ u_ws r.1 r.2.1 r.2.2, w ∈ am_tb) ∧ Cond.instantiable r.1 r.2.2 ∈ am_tb ∧ Cond.initialized r.1 ∈ am_tb ∧ (∀ k, k < r.2.2 → parseFieldDescriptor (r.2.1 k).2.2.1 = some (ty0 k)) ∧ (∀ a, a < r.2.2 → ∀ b, b < r.2.2 → a ≠ b → (r.2.1 a).2.1 ≠ (r.2.1 b).2.1) ∧ ∀ k, k < r.2.2 → am_fok (am_ft c k) (ty0 k) = true
/-- the kinds' tables are the launch's -/
def am_COs : Prop := ∀ c, c < 13 → ∃ r ty0, am_CO c r ty0
/-- a field's place in the constant pool of a kind's code -/
def am_FO (own : String) (idx x : Nat) : Prop := ∀ c f, am_F x c = some f → c < 13 → ∀ r, vwCl[c]? = some r → f < r.2.2 ∧ ∃ ref, Cond.fieldLink own idx ref (r.2.1 f).2.1 (r.2.1 f).2.2.1 ∈ am_tb ∧ (ref = (r.2.1 f).1 ∨ Cond.sameField ref (r.2.1 f).1 (r.2.1 f).2.1 (r.2.1 f).2.2.1 ∈ am_tb)
def am_FF (mid x : Nat) : Prop := ∀ c f, am_F x c = some f → c < 13 → ∀ r, vwCl[c]? = some r → (r.2.1 f).2.2.2 = false ∨ ((r.2.1 f).2.2.2 = true ∧ (am_y mid).name = "<init>" ∧ (r.2.1 f).1 = (am_y mid).cls)
theorem am_inb_spec {j : Int} {n : Nat} (h : am_inb j n = true) : 0 ≤ j ∧ j < n ∧ j < 10000 := by
  unfold am_inb at h
  simpa using h
theorem am_i32 {j : Int} (h0 : 0 ≤ j) (h1 : j < 2147483648) : (Int32.ofInt j).toInt = j := by
  exact Int32.toInt_ofInt_of_le (by omega) (by omega)
theorem am_clamp {j : Int} (h0 : 0 ≤ j) (h1 : j < 2147483648) : (Int32.ofInt j).toNatClampNeg = j.toNat := by
  show (Int32.ofInt j).toInt.toNat = j.toNat
  rw [am_i32 h0 h1]
theorem am_nneg {j : Int} (h0 : 0 ≤ j) (h1 : j < 2147483648) : ¬ Int32.ofInt j < 0 := by
  rw [Int32.lt_iff_toInt_lt, am_i32 h0 h1]
  have : (0 : Int32).toInt = 0 := by decide
  omega
theorem am_vp {j : Int} {n : Nat} (h : am_inb j n = true) : vp_in (Int32.ofInt j) n ∧ (Int32.ofInt j).toNatClampNeg = j.toNat := by
  obtain ⟨h0, h1, h2⟩ := am_inb_spec h
  have hc := am_clamp h0 (show j < 2147483648 by omega)
  refine ⟨fun q => ?_, hc⟩
  rcases q with q | q
  · exact am_nneg h0 (by omega) q
  · rw [hc] at q; omega
theorem am_ty0 (G : am_G) : (am_tys G)[0]? = some (G.2.1 0, .int) := rfl
theorem am_ce20 {G : am_G} {a : Nat → Nat} {M : am_M} {k : Nat} {s : Nat × Nat} (h : s.1 = 20) : am_ce G a M k s = .inl (G.2.1 0, s.2, .inl (fun i => Int32.ofInt (M.2.1 k i))) := by unfold am_ce; rw [if_pos h]
theorem am_ce21 {G : am_G} {a : Nat → Nat} {M : am_M} {k : Nat} {s : Nat × Nat} (h : s.1 = 21) : am_ce G a M k s = .inl (G.2.1 1, s.2, .inr (.inl (fun i => Int64.ofInt (M.2.2.1 k i)))) := by unfold am_ce; rw [if_neg (by omega), if_pos h]
theorem am_ce22 {G : am_G} {a : Nat → Nat} {M : am_M} {k : Nat} {s : Nat × Nat} (h : s.1 = 22) : am_ce G a M k s = .inl (G.2.1 2, s.2, .inl (fun i => Int32.ofInt (M.2.1 k i))) := by unfold am_ce; rw [if_neg (by omega), if_neg (by omega), if_pos h]
theorem am_ce23 {G : am_G} {a : Nat → Nat} {M : am_M} {k : Nat} {s : Nat × Nat} (h : s.1 = 23) : am_ce G a M k s = .inl (G.2.1 3, s.2, .inr (.inr (.inr (.inr (fun i => (M.2.2.2 k i).map a))))) := by unfold am_ce; rw [if_neg (by omega), if_neg (by omega), if_neg (by omega), if_pos h]
theorem am_ce24 {G : am_G} {a : Nat → Nat} {M : am_M} {k : Nat} {s : Nat × Nat} (h : s.1 = 24) : am_ce G a M k s = .inl (G.2.1 4, s.2, .inr (.inr (.inr (.inr (fun i => (M.2.2.2 k i).map a))))) := by unfold am_ce; rw [if_neg (by omega), if_neg (by omega), if_neg (by omega), if_neg (by omega), if_pos h]
theorem am_ceo {G : am_G} {a : Nat → Nat} {M : am_M} {k : Nat} {s : Nat × Nat} (h : s.1 < 13) : am_ce G a M k s = .inr (s.1, (List.range s.2).map (fun i => am_tr G a (am_gf M s.1 k i))) := by unfold am_ce; rw [if_neg (by omega), if_neg (by omega), if_neg (by omega), if_neg (by omega), if_neg (by omega)]
theorem am_off {M : am_M} {k i : Nat} {v : Int} : ∀ q, q ≠ k → (am_pI M k i v).2.1 q = M.2.1 q ∧ (am_pI M k i v).2.2.1 q = M.2.2.1 q ∧ (am_pI M k i v).2.2.2 q = M.2.2.2 q := fun q h => ⟨am_up_ne h, rfl, rfl⟩
theorem am_offJ {M : am_M} {k i : Nat} {v : Int} : ∀ q, q ≠ k → (am_pJ M k i v).2.1 q = M.2.1 q ∧ (am_pJ M k i v).2.2.1 q = M.2.2.1 q ∧ (am_pJ M k i v).2.2.2 q = M.2.2.2 q := fun q h => ⟨rfl, am_up_ne h, rfl⟩
theorem am_offR {M : am_M} {k i : Nat} {v : Option Nat} : ∀ q, q ≠ k → (am_pR M k i v).2.1 q = M.2.1 q ∧ (am_pR M k i v).2.2.1 q = M.2.2.1 q ∧ (am_pR M k i v).2.2.2 q = M.2.2.2 q := fun q h => ⟨rfl, rfl, am_up_ne h⟩
theorem am_wf_pR {M : am_M} {k i : Nat} {v : Option Nat} (h : am_wf M) (hv : ∀ r, v = some r → r < M.1.length) : am_wf (am_pR M k i v) := by
  intro k' i' r hr
  have hr : (if k' = k ∧ i' = i then v else M.2.2.2 k' i') = some r := hr
  split at hr
  · exact hv r hr
  · exact h k' i' r hr
theorem am_wfv_of {n : Nat} {r : Option Nat} (h : am_wfv n (.inr (.inr (.inl r)))) : ∀ k, r = some k → k < n := fun k hk => h k (by rw [hk])
theorem am_gf_wf {M : am_M} {c k f : Nat} (h : am_wf M) : am_wfv M.1.length (am_gf M c k f) := by
  intro r hr
  unfold am_gf at hr
  split at hr
  · cases hr
  · cases hr
  · cases hr
  · exact h k f r (by injection hr with h1; injection h1 with h2; injection h2)
theorem am_same {s : State} {args : Array Value} {ref own nm ds : String} (hts : ∀ w ∈ am_tb, w.before args s = true) (h : ref = own ∨ Cond.sameField ref own nm ds ∈ am_tb) : ∀ x, s.fieldFound? own nm ds = some x → s.fieldFound? ref nm ds = some x := by
  rcases h with h | h
  · subst h; exact fun _ h => h
  · exact fun x hx => u_same (hts _ h) x hx
theorem am_narrow {k : Nat} {ty : FieldType} (hk : am_fok k ty = true) {G : am_G} {a : Nat → Nat} {v : am_V} {M M' : am_M} {c q f : Nat} (hf : am_ft c f = k) (hp : am_pf M c q f v = some M') : narrow ty (am_tr G a v) = am_tr G a v ∧ fits ty (am_tr G a v) = true := by
  unfold am_pf at hp
  rw [hf] at hp
  split at hp
  · rename_i z
    cases ty <;> simp [am_fok] at hk
    exact ⟨rfl, rfl⟩
  · rename_i z
    cases ty <;> simp [am_fok] at hk
    split at hp
    · rename_i hz
      rcases hz with rfl | rfl
      · exact ⟨by show narrow .boolean (.int (Int32.ofInt 0)) = .int (Int32.ofInt 0); decide +kernel, by show fits .boolean (.int (Int32.ofInt 0)) = true; decide +kernel⟩
      · exact ⟨by show narrow .boolean (.int (Int32.ofInt 1)) = .int (Int32.ofInt 1); decide +kernel, by show fits .boolean (.int (Int32.ofInt 1)) = true; decide +kernel⟩
    · cases hp
  · rename_i r
    cases ty <;> simp [am_fok] at hk <;> (cases r <;> exact ⟨rfl, rfl⟩)
  · cases hp
/-- what a write of a field makes of the cell's list -/
theorem am_pf_cell {G : am_G} {a : Nat → Nat} {v : am_V} {M M' : am_M} {c q f n : Nat} (hp : am_pf M c q f v = some M') : ((List.range n).map (fun i => am_tr G a (am_gf M c q i))).set f (am_tr G a v) = (List.range n).map (fun i => am_tr G a (am_gf M' c q i)) := by
  have key : ∀ i, am_gf M' c q i = if i = f then v else am_gf M c q i := by
    intro i
    unfold am_pf at hp
    split at hp
    · rename_i z hz
      cases hp
      by_cases e : i = f
      · subst e
        rw [if_pos rfl]
        unfold am_gf
        rw [hz]
        show Sum.inl (am_up M.2.1 q i z q i) = _
        rw [am_up_row, if_pos rfl]
      · rw [if_neg e]
        unfold am_gf
        show (match am_ft c i with | 0 => Sum.inl (am_up M.2.1 q f z q i) | 3 => Sum.inl (am_up M.2.1 q f z q i) | 1 => Sum.inr (Sum.inl (M.2.2.1 q i)) | _ => Sum.inr (Sum.inr (Sum.inl (M.2.2.2 q i)))) = _
        rw [am_up_row, if_neg e]
        rfl
    · rename_i z hz
      split at hp
      · cases hp
        by_cases e : i = f
        · subst e
          rw [if_pos rfl]
          unfold am_gf
          rw [hz]
          show Sum.inl (am_up M.2.1 q i z q i) = _
          rw [am_up_row, if_pos rfl]
        · rw [if_neg e]
          unfold am_gf
          show (match am_ft c i with | 0 => Sum.inl (am_up M.2.1 q f z q i) | 3 => Sum.inl (am_up M.2.1 q f z q i) | 1 => Sum.inr (Sum.inl (M.2.2.1 q i)) | _ => Sum.inr (Sum.inr (Sum.inl (M.2.2.2 q i)))) = _
          rw [am_up_row, if_neg e]
          rfl
      · cases hp
    · rename_i z hz
      cases hp
      by_cases e : i = f
      · subst e
        rw [if_pos rfl]
        unfold am_gf
        rw [hz]
        show Sum.inr (Sum.inr (Sum.inl (am_up M.2.2.2 q i z q i))) = _
        rw [am_up_row, if_pos rfl]
      · rw [if_neg e]
        unfold am_gf
        show (match am_ft c i with | 0 => Sum.inl (M.2.1 q i) | 3 => Sum.inl (M.2.1 q i) | 1 => Sum.inr (Sum.inl (M.2.2.1 q i)) | _ => Sum.inr (Sum.inr (Sum.inl (am_up M.2.2.2 q f z q i)))) = _
        rw [am_up_row, if_neg e]
        rfl
    · cases hp
  apply List.ext_getElem?
  intro i
  rw [List.getElem?_set, List.getElem?_map, List.getElem?_map, List.length_map, List.length_range]
  by_cases hi : i < n
  · rw [List.getElem?_range hi]
    by_cases e : f = i
    · subst e
      rw [if_pos rfl, if_pos hi]
      simp only [Option.map_some, key, if_pos]
    · rw [if_neg e]
      simp only [Option.map_some, key, if_neg (show ¬ i = f from fun h => e h.symm)]
  · have hn : (List.range n)[i]? = none := List.getElem?_eq_none (by rw [List.length_range]; omega)
    rw [hn]
    by_cases e : f = i
    · subst e
      rw [if_pos rfl, if_neg hi]
      rfl
    · rw [if_neg e]
      rfl
theorem am_pf_sh {v : am_V} {M M' : am_M} {c q f : Nat} (hp : am_pf M c q f v = some M') : M'.1 = M.1 ∧ (∀ k, k ≠ q → M'.2.1 k = M.2.1 k ∧ M'.2.2.1 k = M.2.2.1 k ∧ M'.2.2.2 k = M.2.2.2 k) ∧ (am_wf M → am_wfv M.1.length v → am_wf M') := by
  unfold am_pf at hp
  split at hp
  · cases hp
    exact ⟨rfl, am_off, fun w _ => w⟩
  · split at hp
    · cases hp
      exact ⟨rfl, am_off, fun w _ => w⟩
    · cases hp
  · cases hp
    exact ⟨rfl, am_offR, fun w hv => am_wf_pR w (am_wfv_of hv)⟩
  · cases hp

section
variable {l : Launch} {G : am_G} {X : Nat × (Nat → Int)} {mid pc n x : Nat} {lv : List (Nat × am_V)} {st : List am_V} {M : am_M} {q : Nat × List (Nat × am_V) × List am_V × am_M}

theorem am_k_getfield {v : Nat} (hd : decode (am_b mid) pc = .ok (.getfield v, 3)) (hCO : am_COs) (hF : am_FO (am_y mid).cls v x) (hSt : ∀ f, am_F x 13 = some f → (f = 0 ∧ Cond.fieldLink (am_y mid).cls v "java/lang/String" "value" "[B" ∈ am_tb) ∨ (f = 1 ∧ Cond.fieldLink (am_y mid).cls v "java/lang/String" "coder" "B" ∈ am_tb)) (h : am_s X pc lv st M (.getfield v) 3 x = some q) : am_Stp l G X mid pc lv st M q.1 q.2.1 q.2.2.1 q.2.2.2 := by
  simp only [am_s] at h
  split at h
  · rename_i k st'
    split at h
    · rename_i sh hs
      split at h
      · rename_i f hf
        split at h
        · rename_i hc
          cases h
          refine am_Stp.pureW (fun w1 w2 w3 => am_wfs_cons (am_gf_wf w1) (am_wfs_tl w3)) (fun p e R s m args below meth c A Q a ls H locs cells slots C hl hW k => ?_)
          rename_i k' hW0 _
          obtain ⟨r, ty0, hr, hn, hin, -, -, -, -, -⟩ := hCO sh.1 hc.1
          obtain ⟨hfn, ref, hlk, hsm⟩ := hF sh.1 f hf hc.1 r hr
          obtain ⟨hx, hb, hml, hown, hts, hK, -⟩ := C
          have he := am_ws_get (G := G) (a := a) hs
          rw [am_ceo hc.1] at he
          exact va_get (T := r.2.1) (N := r.2.2) (C := r.1) (ci := sh.1) hx hb hts hin hown hK hW.1 k' he hr f hfn (hts _ hlk) (am_same hts hsm) (by rw [List.getElem?_map, List.getElem?_range hc.2]; rfl) hd k
        · cases h
      · cases h
    · cases h
  · rename_i ev st'
    split at h
    · rename_i he
      obtain ⟨he1, he2⟩ := he
      split at h
      · rename_i hf
        cases h
        refine am_Stp.pure (fun w2 w3 => am_wfs_cons (am_wfv_e _ _) (am_wfs_tl w3)) (fun p e R s m args below meth c A Q a ls H locs cells slots C hl hW k => ?_)
        obtain ⟨hx, hb, hml, hown, hts, hK, hnm, hA, -, -, -, -, -, ⟨adK, adV, hvk, had, -⟩, -⟩ := C
        obtain ⟨j, hj⟩ : ∃ j, ev = 1 + 2 * j := ⟨ev / 2, by omega⟩
        subst hj
        have hj : j < 10 := by omega
        rcases hSt 0 hf with ⟨-, hlk⟩ | ⟨h0, -⟩
        · have k2 : W p l e R s m args below meth c H locs cells slots Q (F0 m (pc + 3) ls (.ref (adV j) :: am_sv G a st')) := by
            have e2 : am_tr G a (.inr (.inr (.inr (1 + 2 * j + 1)))) = .ref (adV j) := by
              show va_rf (G.2.2 (1 + 2 * j + 1)) = _
              rw [show 1 + 2 * j + 1 = 2 + 2 * j by omega, (had j hj).2]; rfl
            rw [← e2]; exact k
          have e1 : am_tr G a (.inr (.inr (.inr (1 + 2 * j)))) = .ref (adK j) := by
            show va_rf (G.2.2 (1 + 2 * j)) = _
            rw [(had j hj).1]; rfl
          show W p l e R s m args below meth c H locs cells slots Q (F0 m pc ls (am_tr G a (.inr (.inr (.inr (1 + 2 * j)))) :: am_sv G a st'))
          rw [e1]
          exact vk_getf hx hb (hvk.1 j hj).2.2.1 hW.2.2 hown (hts _ hlk) (fun _ h => h) hd k2
        · omega
      · rename_i hf
        cases h
        refine am_Stp.pure (fun w2 w3 => am_wfs_cons (am_wfv_i _ _) (am_wfs_tl w3)) (fun p e R s m args below meth c A Q a ls H locs cells slots C hl hW k => ?_)
        obtain ⟨hx, hb, hml, hown, hts, hK, hnm, hA, -, -, -, -, -, ⟨adK, adV, hvk, had, -⟩, -⟩ := C
        obtain ⟨j, hj⟩ : ∃ j, ev = 1 + 2 * j := ⟨ev / 2, by omega⟩
        subst hj
        have hj : j < 10 := by omega
        rcases hSt 1 hf with ⟨h0, -⟩ | ⟨-, hlk⟩
        · omega
        · have e1 : am_tr G a (.inr (.inr (.inr (1 + 2 * j)))) = .ref (adK j) := by
            show va_rf (G.2.2 (1 + 2 * j)) = _
            rw [(had j hj).1]; rfl
          show W p l e R s m args below meth c H locs cells slots Q (F0 m pc ls (am_tr G a (.inr (.inr (.inr (1 + 2 * j)))) :: am_sv G a st'))
          rw [e1]
          exact vk_getf hx hb (hvk.1 j hj).2.1 hW.2.2 hown (hts _ hlk) (fun _ h => h) hd k
      · cases h
    · cases h
  · cases h
theorem am_k_putfield {v : Nat} (hd : decode (am_b mid) pc = .ok (.putfield v, 3)) (hCO : am_COs) (hF : am_FO (am_y mid).cls v x) (hFF : am_FF mid x) (h : am_s X pc lv st M (.putfield v) 3 x = some q) : am_Stp l G X mid pc lv st M q.1 q.2.1 q.2.2.1 q.2.2.2 := by
  simp only [am_s] at h
  split at h
  · rename_i v' k st'
    split at h
    · rename_i sh hs
      split at h
      · rename_i f hf
        split at h
        · rename_i hc
          obtain ⟨M', hp, rfl⟩ := Option.map_eq_some_iff.mp h
          obtain ⟨g1, g2, g3⟩ := am_pf_sh hp
          refine am_Stp.put g1 (fun w1 w3 => ⟨g3 w1 (am_wfs_hd w3), am_wfs_tl (am_wfs_tl w3)⟩) (fun p e R s m args below meth c A Q a ls H locs cells slots C hl w3 hW kk => ?_)
          obtain ⟨r, ty0, hr, hn, hin, -, -, hty, hnm, hok⟩ := hCO sh.1 hc.1
          obtain ⟨hfn, ref, hlk, hsm⟩ := hF sh.1 f hf hc.1 r hr
          obtain ⟨hx, hb, hml, hown, hts, hK, hmn, -⟩ := C
          have he := am_ws_get (G := G) (a := a) hs
          rw [am_ceo hc.1] at he
          obtain ⟨n1, n2⟩ := am_narrow (G := G) (a := a) (hok f hfn) rfl hp
          have hset : ∀ H1 locs1, va_P G.1 vwCl ((am_ws G a M).set k (a k, .inr (sh.1, ((List.range sh.2).map (fun i => am_tr G a (am_gf M sh.1 k i))).set f (am_tr G a v')))) H1 → va_D A ((am_ws G a M).set k (a k, .inr (sh.1, ((List.range sh.2).map (fun i => am_tr G a (am_gf M sh.1 k i))).set f (am_tr G a v')))) → va_S A s.heap H1 locs1 → W p l e R s m args below meth c H1 locs1 cells slots Q (F0 m (pc + 3) ls (am_sv G a st')) := by
            intro H1 locs1 q1 q2 q3
            rw [am_pf_cell hp, ← am_ceo hc.1, am_ws_set g1 hs g2 rfl] at q1 q2
            exact kk H1 locs1 ⟨q1, q2, q3⟩
          rcases hFF sh.1 f hf hc.1 r hr with hfin | ⟨hfin, hi, hdc⟩
          · exact va_put (T := r.2.1) (N := r.2.2) (C := r.1) (ci := sh.1) hx hb hts hin ty0 hty hnm hown hK hW.1 hW.2.1 hW.2.2 k he hr f hfn (hts _ hlk) (am_same hts hsm) hfin (hty f hfn) n1 n2 (by rw [List.length_map, List.length_range]; exact hc.2) hd hset
          · exact va_putF (T := r.2.1) (N := r.2.2) (C := r.1) (ci := sh.1) hx hb hts hin ty0 hty hnm hown hK hW.1 hW.2.1 hW.2.2 k he hr f hfn (hts _ hlk) (am_same hts hsm) hfin (hmn hi) hdc (hty f hfn) n1 n2 (by rw [List.length_map, List.length_range]; exact hc.2) hd hset
        · cases h
      · cases h
    · cases h
  · cases h
end
