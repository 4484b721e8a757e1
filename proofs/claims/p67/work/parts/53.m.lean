section QB
/-! sets of columns as numbers: one more column -/
set_option maxRecDepth 100000 in
theorem add_d : ∀ u : Fin 256, ∀ j : Fin 8, bt u.val j.val ≠ 1 → ∃ w : Fin 256, w.val = u.val + 2 ^ j.val ∧ bt w.val j.val = 1 ∧ (∀ i : Fin 8, i ≠ j → (bt w.val i.val = 1 ↔ bt u.val i.val = 1)) ∧ cntB w.val 8 = cntB u.val 8 + 1 ∧ ∀ N : Fin 9, j.val < N.val → u.val < 2 ^ N.val → w.val < 2 ^ N.val := by
  have h : ∀ u : Fin 256, ∀ j : Fin 8, bt u.val j.val ≠ 1 → u.val + 2 ^ j.val < 256 ∧ bt ((u.val + 2 ^ j.val : Nat) : Int) j.val = 1 ∧ (∀ i : Fin 8, i ≠ j → (bt ((u.val + 2 ^ j.val : Nat) : Int) i.val = 1 ↔ bt u.val i.val = 1)) ∧ cntB ((u.val + 2 ^ j.val : Nat) : Int) 8 = cntB u.val 8 + 1 ∧ ∀ N : Fin 9, j.val < N.val → u.val < 2 ^ N.val → u.val + 2 ^ j.val < 2 ^ N.val := by decide +kernel
  intro u j hj
  obtain ⟨h1, h2, h3, h4, h5⟩ := h u j hj
  exact ⟨⟨u.val + 2 ^ j.val, h1⟩, rfl, h2, h3, h4, h5⟩
theorem bt_0 : ∀ i : Fin 8, bt ((0 : Nat) : Int) i.val ≠ 1 := by decide +kernel
theorem cnt_0 : cntB ((0 : Nat) : Int) 8 = 0 := by decide +kernel
section
variable {F : Int → Int}
theorem bas_u (g : GdP F) (hN : GdN F) (hd : dF F ≠ 0) : ∀ k : Nat, (k : Int) ≤ F 1 → ∃ u : Fin 256, u.val < 2 ^ NF F ∧ cntB u.val 8 = k ∧ (∀ r : Int, 0 ≤ r → r < k → bt u.val (F (27 + r)) = 1) ∧ ∀ i : Fin 8, bt u.val i.val = 1 → ∃ r : Int, 0 ≤ r ∧ r < k ∧ F (27 + r) = i.val := by
  have g0 := g.1; have g1 := g.2.1
  have hn := NF_e g
  intro k
  induction k with
  | zero => exact fun _ => ⟨⟨0, by omega⟩, Nat.two_pow_pos _, cnt_0, fun r a b => by omega, fun i h => absurd h (bt_0 i)⟩
  | succ k ih =>
    intro hk
    obtain ⟨u, h1, h2, h3, h4⟩ := ih (by omega)
    have hb := hN k (by omega) (by omega)
    have hj : ((F (27 + k)).toNat : Int) = F (27 + k) := by omega
    have hnb : bt u.val ((F (27 + k)).toNat : Int) ≠ 1 := fun z => by
      obtain ⟨r, a, b, e⟩ := h4 ⟨(F (27 + k)).toNat, by omega⟩ z
      have := nm_u g hd (r := r) (k := k) (by omega) (by omega) (e.trans hj)
      omega
    obtain ⟨w, -, w2, w3, w4, w5⟩ := add_d u ⟨(F (27 + k)).toNat, by omega⟩ hnb
    refine ⟨w, w5 ⟨NF F, by omega⟩ (show (F (27 + k)).toNat < NF F by omega) h1, by rw [w4, h2]; omega, fun r a b => ?_, fun i hi => ?_⟩
    · by_cases e : r = k
      · subst e
        rw [← hj]
        exact w2
      · have hb2 := hN r a (by omega)
        have hne : F (27 + r) ≠ F (27 + k) := fun z => e (nm_u g hd (by omega) (by omega) z)
        have e2 := (w3 ⟨(F (27 + r)).toNat, by omega⟩ (fun z => hne (by
          have := congrArg Fin.val z
          have : (F (27 + r)).toNat = (F (27 + k)).toNat := this
          omega))).mpr
        rw [show (((⟨(F (27 + r)).toNat, by omega⟩ : Fin 8).val : Nat) : Int) = F (27 + r) by show (((F (27 + r)).toNat : Nat) : Int) = _; omega] at e2
        exact e2 (h3 r a (by omega))
    · by_cases e : i = ⟨(F (27 + k)).toNat, by omega⟩
      · exact ⟨k, by omega, by omega, by rw [e]; exact hj.symm⟩
      · obtain ⟨r, a, b, e2⟩ := h4 i ((w3 i e).mp hi)
        exact ⟨r, a, by omega, e2⟩
/-- four places, all taken -/
theorem surjQ {t : Int → Int} (h : ∀ i, 0 ≤ i → i < 4 → 0 ≤ t i ∧ t i < 4) (hi : ∀ i j, 0 ≤ i → i < 4 → 0 ≤ j → j < 4 → t i = t j → i = j) {x : Int} (hx : 0 ≤ x ∧ x < 4) : ∃ j, (0 ≤ j ∧ j < 4) ∧ t j = x := by
  have a0 := h 0 (by decide) (by decide); have a1 := h 1 (by decide) (by decide); have a2 := h 2 (by decide) (by decide); have a3 := h 3 (by decide) (by decide)
  have n01 : t 0 ≠ t 1 := fun z => absurd (hi 0 1 (by decide) (by decide) (by decide) (by decide) z) (by decide)
  have n02 : t 0 ≠ t 2 := fun z => absurd (hi 0 2 (by decide) (by decide) (by decide) (by decide) z) (by decide)
  have n03 : t 0 ≠ t 3 := fun z => absurd (hi 0 3 (by decide) (by decide) (by decide) (by decide) z) (by decide)
  have n12 : t 1 ≠ t 2 := fun z => absurd (hi 1 2 (by decide) (by decide) (by decide) (by decide) z) (by decide)
  have n13 : t 1 ≠ t 3 := fun z => absurd (hi 1 3 (by decide) (by decide) (by decide) (by decide) z) (by decide)
  have n23 : t 2 ≠ t 3 := fun z => absurd (hi 2 3 (by decide) (by decide) (by decide) (by decide) z) (by decide)
  by_cases e0 : t 0 = x
  · exact ⟨0, by decide, e0⟩
  · by_cases e1 : t 1 = x
    · exact ⟨1, by decide, e1⟩
    · by_cases e2 : t 2 = x
      · exact ⟨2, by decide, e2⟩
      · refine ⟨3, by decide, ?_⟩
        generalize t 0 = b0 at *
        generalize t 1 = b1 at *
        generalize t 2 = b2 at *
        generalize t 3 = b3 at *
        rcases i4 a0 with rfl | rfl | rfl | rfl <;> rcases i4 a1 with rfl | rfl | rfl | rfl <;> rcases i4 a2 with rfl | rfl | rfl | rfl <;> omega
/-- the basis is one of the sets -/
theorem bas_U (g : GdP F) (hb : GdB F) : ∃ u : Nat, u < 2 ^ NF F ∧ isU F u ∧ vU F u = (nu (-rF F (F 0 + F 1)) (dF F), de (-rF F (F 0 + F 1)) (dF F)) := by
  have g0 := g.1; have g1 := g.2.1
  have hn := NF_e g
  have hd : dF F ≠ 0 := by have := hb.2.1; omega
  obtain ⟨u, hu, hc, hbt, -⟩ := bas_u g hb.1 hd (F 1).toNat (by omega)
  have hc2 : cntB u.val (NF F) = F 1 := by
    have := ct_d u ⟨NF F, by omega⟩ hu
    have e : cntB u.val 8 = cntB u.val (NF F) := this
    rw [← e, hc]
    omega
  -- the place of a row's column in the set
  have hat : ∀ r, 0 ≤ r → r < F 1 → (0 ≤ cntB u.val (F (27 + r)).toNat ∧ cntB u.val (F (27 + r)).toNat < F 1) ∧ nmB u.val (NF F) (cntB u.val (F (27 + r)).toNat) = F (27 + r) := fun r a b => by
    have hr := hb.1 r a b
    have e1 := hbt r a (by omega)
    rw [show F (27 + r) = (((F (27 + r)).toNat : Nat) : Int) by omega] at e1
    have e2 := nmB_at e1 (N := NF F) (by omega)
    have e3 := cntB_t e1
    have e4 := cntB_le (u := u.val) (show (F (27 + r)).toNat + 1 ≤ NF F by omega)
    have e5 := (cntB_r (u := u.val) (F (27 + r)).toNat).1
    exact ⟨⟨e5, by omega⟩, by rw [e2]; omega⟩
  have hP : Pm (F 1) (fun r => if r < F 1 then cntB u.val (F (27 + r)).toNat else r) := by
    refine ⟨fun j a b => ?_, fun i j a b a2 b2 e => ?_, fun j a b => if_neg (by omega), fun j a b => ?_⟩
    · show 0 ≤ (if j < F 1 then _ else _) ∧ (if j < F 1 then _ else _) < (4 : Int)
      by_cases h : j < F 1
      · have := (hat j a h).1
        rw [if_pos h]
        omega
      · rw [if_neg h]
        omega
    · have e : (if i < F 1 then cntB u.val (F (27 + i)).toNat else i) = (if j < F 1 then cntB u.val (F (27 + j)).toNat else j) := e
      by_cases hi : i < F 1 <;> by_cases hj : j < F 1
      · rw [if_pos hi, if_pos hj] at e
        have e1 := (hat i a hi).2
        have e2 := (hat j a2 hj).2
        rw [← e, e1] at e2
        exact nm_u g hd ⟨a, hi⟩ ⟨a2, hj⟩ e2
      · rw [if_pos hi, if_neg hj] at e
        have := (hat i a hi).1
        omega
      · rw [if_neg hi, if_pos hj] at e
        have := (hat j a2 hj).1
        omega
      · rw [if_neg hi, if_neg hj] at e
        exact e
    · show (if j < F 1 then _ else _) < F 1
      rw [if_pos b]
      exact (hat j a b).1.2
  obtain ⟨s, hs⟩ := at_pm hP (fun j => j)
  have hs2 : ∀ j, 0 ≤ j → j < 4 → s (if j < F 1 then cntB u.val (F (27 + j)).toNat else j) = j := hs
  -- each place has its row
  have hrow : ∀ x, 0 ≤ x → x < 4 → ∃ j, (0 ≤ j ∧ j < 4) ∧ (if j < F 1 then cntB u.val (F (27 + j)).toNat else j) = x ∧ s x = j := fun x a b => by
    obtain ⟨j, hj, e⟩ := surjQ (t := fun r => if r < F 1 then cntB u.val (F (27 + r)).toNat else r) hP.1 hP.2.1 ⟨a, b⟩
    exact ⟨j, hj, e, by have := hs2 j hj.1 hj.2; rw [show (if j < F 1 then cntB u.val (F (27 + j)).toNat else j) = x from e] at this; exact this⟩
  have hsm : ∀ x, 0 ≤ x → x < F 1 → (0 ≤ s x ∧ s x < F 1) ∧ F (27 + s x) = nmB u.val (NF F) x := fun x a b => by
    obtain ⟨j, hj, e, e2⟩ := hrow x a (by omega)
    rw [e2]
    by_cases h : j < F 1
    · rw [if_pos h] at e
      refine ⟨⟨hj.1, h⟩, ?_⟩
      rw [← e, (hat j hj.1 h).2]
    · rw [if_neg h] at e
      omega
  have hsb : ∀ x, F 1 ≤ x → x < 4 → s x = x := fun x a b => by
    have := hs2 x (by omega) b
    rw [if_neg (by omega)] at this
    exact this
  have hE : Elm (F 1) (F 1) (csU F u.val) (bF F) s := by
    refine ⟨⟨fun j a b => ?_, fun i j a b a2 b2 e => ?_, hsb, fun j a b => (hsm j a b).1.2⟩, hd, fun j i a b a2 b2 => ?_⟩
    · obtain ⟨k, hk, -, e2⟩ := hrow j a b
      rw [e2]; exact hk
    · obtain ⟨k, hk, e1, e2⟩ := hrow i a b
      obtain ⟨k', hk', e1', e2'⟩ := hrow j a2 b2
      rw [e2, e2'] at e
      subst e
      rw [← e1, ← e1']
    · by_cases h : j < F 1
      · have h1 := hsm j a h
        rw [if_pos h]
        unfold bF csU
        rw [if_pos h1.1, h1.2]
      · rw [if_neg h, hsb j (by omega) b]
        unfold bF
        rw [if_neg (by omega)]
  have hv : sU F u.val (bF F) s (F 1) = -rF F (F 0 + F 1) := by
    rw [rF_rhs g, Int.neg_neg]
    unfold sU vF
    rw [← pm_sum hE.1 (fun r => if r < F 1 then cF F (F (27 + r)) * tF F r (F 0 + F 1) else 0)]
    refine s4_c fun j hj => ?_
    by_cases h : j < F 1
    · have h1 := hsm j hj.1 h
      rw [if_pos h, if_pos h1.1.2, h1.2]
      rfl
    · rw [if_neg h, hsb j (by omega) hj.2, if_neg h]
  refine ⟨u.val, hu, ?_, ?_⟩
  · refine (isU_i g hc2 hE).mpr fun j a b => ?_
    have h1 := hsm j a b
    have h2 := hb.2.2.1 (s j) h1.1.1 h1.1.2
    exact Int.mul_nonneg (by have := hb.2.1; unfold dF at this; omega) h2
  · rw [vU_e g hE, hv]
    rfl
/-! the survey's best -/
theorem svB_max (g : GdP F) : ∀ U : Nat, ∀ u : Nat, u < U → isU F u → 0 < (svS F U).2.1 ∧ (vU F u).1 * (svS F U).2.2.2.2.2 ≤ (svS F U).2.2.2.2.1 * (vU F u).2 := by
  intro U
  induction U with
  | zero => intro u h; omega
  | succ U ih =>
    intro u hu h
    have hG := svS_g g U
    have hG1 := svS_g g (U + 1)
    by_cases hU : isU F U
    · have hv := vU_b g hU
      have e := svS_t hU
      by_cases hn : notd (svS F U) (vU F U)
      · have e2 : svS F (U + 1) = ((svS F U).1 + 1, (svS F U).2) := by rw [e]; unfold svA; exact bq_p hn
        rw [e2]
        show 0 < (svS F U).2.1 ∧ _ * (svS F U).2.2.2.2.2 ≤ (svS F U).2.2.2.2.1 * _
        by_cases h9 : u = U
        · subst h9
          obtain ⟨k, hk, k1, k2⟩ := hn
          have h5 := hG.2.2.2.2 (by omega)
          refine ⟨by omega, ?_⟩
          rw [← k1, ← k2]
          exact h5.2 k hk.1 hk.2
        · exact ih u (by omega) h
      · have e2 : svS F (U + 1) = ((svS F U).1 + 1, (svS F U).2.1 + 1, updZ (svS F U).2.2.1 (svS F U).2.1 (vU F U).1, updZ (svS F U).2.2.2.1 (svS F U).2.1 (vU F U).2, bq (morS (svS F U) (vU F U)) (vU F U).1 (svS F U).2.2.2.2.1, bq (morS (svS F U) (vU F U)) (vU F U).2 (svS F U).2.2.2.2.2) := by rw [e]; unfold svA; exact bq_n hn
        rw [e2]
        show 0 < (svS F U).2.1 + 1 ∧ _ * bq (morS (svS F U) (vU F U)) (vU F U).2 (svS F U).2.2.2.2.2 ≤ bq (morS (svS F U) (vU F U)) (vU F U).1 (svS F U).2.2.2.2.1 * _
        refine ⟨by have := hG.1; omega, ?_⟩
        by_cases hm : morS (svS F U) (vU F U)
        · rw [bq_p hm, bq_p hm]
          by_cases h9 : u = U
          · subst h9
            exact Int.le_refl _
          · have h8 := ih u (by omega) h
            have hvu := vU_b g h
            rcases hm with z | hm
            · omega
            · have h5 := (hG.2.2.2.2 h8.1).1
              exact le_tr (b := (vU F u).2) (d := (svS F U).2.2.2.2.2) (f := (vU F U).2) hvu.2.2.1 h5.2.2.1 hv.2.2.1 h8.2 (Int.le_of_lt hm)
        · rw [bq_n hm, bq_n hm]
          by_cases h9 : u = U
          · subst h9
            unfold morS at hm
            omega
          · exact (ih u (by omega) h).2
    · rw [svS_f hU]
      by_cases h9 : u = U
      · subst h9
        exact absurd h hU
      · exact ih u (by omega) h
theorem svB_at (g : GdP F) : ∀ U : Nat, 0 < (svS F U).2.1 → ∃ u : Nat, u < U ∧ isU F u ∧ (svS F U).2.2.2.2.1 = (vU F u).1 ∧ (svS F U).2.2.2.2.2 = (vU F u).2 := by
  intro U
  induction U with
  | zero => intro h; exact absurd h (by show ¬ (0 : Int) < 0; omega)
  | succ U ih =>
    intro h0
    by_cases hU : isU F U
    · have e := svS_t hU
      by_cases hn : notd (svS F U) (vU F U)
      · have e2 : svS F (U + 1) = ((svS F U).1 + 1, (svS F U).2) := by rw [e]; unfold svA; exact bq_p hn
        rw [e2]
        obtain ⟨k, hk, -, -⟩ := hn
        obtain ⟨u, a, b, c⟩ := ih (by omega)
        exact ⟨u, by omega, b, c⟩
      · have e2 : svS F (U + 1) = ((svS F U).1 + 1, (svS F U).2.1 + 1, updZ (svS F U).2.2.1 (svS F U).2.1 (vU F U).1, updZ (svS F U).2.2.2.1 (svS F U).2.1 (vU F U).2, bq (morS (svS F U) (vU F U)) (vU F U).1 (svS F U).2.2.2.2.1, bq (morS (svS F U) (vU F U)) (vU F U).2 (svS F U).2.2.2.2.2) := by rw [e]; unfold svA; exact bq_n hn
        rw [e2]
        by_cases hm : morS (svS F U) (vU F U)
        · exact ⟨U, by omega, hU, bq_p hm, bq_p hm⟩
        · have : (svS F U).2.1 ≠ 0 := fun z => hm (Or.inl z)
          have h9 := (svS_g g U).1
          obtain ⟨u, a, b, c, d⟩ := ih (by omega)
          exact ⟨u, by omega, b, (bq_n hm).trans c, (bq_n hm).trans d⟩
    · rw [svS_f hU] at h0 ⊢
      obtain ⟨u, a, b, c⟩ := ih h0
      exact ⟨u, by omega, b, c⟩
/-! no feasible basis is above an optimal one -/
theorem tF_mix {u : Int} {C : Mx} {s : Int → Int} (g : GdP F) (hc : cntB u (NF F) = F 1) (hE : Elm (F 1) (F 1) (csU F u) C s) (r : Int) : s4 (fun j => if j < F 1 then tF F r (nmB u (NF F) j) * tt C (bsR F) (s j) else 0) = det4 C * tF F r (F 0 + F 1) := by
  have g1 := g.2.1
  have hq := eqU g hc
  have hz : ∀ j, F 1 ≤ j → j < 4 → tt C (bsR F) (s j) = 0 := fun j a b => by
    rw [hE.1.2.2.1 j a b]
    refine Elm_z hE (Int.le_refl _) hq.2.1 ⟨a, b⟩ (by omega) ?_
    unfold bsR aF
    rw [if_neg (by omega)]
  have h1 : ∀ i, 0 ≤ i ∧ i < 4 → s4 (fun j => if j < F 1 then csU F u j i * tt C (bsR F) (s j) else 0) = det4 C * bsR F i := fun i hi => by
    have e := C_tt (C := C) (a := bsR F) (i := i) hi
    rw [← pm_sum hE.1 (fun k => C i k * tt C (bsR F) k)] at e
    rw [← e]
    refine s4_c fun j hj => ?_
    have e2 := hE.2.2 j i hj.1 hj.2 hi.1 hi.2
    by_cases h : j < F 1
    · rw [if_pos h] at e2 ⊢
      rw [e2]
    · rw [if_neg h, hz j (by omega) hj.2, Int.mul_zero]
  have h2 : s4 (fun j => if j < F 1 then tF F r (nmB u (NF F) j) * tt C (bsR F) (s j) else 0) = s4 (fun i => adj (bF F) r i * s4 (fun j => if j < F 1 then csU F u j i * tt C (bsR F) (s j) else 0)) := by
    rw [s4_c (g := fun j => s4 (fun i => adj (bF F) r i * (if j < F 1 then csU F u j i * tt C (bsR F) (s j) else 0))) (fun j hj => ?_), s4_f]
    · refine s4_c fun i hi => ?_
      rw [s4_m]
    · by_cases h : j < F 1
      · rw [if_pos h]
        show s4 (fun i => adj (bF F) r i * csU F u j i) * _ = _
        rw [← s4_m2]
        refine s4_c fun i hi => ?_
        rw [if_pos h, Int.mul_assoc]
      · rw [if_neg h, s4_c (g := fun _ => 0) (fun i hi => by rw [if_neg h, Int.mul_zero]), s4_z]
  rw [h2, s4_c (g := fun i => det4 C * (adj (bF F) r i * bsR F i)) (fun i hi => by rw [h1 i hi, Int.mul_left_comm]), s4_m]
  rfl
theorem dual_e {u : Int} {C : Mx} {s : Int → Int} (g : GdP F) (hc : cntB u (NF F) = F 1) (hE : Elm (F 1) (F 1) (csU F u) C s) : s4 (fun j => if j < F 1 then rF F (nmB u (NF F) j) * tt C (bsR F) (s j) else 0) = dF F * sU F u C s (F 1) + det4 C * rF F (F 0 + F 1) := by
  have g1 := g.2.1
  have e1 : s4 (fun j => if j < F 1 then vF F (fun r => tF F r (nmB u (NF F) j)) * tt C (bsR F) (s j) else 0) = det4 C * vF F (fun r => tF F r (F 0 + F 1)) := by
    rw [s4_c (g := fun j => s4 (fun r => if r < F 1 then cF F (F (27 + r)) * (if j < F 1 then tF F r (nmB u (NF F) j) * tt C (bsR F) (s j) else 0) else 0)) (fun j hj => ?_), s4_f]
    · unfold vF
      rw [← s4_m]
      refine s4_c fun r hr => ?_
      by_cases h : r < F 1
      · rw [if_pos h, s4_c (g := fun j => cF F (F (27 + r)) * (if j < F 1 then tF F r (nmB u (NF F) j) * tt C (bsR F) (s j) else 0)) (fun j hj => by rw [if_pos h]), s4_m, tF_mix g hc hE r, Int.mul_left_comm]
      · rw [if_neg h, s4_c (g := fun _ => 0) (fun j hj => by rw [if_neg h]), s4_z, Int.mul_zero]
    · by_cases h : j < F 1
      · rw [if_pos h]
        unfold vF
        rw [← s4_m2]
        refine s4_c fun r hr => ?_
        by_cases h2 : r < F 1
        · rw [if_pos h2, if_pos h2, if_pos h, Int.mul_assoc]
        · rw [if_neg h2, if_neg h2, Int.zero_mul]
      · rw [if_neg h, s4_c (g := fun _ => 0) (fun r hr => ?_), s4_z]
        by_cases h2 : r < F 1
        · rw [if_pos h2, if_neg h, Int.mul_zero]
        · rw [if_neg h2]
  have e2 : s4 (fun j => if j < F 1 then rF F (nmB u (NF F) j) * tt C (bsR F) (s j) else 0) = s4 (fun j => dF F * (if j < F 1 then cF F (nmB u (NF F) j) * tt C (bsR F) (s j) else 0) - (if j < F 1 then vF F (fun r => tF F r (nmB u (NF F) j)) * tt C (bsR F) (s j) else 0)) := s4_c fun j hj => by
    by_cases h : j < F 1
    · rw [if_pos h, if_pos h, if_pos h]
      unfold rF
      rw [Int.sub_mul, Int.mul_assoc]
    · rw [if_neg h, if_neg h, if_neg h, Int.mul_zero]
      rfl
  rw [e2, s4_s, s4_m, e1, rF_rhs g, Int.mul_neg]
  show dF F * sU F u C s (F 1) - _ = _
  omega
theorem s4_np {f : Int → Int} (h : ∀ i, 0 ≤ i ∧ i < 4 → f i ≤ 0) : s4 f ≤ 0 := by
  have a0 := h 0 (by decide); have a1 := h 1 (by decide); have a2 := h 2 (by decide); have a3 := h 3 (by decide)
  unfold s4
  omega
theorem opt_max (g : GdP F) (hb : GdB F) (ho : bestF F) {u : Nat} (hu : isU F u) : (vU F u).1 * de (-rF F (F 0 + F 1)) (dF F) ≤ nu (-rF F (F 0 + F 1)) (dF F) * (vU F u).2 := by
  have g0 := g.1; have g1 := g.2.1
  have hn := NF_e g
  obtain ⟨hc, C, s, hE, hf⟩ := hu
  have hd := hb.2.1
  have hD : det4 C ≠ 0 := hE.2.1
  have e := dual_e g hc hE
  rw [vU_e g hE]
  generalize hX : sU F u C s (F 1) = X at *
  generalize hDD : det4 C = D at *
  have h1 := nu_e (n := X) hD
  have h2 := nu_e (n := -rF F (F 0 + F 1)) (show dF F ≠ 0 by omega)
  have hle : D * s4 (fun j => if j < F 1 then rF F (nmB u (NF F) j) * tt C (bsR F) (s j) else 0) ≤ 0 := by
    rw [← s4_m]
    refine s4_np fun j hj => ?_
    show D * (if j < F 1 then _ else _) ≤ 0
    by_cases h : j < F 1
    · rw [if_pos h, Int.mul_left_comm]
      have h3 := nmB_r (u := (u : Int)) (NF F) j hj.1 (by omega)
      have h4 := ho (nmB u (NF F) j) h3.1 (by omega)
      have h5 := hf j hj.1 h
      exact Int.mul_nonpos_of_nonpos_of_nonneg (by omega) h5
    · rw [if_neg h, Int.mul_zero]
      omega
  rw [e, Int.mul_add] at hle
  generalize hR : rF F (F 0 + F 1) = R at *
  generalize dF F = d at *
  show nu X D * de (-R) d ≤ nu (-R) d * de X D
  obtain ⟨a1, a2, -⟩ := h1
  obtain ⟨b1, b2, -⟩ := h2
  generalize nu X D = x at *
  generalize de X D = y at *
  generalize nu (-R) d = v at *
  generalize de (-R) d = w at *
  -- x * D = X * y, v * d = -R * w, D * (d * X) + D * (D * R) ≤ 0
  have hDD0 : 0 < D * D := by
    rcases Int.lt_or_gt_of_ne hD with h | h
    · exact Int.mul_pos_of_neg_of_neg h h
    · exact Int.mul_pos h h
  have hK : 0 < (D * D) * d := Int.mul_pos hDD0 hd
  refine Int.le_of_mul_le_mul_right (a := (D * D) * d) ?_ hK
  have p1 : x * w * (D * D * d) = (D * (d * X)) * (y * w) := by
    rw [show x * w * (D * D * d) = (x * D) * (w * (D * d)) by simp only [Int.mul_assoc, Int.mul_comm, Int.mul_left_comm], a1]
    simp only [Int.mul_assoc, Int.mul_comm, Int.mul_left_comm]
  have p2 : v * y * (D * D * d) = -(D * (D * R)) * (y * w) := by
    rw [show v * y * (D * D * d) = (v * d) * (y * (D * D)) by simp only [Int.mul_assoc, Int.mul_comm, Int.mul_left_comm], b1]
    simp only [Int.mul_assoc, Int.mul_comm, Int.mul_left_comm, Int.neg_mul, Int.mul_neg]
  rw [p1, p2]
  exact Int.mul_le_mul_of_nonneg_right (by omega) (Int.le_of_lt (Int.mul_pos a2 b2))
/-- the survey against the basis -/
theorem sv_by (g : GdP F) (hb : GdB F) : 0 ≤ (svS F (2 ^ NF F)).2.2.2.2.1 * de (-rF F (F 0 + F 1)) (dF F) - nu (-rF F (F 0 + F 1)) (dF F) * (svS F (2 ^ NF F)).2.2.2.2.2 ∧ (bestF F → (svS F (2 ^ NF F)).2.2.2.2.1 * de (-rF F (F 0 + F 1)) (dF F) - nu (-rF F (F 0 + F 1)) (dF F) * (svS F (2 ^ NF F)).2.2.2.2.2 = 0) := by
  obtain ⟨u, h1, h2, h3⟩ := bas_U g hb
  have h4 := svB_max g _ u h1 h2
  rw [h3] at h4
  have h5 : nu (-rF F (F 0 + F 1)) (dF F) * (svS F (2 ^ NF F)).2.2.2.2.2 ≤ (svS F (2 ^ NF F)).2.2.2.2.1 * de (-rF F (F 0 + F 1)) (dF F) := h4.2
  refine ⟨by omega, fun ho => ?_⟩
  obtain ⟨u', a, b, c, d⟩ := svB_at g _ h4.1
  have h6 := opt_max g hb ho b
  rw [← c, ← d] at h6
  omega
end
end QB
