section CP
variable {z : St} {K : Int}
def PrX (cs : List (Int × Int)) (K : Int) (z : St) (f : W0 → Option (Int × Int × W0)) (g : W0 → Option (Int × W0)) : Prop := ∃ e v t z', ClX 0 z f e v z' ∧ Mo 105 z g t v z' ∧ LI (K + 50) z' ∧ (e, t) ∈ cs
def PrI (K : Int) (z : St) (f : W0 → Option (Int × W0)) (g : W0 → Option (Int × W0)) : Prop := ∃ v z', ClI 0 z f v z' ∧ Mo 105 z g 0 v z' ∧ LI (K + 50) z'
def PrP (z : St) (f : W0 → Option Int) (g : W0 → Option (Int × W0)) : Prop := ∃ v, ClP 0 z f v ∧ Mo 105 z g 0 v z
theorem li5 (h : LI K z) : LI (K + 50) z := h.mo (by omega)
theorem li_0 (h : LI K z) : 0 ≤ K := by
  have := h.1.2.2.2.1
  omega
theorem li_bg {F : Int → Int} (h : LI K z) (g : GdP F) (h26 : F 26 = z.1 26) (h32 : F 32 = z.1 32) (h33 : F 33 = z.1 33) : LI (K + 50) (psh z (bgF F)) := by
  have k := h.1
  exact li5 (psh_li h (Good_bg (li_0 h) g (by rw [h26]; exact k.2.2.1) (by rw [h32]; exact k.2.2.2.2.1) (by rw [h33]; exact k.2.2.2.2.2)))
theorem pr_setVariables (hL : LI K z) {p : Int} (hp : R32 p) : PrX [(0, 0), (1, 1)] K z (f_X8_setVariables 0 p) (f_X9_setVariables 105 p) := by
  have b := m9_setVariables (m := 105) hL hp
  rcases c8_setVariables (d := 0) hL hp with ⟨h1, h2, a⟩ | ⟨h, a⟩
  · exact ⟨0, _, 0, _, a, b.1 ⟨h1, h2⟩, li_bg hL (nvF_g hL.1.1 ⟨h1, h2⟩) (by unfold nvF; rw [if_neg (by decide), if_neg (by omega), if_neg (by omega)]) (by unfold nvF; rw [if_neg (by decide), if_neg (by omega), if_neg (by omega)]) (by unfold nvF; rw [if_neg (by decide), if_neg (by omega), if_neg (by omega)]), by decide⟩
  · exact ⟨1, _, 1, _, a, b.2 h, li5 hL, by decide⟩
theorem pr_setProfit (hL : LI K z) {p : Int} (hp : R32 p) {q : Int} (hq : R32 q) : PrX [(0, 0), (3, 1), (1, 2)] K z (f_X8_setProfit 0 p q) (f_X9_setProfit 105 p q) := by
  have g := hL.1.1
  have g0 := g.1
  have g1 := g.2.1
  have a := c8_setProfit (d := 0) hL hp hq
  have b := m9_setProfit (m := 105) hL hp hq
  by_cases h : 0 ≤ p ∧ p < z.1 0
  · by_cases h2 : B9 q
    · skip
      exact ⟨0, _, 0, _, (a.1 ⟨h, h2⟩), (b.1 ⟨h, h2⟩), li_bg hL (up_g1 g ⟨h.1, by omega⟩ h2) (updZ_n (by omega)) (updZ_n (by omega)) (updZ_n (by omega)), by decide⟩
    · skip
      exact ⟨1, _, 2, _, (a.2.2 ⟨h, h2⟩), (b.2.2 ⟨h, h2⟩), li5 hL, by decide⟩
  · skip
    exact ⟨3, _, 1, _, (a.2.1 h), (b.2.1 h), li5 hL, by decide⟩
theorem pr_addConstraint (hL : LI K z) {p : Int} (hp : R32 p) : PrX [(0, 0), (1, 1), (2, 2)] K z (f_X8_addConstraint 0 p) (f_X9_addConstraint 105 p) := by
  have g := hL.1.1
  have g0 := g.1
  have g1 := g.2.1
  have a := c8_addConstraint (d := 0) hL hp
  have b := m9_addConstraint (m := 105) hL hp
  by_cases h : 0 ≤ p ∧ p ≤ 99
  · by_cases h2 : z.1 1 < 4
    · skip
      exact ⟨0, _, 0, _, (a.1 ⟨h, h2⟩), (b.1 ⟨h, h2⟩), li_bg hL (adF_g g h2 h) (adF_k g h2 (by decide)) (adF_k g h2 (by decide)) (adF_k g h2 (by decide)), by decide⟩
    · skip
      exact ⟨2, _, 2, _, (a.2.2 ⟨h, h2⟩), (b.2.2 ⟨h, h2⟩), li5 hL, by decide⟩
  · skip
    exact ⟨1, _, 1, _, (a.2.1 h), (b.2.1 h), li5 hL, by decide⟩
theorem pr_setCoefficient (hL : LI K z) {p : Int} (hp : R32 p) {q : Int} (hq : R32 q) {x : Int} (hx : R32 x) : PrX [(0, 0), (3, 1), (1, 2)] K z (f_X8_setCoefficient 0 p q x) (f_X9_setCoefficient 105 p q x) := by
  have g := hL.1.1
  have g0 := g.1
  have g1 := g.2.1
  have a := c8_setCoefficient (d := 0) hL hp hq hx
  have b := m9_setCoefficient (m := 105) hL hp hq hx
  by_cases h : (0 ≤ p ∧ p < z.1 1) ∧ 0 ≤ q ∧ q < z.1 0
  · by_cases h2 : B9 x
    · skip
      exact ⟨0, _, 0, _, (a.1 ⟨h, h2⟩), (b.1 ⟨h, h2⟩), li_bg hL (up_g2 g ⟨h.1.1, by omega⟩ ⟨h.2.1, by omega⟩ h2) (updZ_n (by omega)) (updZ_n (by omega)) (updZ_n (by omega)), by decide⟩
    · skip
      exact ⟨1, _, 2, _, (a.2.2 ⟨h, h2⟩), (b.2.2 ⟨h, h2⟩), li5 hL, by decide⟩
  · skip
    exact ⟨3, _, 1, _, (a.2.1 h), (b.2.1 h), li5 hL, by decide⟩
theorem pr_setBound (hL : LI K z) {p : Int} (hp : R32 p) {q : Int} (hq : R32 q) : PrX [(0, 0), (3, 1), (1, 2)] K z (f_X8_setBound 0 p q) (f_X9_setBound 105 p q) := by
  have g := hL.1.1
  have g0 := g.1
  have g1 := g.2.1
  have a := c8_setBound (d := 0) hL hp hq
  have b := m9_setBound (m := 105) hL hp hq
  by_cases h : 0 ≤ p ∧ p < z.1 1
  · by_cases h2 : 0 ≤ q ∧ q ≤ 99
    · skip
      exact ⟨0, _, 0, _, (a.1 ⟨h, h2⟩), (b.1 ⟨h, h2⟩), li_bg hL (up_g3 g ⟨h.1, by omega⟩ h2) (updZ_n (by omega)) (updZ_n (by omega)) (updZ_n (by omega)), by decide⟩
    · skip
      exact ⟨1, _, 2, _, (a.2.2 ⟨h, h2⟩), (b.2.2 ⟨h, h2⟩), li5 hL, by decide⟩
  · skip
    exact ⟨3, _, 1, _, (a.2.1 h), (b.2.1 h), li5 hL, by decide⟩
theorem pr_dropConstraint (hL : LI K z) {p : Int} (hp : R32 p) : PrX [(0, 0), (3, 1)] K z (f_X8_dropConstraint 0 p) (f_X9_dropConstraint 105 p) := by
  have g := hL.1.1
  have g0 := g.1
  have g1 := g.2.1
  have a := c8_dropConstraint (d := 0) hL hp
  have b := m9_dropConstraint (m := 105) hL hp
  by_cases h : 0 ≤ p ∧ p < z.1 1
  · skip
    exact ⟨0, _, 0, _, (a.1 h), (b.1 h), li_bg hL (drF_g g h) (drF_k g h (by decide)) (drF_k g h (by decide)) (drF_k g h (by decide)), by decide⟩
  · skip
    exact ⟨3, _, 1, _, (a.2 h), (b.2 h), li5 hL, by decide⟩
theorem pr_pivot (hL : LI K z) {p : Int} (hp : R32 p) {q : Int} (hq : R32 q) : PrX [(0, 0), (3, 1), (2, 2)] K z (f_X8_pivot 0 p q) (f_X9_pivot 105 p q) := by
  have a := c8_pivot (d := 0) hL hp hq
  have b := m9_pivot (m := 105) hL hp hq
  by_cases h : Plc z.1 p q
  · by_cases h2 : obF z.1 p q = 0
    · skip
      exact ⟨0, _, 0, _, (a.1 ⟨h, h2⟩), (b.1 ⟨h, h2⟩), psh_li (li5 hL) ((pv_good hL.1 (obF_0 h h2)).mo (by omega)), by decide⟩
    · skip
      exact ⟨2, _, 2, _, (a.2.2 ⟨h, h2⟩), (b.2.2 ⟨h, h2⟩), li5 hL, by decide⟩
  · skip
    exact ⟨3, _, 1, _, (a.2.1 h), (b.2.1 h), li5 hL, by decide⟩
theorem pr_step (hL : LI K z) : PrX [(0, 0), (2, 1)] K z (f_X8_step 0) (f_X9_step 105) := by
  have a := c8_step (d := 0) hL
  have b := m9_step (m := 105) hL
  by_cases h : opn z.1
  · skip
    exact ⟨0, _, 0, _, (a.1 h), (b.1 h), psh_li (li5 hL) ((pv_good hL.1 (opn_pv hL.1.1 h)).mo (by omega)), by decide⟩
  · skip
    exact ⟨2, _, 1, _, (a.2 h), (b.2 h), li5 hL, by decide⟩
theorem pr_setRule (hL : LI K z) {p : Int} (hp : R32 p) : PrX [(0, 0), (1, 1)] K z (f_X8_setRule 0 p) (f_X9_setRule 105 p) := by
  have a := c8_setRule (d := 0) hL hp
  have b := m9_setRule (m := 105) hL hp
  by_cases h : 0 ≤ p ∧ p ≤ 2
  · skip
    exact ⟨0, _, 0, _, (a.1 h), (b.1 h), li5 (psh_li hL (rl_good hL.1 h)), by decide⟩
  · skip
    exact ⟨1, _, 1, _, (a.2 h), (b.2 h), li5 hL, by decide⟩
theorem pr_append (hL : LI K z) {p : Int} (hp : R32 p) : PrX [(0, 0), (1, 1), (2, 2)] K z (f_X8_append 0 p) (f_X9_append 105 p) := by
  have a := c8_append (d := 0) hL hp
  have b := m9_append (m := 105) hL hp
  by_cases h : 33 ≤ p ∧ p ≤ 126
  · by_cases h2 : z.2.2.2.2.2.1 < 60
    · skip
      exact ⟨0, _, 0, _, (a.1 ⟨h, h2⟩), (b.1 ⟨h, h2⟩), li5 (ap_li hL h h2), by decide⟩
    · skip
      exact ⟨2, _, 2, _, (a.2.2 ⟨h, h2⟩), (b.2.2 ⟨h, h2⟩), li5 hL, by decide⟩
  · skip
    exact ⟨1, _, 1, _, (a.2.1 h), (b.2.1 h), li5 hL, by decide⟩
theorem pr_load (hL : LI K z) : PrX [(0, 0), (1, 1)] K z (f_X8_load 0) (f_X9_load 105) := by
  have a := c8_load (d := 0) hL
  have b := m9_load (m := 105) hL
  by_cases h : prW z.2.2.2.2.2.1 z.2.2.2.2.2.2 = 0
  · exact ⟨0, _, 0, _, a.1 h, b.1 h, li5 (ld_li hL (li_0 hL) h), by decide⟩
  · have h1 : prW z.2.2.2.2.2.1 z.2.2.2.2.2.2 = 1 := by
      unfold prW at h ⊢
      split
      · rename_i h2; rw [if_pos h2] at h; exact absurd rfl h
      · rfl
    exact ⟨1, _, 1, _, a.2 h1, b.2 h1, li5 hL, by decide⟩
theorem pr_write (hL : LI K z) : PrX [(0, 0), (2, 1)] K z (f_X8_write 0) (f_X9_write 105) := by
  have a := c8_write (d := 0) hL
  have b := m9_write (m := 105) hL
  by_cases h : (wPr z.1).1 ≤ 60
  · skip
    exact ⟨0, _, 0, _, (a.1 h), (b.1 h), li5 (wr_li hL h), by decide⟩
  · skip
    exact ⟨2, _, 1, _, (a.2 h), (b.2 h), li5 hL, by decide⟩
theorem pr_undo (hL : LI K z) : PrX [(0, 0), (2, 1)] K z (f_X8_undo 0) (f_X9_undo 105) := by
  have a := c8_undo (d := 0) hL
  have b := m9_undo (m := 105) hL
  by_cases h : 1 ≤ z.2.1
  · exact ⟨0, _, 0, _, a.1 h _ ov_ag, b.1 h, li5 (undo_li hL h ov_ag), by decide⟩
  · exact ⟨2, _, 1, _, a.2 h, b.2 h, li5 hL, by decide⟩
theorem pr_restore (hL : LI K z) : PrX [(0, 0), (2, 1)] K z (f_X8_restore 0) (f_X9_restore 105) := by
  have a := c8_restore (d := 0) hL
  have b := m9_restore (m := 105) hL
  rcases hL.2.2.2.1 with h | h
  · exact ⟨2, _, 1, _, a.2 h, b.2 h, li5 hL, by decide⟩
  · exact ⟨0, _, 0, _, a.1 h _ ov_ag, b.1 h, li5 (psh_li hL (Good_ag ov_ag (hL.2.2.2.2.1 h))), by decide⟩
theorem pr_profitOf (hL : LI K z) {p : Int} (hp : R32 p) : PrX [(0, 0), (3, 1)] K z (f_X8_profitOf 0 p) (f_X9_profitOf 105 p) := by
  have a := c8_profitOf (d := 0) hL hp
  have b := m9_profitOf (m := 105) hL hp
  by_cases h : 0 ≤ p ∧ p < z.1 0
  · skip
    exact ⟨0, _, 0, _, (a.1 h), (b.1 h), li5 hL, by decide⟩
  · skip
    exact ⟨3, _, 1, _, (a.2 h), (b.2 h), li5 hL, by decide⟩
theorem pr_coefficientOf (hL : LI K z) {p : Int} (hp : R32 p) {q : Int} (hq : R32 q) : PrX [(0, 0), (3, 1)] K z (f_X8_coefficientOf 0 p q) (f_X9_coefficientOf 105 p q) := by
  have a := c8_coefficientOf (d := 0) hL hp hq
  have b := m9_coefficientOf (m := 105) hL hp hq
  by_cases h : (0 ≤ p ∧ p < z.1 1) ∧ 0 ≤ q ∧ q < z.1 0
  · skip
    exact ⟨0, _, 0, _, (a.1 h), (b.1 h), li5 hL, by decide⟩
  · skip
    exact ⟨3, _, 1, _, (a.2 h), (b.2 h), li5 hL, by decide⟩
theorem pr_boundOf (hL : LI K z) {p : Int} (hp : R32 p) : PrX [(0, 0), (3, 1)] K z (f_X8_boundOf 0 p) (f_X9_boundOf 105 p) := by
  have a := c8_boundOf (d := 0) hL hp
  have b := m9_boundOf (m := 105) hL hp
  by_cases h : 0 ≤ p ∧ p < z.1 1
  · skip
    exact ⟨0, _, 0, _, (a.1 h), (b.1 h), li5 hL, by decide⟩
  · skip
    exact ⟨3, _, 1, _, (a.2 h), (b.2 h), li5 hL, by decide⟩
theorem pr_columnOf (hL : LI K z) {p : Int} (hp : R32 p) : PrX [(0, 0), (3, 1)] K z (f_X8_columnOf 0 p) (f_X9_columnOf 105 p) := by
  have a := c8_columnOf (d := 0) hL hp
  have b := m9_columnOf (m := 105) hL hp
  by_cases h : 0 ≤ p ∧ p < z.1 1
  · skip
    exact ⟨0, _, 0, _, (a.1 h), (b.1 h), li5 hL, by decide⟩
  · skip
    exact ⟨3, _, 1, _, (a.2 h), (b.2 h), li5 hL, by decide⟩
theorem pr_isNamed (hL : LI K z) {p : Int} (hp : R32 p) : ∃ e v t z', ClX 0 z (f_X8_isNamed 0 p) e v z' ∧ Mo 105 z (f_X9_isNamed 105 p) t v z' ∧ LI (K + 50) z' ∧ (e, t) ∈ [(0, 0), (3, 1)] ∧ (v = 0 ∨ v = 1) := by
  have a := c8_isNamed (d := 0) hL hp
  have b := m9_isNamed (m := 105) hL hp
  by_cases h : 0 ≤ p ∧ p < z.1 0 + z.1 1
  · refine ⟨0, _, 0, _, a.1 h, b.1 h, li5 hL, by decide, ?_⟩
    unfold pick
    split
    · exact Or.inr rfl
    · exact Or.inl rfl
  · exact ⟨3, _, 1, _, a.2 h, b.2 h, li5 hL, by decide, Or.inl rfl⟩
theorem pr_entryNumerator (hL : LI K z) {p : Int} (hp : R32 p) {q : Int} (hq : R32 q) : PrX [(0, 0), (3, 1)] K z (f_X8_entryNumerator 0 p q) (f_X9_entryNumerator 105 p q) := by
  have a := c8_entry (d := 0) hL hp hq
  have b := m9_entry (m := 105) hL hp hq
  by_cases h : Plc z.1 p q
  · skip
    exact ⟨0, _, 0, _, (a.1 h).1, (b.1 h).1, li5 hL, by decide⟩
  · skip
    exact ⟨3, _, 1, _, (a.2 h).1, (b.2 h).1, li5 hL, by decide⟩
theorem pr_reducedNumerator (hL : LI K z) {q : Int} (hq : R32 q) : PrX [(0, 0), (3, 1)] K z (f_X8_reducedNumerator 0 q) (f_X9_reducedNumerator 105 q) := by
  have a := c8_reduced (d := 0) hL hq
  have b := m9_reduced (m := 105) hL hq
  by_cases h : 0 ≤ q ∧ q < z.1 0 + z.1 1
  · skip
    exact ⟨0, _, 0, _, (a.1 h).1, (b.1 h).1, li5 hL, by decide⟩
  · skip
    exact ⟨3, _, 1, _, (a.2 h).1, (b.2 h).1, li5 hL, by decide⟩
theorem pr_givenNumerator (hL : LI K z) {q : Int} (hq : R32 q) : PrX [(0, 0), (3, 1)] K z (f_X8_givenNumerator 0 q) (f_X9_givenNumerator 105 q) := by
  obtain ⟨v, hv⟩ := gv_ex hL (q := q)
  have a := c8_given (d := 0) hL hq hv
  have b := m9_given (m := 105) hL hq hv
  by_cases h : 0 ≤ q ∧ q < z.1 0 + z.1 1
  · skip
    exact ⟨0, _, 0, _, (a.1 h).1, (b.1 h).1, li5 hL, by decide⟩
  · skip
    exact ⟨3, _, 1, _, (a.2 h).1, (b.2 h).1, li5 hL, by decide⟩
theorem pr_dualNumerator (hL : LI K z) {q : Int} (hq : R32 q) : PrX [(0, 0), (3, 1)] K z (f_X8_dualNumerator 0 q) (f_X9_dualNumerator 105 q) := by
  have a := c8_dual (d := 0) hL hq
  have b := m9_dual (m := 105) hL hq
  by_cases h : 0 ≤ q ∧ q < z.1 1
  · skip
    exact ⟨0, _, 0, _, (a.1 h).1, (b.1 h).1, li5 hL, by decide⟩
  · skip
    exact ⟨3, _, 1, _, (a.2 h).1, (b.2 h).1, li5 hL, by decide⟩
theorem pr_dualNumeratorByEquations (hL : LI K z) {q : Int} (hq : R32 q) : PrX [(0, 0), (3, 1)] K z (f_X8_dualNumeratorByEquations 0 q) (f_X9_dualNumeratorByEquations 105 q) := by
  have a := c8_dualEq (d := 0) hL hq
  have b := m9_dualEq (m := 105) hL hq
  by_cases h : 0 ≤ q ∧ q < z.1 1
  · skip
    exact ⟨0, _, 0, _, (a.1 h).1, (b.1 h).1, li5 hL, by decide⟩
  · skip
    exact ⟨3, _, 1, _, (a.2 h).1, (b.2 h).1, li5 hL, by decide⟩
theorem pr_rayNumerator (hL : LI K z) {q : Int} (hq : R32 q) : PrX [(0, 0), (3, 1), (2, 2)] K z (f_X8_rayNumerator 0 q) (f_X9_rayNumerator 105 q) := by
  obtain ⟨v, hv⟩ := ray_ex hL
  obtain ⟨w, hw⟩ := gv_ex hL (q := q)
  have a := c8_ray (d := 0) hL hq hv hw
  have b := m9_ray (m := 105) hL hq hv hw
  by_cases h : 0 ≤ q ∧ q < z.1 0 + z.1 1
  · by_cases h2 : 0 ≤ v
    · skip
      exact ⟨0, _, 0, _, (a.1 ⟨h, h2⟩).1, (b.1 ⟨h, h2⟩).1, li5 hL, by decide⟩
    · skip
      exact ⟨2, _, 2, _, (a.2.2 ⟨h, h2⟩).1, (b.2.2 ⟨h, h2⟩).1, li5 hL, by decide⟩
  · skip
    exact ⟨3, _, 1, _, (a.2.1 h).1, (b.2.1 h).1, li5 hL, by decide⟩
theorem pr_solvedNumerator (hL : LI K z) {p : Int} (hp : R32 p) {q : Int} (hq : R32 q) : PrX [(0, 0), (3, 1), (1, 2), (2, 3)] K z (f_X8_solvedNumerator 0 p q) (f_X9_solvedNumerator 105 p q) := by
  obtain ⟨a1, a2, a3, a4⟩ := c8_solved (d := 0) hL hp hq
  obtain ⟨b1, b2, b3, b4⟩ := m9_solved (m := 105) hL hp hq
  by_cases h : 0 ≤ p ∧ p < z.1 1
  · by_cases h2 : 0 ≤ q ∧ q ≤ 99
    · by_cases h3 : bestF (sbF z.1 p q)
      · exact ⟨0, _, 0, _, (a4 ⟨⟨h, h2⟩, h3⟩).1, (b4 ⟨⟨h, h2⟩, h3⟩).1, li5 hL, by decide⟩
      · exact ⟨2, _, 3, _, (a3 ⟨⟨h, h2⟩, h3⟩).1, (b3 ⟨⟨h, h2⟩, h3⟩).1, li5 hL, by decide⟩
    · exact ⟨1, _, 2, _, (a2 ⟨h, h2⟩).1, (b2 ⟨h, h2⟩).1, li5 hL, by decide⟩
  · exact ⟨3, _, 1, _, (a1 h).1, (b1 h).1, li5 hL, by decide⟩
theorem pr_entryDenominator (hL : LI K z) {p : Int} (hp : R32 p) {q : Int} (hq : R32 q) : PrX [(0, 0), (3, 1)] K z (f_X8_entryDenominator 0 p q) (f_X9_entryDenominator 105 p q) := by
  have a := c8_entry (d := 0) hL hp hq
  have b := m9_entry (m := 105) hL hp hq
  by_cases h : Plc z.1 p q
  · skip
    exact ⟨0, _, 0, _, (a.1 h).2, (b.1 h).2, li5 hL, by decide⟩
  · skip
    exact ⟨3, _, 1, _, (a.2 h).2, (b.2 h).2, li5 hL, by decide⟩
theorem pr_reducedDenominator (hL : LI K z) {q : Int} (hq : R32 q) : PrX [(0, 0), (3, 1)] K z (f_X8_reducedDenominator 0 q) (f_X9_reducedDenominator 105 q) := by
  have a := c8_reduced (d := 0) hL hq
  have b := m9_reduced (m := 105) hL hq
  by_cases h : 0 ≤ q ∧ q < z.1 0 + z.1 1
  · skip
    exact ⟨0, _, 0, _, (a.1 h).2, (b.1 h).2, li5 hL, by decide⟩
  · skip
    exact ⟨3, _, 1, _, (a.2 h).2, (b.2 h).2, li5 hL, by decide⟩
theorem pr_givenDenominator (hL : LI K z) {q : Int} (hq : R32 q) : PrX [(0, 0), (3, 1)] K z (f_X8_givenDenominator 0 q) (f_X9_givenDenominator 105 q) := by
  obtain ⟨v, hv⟩ := gv_ex hL (q := q)
  have a := c8_given (d := 0) hL hq hv
  have b := m9_given (m := 105) hL hq hv
  by_cases h : 0 ≤ q ∧ q < z.1 0 + z.1 1
  · skip
    exact ⟨0, _, 0, _, (a.1 h).2, (b.1 h).2, li5 hL, by decide⟩
  · skip
    exact ⟨3, _, 1, _, (a.2 h).2, (b.2 h).2, li5 hL, by decide⟩
theorem pr_dualDenominator (hL : LI K z) {q : Int} (hq : R32 q) : PrX [(0, 0), (3, 1)] K z (f_X8_dualDenominator 0 q) (f_X9_dualDenominator 105 q) := by
  have a := c8_dual (d := 0) hL hq
  have b := m9_dual (m := 105) hL hq
  by_cases h : 0 ≤ q ∧ q < z.1 1
  · skip
    exact ⟨0, _, 0, _, (a.1 h).2, (b.1 h).2, li5 hL, by decide⟩
  · skip
    exact ⟨3, _, 1, _, (a.2 h).2, (b.2 h).2, li5 hL, by decide⟩
theorem pr_dualDenominatorByEquations (hL : LI K z) {q : Int} (hq : R32 q) : PrX [(0, 0), (3, 1)] K z (f_X8_dualDenominatorByEquations 0 q) (f_X9_dualDenominatorByEquations 105 q) := by
  have a := c8_dualEq (d := 0) hL hq
  have b := m9_dualEq (m := 105) hL hq
  by_cases h : 0 ≤ q ∧ q < z.1 1
  · skip
    exact ⟨0, _, 0, _, (a.1 h).2, (b.1 h).2, li5 hL, by decide⟩
  · skip
    exact ⟨3, _, 1, _, (a.2 h).2, (b.2 h).2, li5 hL, by decide⟩
theorem pr_rayDenominator (hL : LI K z) {q : Int} (hq : R32 q) : PrX [(0, 0), (3, 1), (2, 2)] K z (f_X8_rayDenominator 0 q) (f_X9_rayDenominator 105 q) := by
  obtain ⟨v, hv⟩ := ray_ex hL
  obtain ⟨w, hw⟩ := gv_ex hL (q := q)
  have a := c8_ray (d := 0) hL hq hv hw
  have b := m9_ray (m := 105) hL hq hv hw
  by_cases h : 0 ≤ q ∧ q < z.1 0 + z.1 1
  · by_cases h2 : 0 ≤ v
    · skip
      exact ⟨0, _, 0, _, (a.1 ⟨h, h2⟩).2, (b.1 ⟨h, h2⟩).2, li5 hL, by decide⟩
    · skip
      exact ⟨2, _, 2, _, (a.2.2 ⟨h, h2⟩).2, (b.2.2 ⟨h, h2⟩).2, li5 hL, by decide⟩
  · skip
    exact ⟨3, _, 1, _, (a.2.1 h).2, (b.2.1 h).2, li5 hL, by decide⟩
theorem pr_solvedDenominator (hL : LI K z) {p : Int} (hp : R32 p) {q : Int} (hq : R32 q) : PrX [(0, 0), (3, 1), (1, 2), (2, 3)] K z (f_X8_solvedDenominator 0 p q) (f_X9_solvedDenominator 105 p q) := by
  obtain ⟨a1, a2, a3, a4⟩ := c8_solved (d := 0) hL hp hq
  obtain ⟨b1, b2, b3, b4⟩ := m9_solved (m := 105) hL hp hq
  by_cases h : 0 ≤ p ∧ p < z.1 1
  · by_cases h2 : 0 ≤ q ∧ q ≤ 99
    · by_cases h3 : bestF (sbF z.1 p q)
      · exact ⟨0, _, 0, _, (a4 ⟨⟨h, h2⟩, h3⟩).2, (b4 ⟨⟨h, h2⟩, h3⟩).2, li5 hL, by decide⟩
      · exact ⟨2, _, 3, _, (a3 ⟨⟨h, h2⟩, h3⟩).2, (b3 ⟨⟨h, h2⟩, h3⟩).2, li5 hL, by decide⟩
    · exact ⟨1, _, 2, _, (a2 ⟨h, h2⟩).2, (b2 ⟨h, h2⟩).2, li5 hL, by decide⟩
  · exact ⟨3, _, 1, _, (a1 h).2, (b1 h).2, li5 hL, by decide⟩
theorem pr_rayColumn (hL : LI K z) : PrX [(0, 0), (2, 1)] K z (f_X8_rayColumn 0) (f_X9_rayColumn 105) := by
  obtain ⟨v, hv⟩ := ray_ex hL
  have a := c8_rayColumn (d := 0) hL hv
  have b := m9_rayColumn (m := 105) hL hv
  by_cases h : 0 ≤ v
  · skip
    exact ⟨0, _, 0, _, (a.1 h), (b.1 h), li5 hL, by decide⟩
  · skip
    exact ⟨2, _, 1, _, (a.2 h), (b.2 h), li5 hL, by decide⟩
theorem pr_whyNoPivot (hL : LI K z) {p : Int} (hp : R32 p) {q : Int} (hq : R32 q) : PrX [(0, 0), (3, 1)] K z (f_X8_whyNoPivot 0 p q) (f_X9_whyNoPivot 105 p q) := by
  have a := c8_whyNoPivot (d := 0) hL hp hq
  have b := m9_whyNoPivot (m := 105) hL hp hq
  by_cases h : Plc z.1 p q
  · skip
    exact ⟨0, _, 0, _, (a.1 h), (b.1 h), li5 hL, by decide⟩
  · skip
    exact ⟨3, _, 1, _, (a.2 h), (b.2 h), li5 hL, by decide⟩
theorem pr_nextColumn (hL : LI K z) : PrX [(0, 0), (2, 1)] K z (f_X8_nextColumn 0) (f_X9_nextColumn 105) := by
  have a := c8_next (d := 0) hL
  have b := m9_next (m := 105) hL
  by_cases h : opn z.1
  · skip
    exact ⟨0, _, 0, _, (a.1 h).1, (b.1 h).1, li5 hL, by decide⟩
  · skip
    exact ⟨2, _, 1, _, (a.2 h).1, (b.2 h).1, li5 hL, by decide⟩
theorem pr_nextRow (hL : LI K z) : PrX [(0, 0), (2, 1)] K z (f_X8_nextRow 0) (f_X9_nextRow 105) := by
  have a := c8_next (d := 0) hL
  have b := m9_next (m := 105) hL
  by_cases h : opn z.1
  · skip
    exact ⟨0, _, 0, _, (a.1 h).2, (b.1 h).2, li5 hL, by decide⟩
  · skip
    exact ⟨2, _, 1, _, (a.2 h).2, (b.2 h).2, li5 hL, by decide⟩
theorem pr_leastBound (hL : LI K z) {p : Int} (hp : R32 p) : PrX [(0, 0), (3, 1)] K z (f_X8_leastBound 0 p) (f_X9_leastBound 105 p) := by
  by_cases h : 0 ≤ p ∧ p < z.1 1
  · obtain ⟨A, hA⟩ := le_ex hL.1.1 hL.1.2.1 h
    exact ⟨0, _, 0, _, (c8_leastBound hL hp (fun _ => hA)).1 h, (m9_leastBound hL hp (fun _ => hA)).1 h, li5 hL, by decide⟩
  · exact ⟨3, _, 1, _, (c8_leastBound (A := 0) hL hp (fun z => absurd z h)).2 h, (m9_leastBound (A := 0) hL hp (fun z => absurd z h)).2 h, li5 hL, by decide⟩
theorem pr_greatestBound (hL : LI K z) {p : Int} (hp : R32 p) : PrX [(0, 0), (3, 1)] K z (f_X8_greatestBound 0 p) (f_X9_greatestBound 105 p) := by
  by_cases h : 0 ≤ p ∧ p < z.1 1
  · obtain ⟨A, hA⟩ := gr_ex hL.1.1 hL.1.2.1 h
    exact ⟨0, _, 0, _, (c8_greatestBound hL hp (fun _ => hA)).1 h, (m9_greatestBound hL hp (fun _ => hA)).1 h, li5 hL, by decide⟩
  · exact ⟨3, _, 1, _, (c8_greatestBound (A := 0) hL hp (fun z => absurd z h)).2 h, (m9_greatestBound (A := 0) hL hp (fun z => absurd z h)).2 h, li5 hL, by decide⟩
theorem pr_begin (hL : LI K z) : PrI K z (f_X8_begin 0) (f_X9_begin 105) := ⟨_, _, c8_begin hL, m9_begin hL, li_bg hL hL.1.1 rfl rfl rfl⟩
theorem pr_solve (hL : LI K z) : PrI K z (f_X8_solve 0) (f_X9_solve 105) := ⟨_, _, c8_solve hL, m9_solve hL, psh_li (li5 hL) ((slF_g 40 hL.1).mo (by omega))⟩
theorem pr_clearBuffer (hL : LI K z) : PrI K z (f_X8_clearBuffer 0) (f_X9_clearBuffer 105) := ⟨_, _, c8_clearBuffer, m9_clearBuffer, li5 (cl_li hL)⟩
theorem pr_firstError (hL : LI K z) : PrI K z (f_X8_firstError 0) (f_X9_firstError 105) := ⟨_, _, c8_firstError hL, m9_firstError hL, li5 hL⟩
theorem pr_keep (hL : LI K z) : PrI K z (f_X8_keep 0) (f_X9_keep 105) := ⟨_, _, c8_keep hL, m9_keep hL, li5 (keep_li hL)⟩
theorem pr_pivotsLeft (hL : LI K z) : PrI K z (f_X8_pivotsLeft 0) (f_X9_pivotsLeft 105) := ⟨_, _, c8_pivotsLeft hL, m9_pivotsLeft hL, li5 hL⟩
theorem pr_feasibleBases (hL : LI K z) : PrI K z (f_X8_feasibleBases 0) (f_X9_feasibleBases 105) := ⟨_, _, (c8_survey hL).1, (m9_survey hL).1, li5 hL⟩
theorem pr_unlikeValues (hL : LI K z) : PrI K z (f_X8_unlikeValues 0) (f_X9_unlikeValues 105) := ⟨_, _, (c8_survey hL).2.1, (m9_survey hL).2.1, li5 hL⟩
theorem pr_bestNumerator (hL : LI K z) : PrI K z (f_X8_bestNumerator 0) (f_X9_bestNumerator 105) := ⟨_, _, (c8_survey hL).2.2.1, (m9_survey hL).2.2.1, li5 hL⟩
theorem pr_bestDenominator (hL : LI K z) : PrI K z (f_X8_bestDenominator 0) (f_X9_bestDenominator 105) := ⟨_, _, (c8_survey hL).2.2.2, (m9_survey hL).2.2.2, li5 hL⟩
theorem pr_digest (hL : LI K z) (hK : K ≤ 1000000) : PrI K z (f_X8_digest 0) (f_X9_digest 105) := ⟨_, _, c8_digest hL hK, m9_digest hL hK, li5 hL⟩
theorem pr_savedStates : PrP z (f_X8_savedStates 0) (f_X9_savedStates 105) := ⟨_, fun _ hC => c8_savedStates hC, m9_savedStates⟩
theorem pr_variables : PrP z (f_X8_variables 0) (f_X9_variables 105) := ⟨_, fun _ hC => c8_variables hC, m9_variables⟩
theorem pr_constraints : PrP z (f_X8_constraints 0) (f_X9_constraints 105) := ⟨_, fun _ hC => c8_constraints hC, m9_constraints⟩
theorem pr_rule : PrP z (f_X8_rule 0) (f_X9_rule 105) := ⟨_, fun _ hC => c8_rule hC, m9_rule⟩
theorem pr_pivots : PrP z (f_X8_pivots 0) (f_X9_pivots 105) := ⟨_, fun _ hC => c8_pivots hC, m9_pivots⟩
theorem pr_allPivots : PrP z (f_X8_allPivots 0) (f_X9_allPivots 105) := ⟨_, fun _ hC => c8_allPivots hC, m9_allPivots⟩
theorem pr_idlePivots : PrP z (f_X8_idlePivots 0) (f_X9_idlePivots 105) := ⟨_, fun _ hC => c8_idlePivots hC, m9_idlePivots⟩
theorem pr_isOptimal (hL : LI K z) : PrP z (f_X8_isOptimal 0) (f_X9_isOptimal 105) := ⟨_, fun _ hC => c8_isOptimal hL hC, m9_isOptimal hL⟩
theorem pr_hasRay (hL : LI K z) : PrP z (f_X8_hasRay 0) (f_X9_hasRay 105) := by
  obtain ⟨v, hv⟩ := ray_ex hL
  exact ⟨_, fun _ hC => c8_hasRay hL hv hC, m9_hasRay hL hv⟩
theorem pr_valueNumerator (hL : LI K z) : PrP z (f_X8_valueNumerator 0) (f_X9_valueNumerator 105) := ⟨_, fun _ hC => (c8_value hL hC).1, (m9_value hL).1⟩
theorem pr_valueDenominator (hL : LI K z) : PrP z (f_X8_valueDenominator 0) (f_X9_valueDenominator 105) := ⟨_, fun _ hC => (c8_value hL hC).2, (m9_value hL).2⟩
theorem pr_dualValueNumerator (hL : LI K z) : PrP z (f_X8_dualValueNumerator 0) (f_X9_dualValueNumerator 105) := ⟨_, fun _ hC => (c8_dualValue hL hC).1, (m9_dualValue hL).1⟩
theorem pr_dualValueDenominator (hL : LI K z) : PrP z (f_X8_dualValueDenominator 0) (f_X9_dualValueDenominator 105) := ⟨_, fun _ hC => (c8_dualValue hL hC).2, (m9_dualValue hL).2⟩
theorem m9_dvalue {m : Nat} (hL : LI K z) {c0 : W0} (hM0 : MI m z c0) : ∃ c1, f_X9_value m c0 = some (vdZ (wN z.1) (wE z.1), c1) ∧ FrM m c0 c1 ∧ MI m z c1 := by
  have h : Mo m z (fun c => (f_X9_value m c).map (fun r => ((r.1.toNat : Int), r.2))) 0 ((vdZ (wN z.1) (wE z.1)).toNat : Int) z := Mo_s (fun c hM => by
    obtain ⟨c1, e1, hQ, hx, hy⟩ := valueNow9 (m := m) hL (upc c m (updZ (c m) 0 0)) ((tz_q (by omega)).trans hM.1)
    refine ⟨c1, ?_, hQ⟩
    unfold f_X9_value
    simp only [sto]
    rw [e1, cl_s, hx, hy]
    exact (congrArg (Option.map (fun r : UInt64 × W0 => ((r.1.toNat : Int), r.2))) (gd_t (x := some (vdZ (wN z.1) (wE z.1), c1)) (bt_e hL).1)).trans rfl)
  obtain ⟨c1, e, hF, hM1, -⟩ := h c0 hM0
  have e : (f_X9_value m c0).map (fun r => ((r.1.toNat : Int), r.2)) = some (((vdZ (wN z.1) (wE z.1)).toNat : Int), c1) := e
  cases hh : f_X9_value m c0 with
  | none => rw [hh] at e; cases e
  | some r =>
    rw [hh] at e
    have e2 := Option.some.inj e
    have e3 : (r.1.toNat : Int) = ((vdZ (wN z.1) (wE z.1)).toNat : Int) := congrArg Prod.fst e2
    have e4 : r.2 = c1 := congrArg Prod.snd e2
    have e5 : r.1 = vdZ (wN z.1) (wE z.1) := UInt64.toNat_inj.mp (by omega)
    refine ⟨c1, ?_, hF, hM1⟩
    rw [← e4, ← e5]
end CP
