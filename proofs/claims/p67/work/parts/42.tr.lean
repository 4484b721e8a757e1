section TR
variable {d m : Nat} {z : St} {K : Int}
/-! the trial -/
theorem CI_f3 {c c' : W0} (h : CI d z c) (e : ∀ q, d ≤ q → (q < d + 10 ∨ d + 19 ≤ q) → (q < d + 32 ∨ d + 51 ≤ q) → q < d + 105 → c' q = c q) : CI d z c' := by
  obtain ⟨h1, h2, h3, h4, h5⟩ := h
  refine ⟨RepS_fr h1 (fun q a b => e q (by omega) (by omega) (by omega) (by omega)), SvC_fr h2 (by rw [e d (by omega) (by omega) (by omega) (by omega)]) (e _ (by omega) (by omega) (by omega) (by omega)) (fun q a b => e q (by omega) (by omega) (by omega) (by omega)), ⟨by rw [e d (by omega) (by omega) (by omega) (by omega)]; exact h3.1, fun z => RepS_fr (h3.2 z) (fun q a b => e q (by omega) (by omega) (by omega) (by omega))⟩, by rw [e _ (by omega) (by omega) (by omega) (by omega)]; exact h4, by rw [e _ (by omega) (by omega) (by omega) (by omega)]; exact h5⟩
theorem slF_o {K : Int} : ∀ (k : Nat) {F : Int → Int}, Good K F → ∀ i, i < 0 ∨ 34 ≤ i → (slF k F).2 i = F i
  | 0, F, _, i, _ => rfl
  | k + 1, F, h, i, hi => by
    by_cases ho : opn F
    · rw [slF_y ho]
      have hp := opn_pv h.1 ho
      show (slF k (stp F)).2 i = F i
      rw [slF_o k (K := K + 1) (F := stp F) (pv_good h hp) i hi]
      unfold stp pvW
      have h1 := hp.1
      have h2 := h.1.2.1
      rw [updZ_n (by omega), updZ_n (by omega), updZ_n (by omega), updZ_n (by omega)]
    · rw [slF_n ho]
theorem c8_pivotsLeft (hL : LI K z) : ClI d z (f_X8_pivotsLeft d) (slF 40 z.1).1 z := by
  intro c hC
  obtain ⟨c1, e1, hF1, hS1⟩ := copyS8 (s := d + 10) (u := d + 1) hC.1 (by omega)
  obtain ⟨c2, e2, hF2, hS2⟩ := run8 hL.1 hS1
  unfold f_X8_pivotsLeft
  rw [e1, cl_s, e2, cl_s]
  have hF := hF1.tr hF2
  exact ⟨c2, rfl, fun q hq => hF q (by unfold SS9; omega), CI_f3 hC (fun q a b _ _ => hF q (by unfold SS9; omega))⟩
theorem aside9 {c : W0} : ∃ c', f_X9_putAside m c = some (0, c') ∧ Fr (fun q => q = m + 2) c c' ∧ ∀ i, 0 ≤ i → i < 34 → c' (m + 2) i = c (m + 1) i := by
  have L : ∀ (k fuel : Nat) (l : Int) (c1 : W0), l + k = 34 → 0 ≤ l → k + 1 ≤ fuel → Fr (fun q => q = m + 2) c c1 → (∀ i, 0 ≤ i → i < l → c1 (m + 2) i = c (m + 1) i) → ∃ c2, f_X9_putAside_2 m (fun c1 => some (0, c1)) fuel l c1 = some (0, c2) ∧ Fr (fun q => q = m + 2) c c2 ∧ ∀ i, 0 ≤ i → i < 34 → c2 (m + 2) i = c (m + 1) i := by
    intro k
    induction k with
    | zero =>
      intro fuel l c1 hl h0 hf hF hI
      obtain ⟨f, rfl⟩ : ∃ f, fuel = f + 1 := ⟨fuel - 1, by omega⟩
      rw [f_X9_putAside_2_s]
      unfold b_X9_putAside_2
      rw [gd_t (by omega), bq_p (by omega)]
      exact ⟨c1, rfl, hF, fun i a b => hI i a (by omega)⟩
    | succ k ih =>
      intro fuel l c1 hl h0 hf hF hI
      obtain ⟨f, rfl⟩ : ∃ f, fuel = f + 1 := ⟨fuel - 1, by omega⟩
      rw [f_X9_putAside_2_s]
      unfold b_X9_putAside_2
      simp only [sto]
      rw [gd_t (by omega), bq_n (by omega), gd_t (by omega), gd_t (by omega), hF (m + 1) (by omega)]
      refine ih f (l + 1) _ (by omega) (by omega) (by omega) (hF.tr (Fr.up rfl)) (fun i a b => ?_)
      rw [upc_s]
      by_cases e : i = l
      · rw [e, updZ_s]
      · rw [updZ_n e]; exact hI i a (by omega)
  unfold f_X9_putAside
  exact L 34 LF 0 c (by omega) (by omega) (by rw [LF_g]; omega) Fr.rf (fun i a b => by omega)
theorem back9 {c : W0} : ∃ c', f_X9_putBack m c = some (0, c') ∧ Fr (fun q => q = m + 1) c c' ∧ c' (m + 1) = ov34 (c (m + 1)) (c (m + 2)) := by
  have L : ∀ (k fuel : Nat) (l : Int) (c1 : W0), l + k = 34 → 0 ≤ l → k + 1 ≤ fuel → Fr (fun q => q = m + 1) c c1 → c1 (m + 1) = (fun i => if 0 ≤ i ∧ i < l then c (m + 2) i else c (m + 1) i) → ∃ c2, f_X9_putBack_2 m (fun c1 => some (0, c1)) fuel l c1 = some (0, c2) ∧ Fr (fun q => q = m + 1) c c2 ∧ c2 (m + 1) = ov34 (c (m + 1)) (c (m + 2)) := by
    intro k
    induction k with
    | zero =>
      intro fuel l c1 hl h0 hf hF hI
      obtain ⟨f, rfl⟩ : ∃ f, fuel = f + 1 := ⟨fuel - 1, by omega⟩
      obtain rfl : l = 34 := by omega
      rw [f_X9_putBack_2_s]
      unfold b_X9_putBack_2
      rw [gd_t (by omega), bq_p (by omega)]
      exact ⟨c1, rfl, hF, hI⟩
    | succ k ih =>
      intro fuel l c1 hl h0 hf hF hI
      obtain ⟨f, rfl⟩ : ∃ f, fuel = f + 1 := ⟨fuel - 1, by omega⟩
      rw [f_X9_putBack_2_s]
      unfold b_X9_putBack_2
      simp only [sto]
      rw [gd_t (by omega), bq_n (by omega), gd_t (by omega), gd_t (by omega), hF (m + 2) (by omega)]
      refine ih f (l + 1) _ (by omega) (by omega) (by omega) (hF.tr (Fr.up rfl)) ?_
      rw [upc_s, hI]
      funext i
      unfold updZ
      try dsimp only
      by_cases e : i = l
      · rw [if_pos e, if_pos (show 0 ≤ i ∧ i < l + 1 by omega), e]
      · rw [if_neg e]
        by_cases e2 : 0 ≤ i ∧ i < l
        · rw [if_pos e2, if_pos (show 0 ≤ i ∧ i < l + 1 by omega)]
        · rw [if_neg e2, if_neg (show ¬ (0 ≤ i ∧ i < l + 1) by omega)]
  unfold f_X9_putBack
  refine L 34 LF 0 c (by omega) (by omega) (by rw [LF_g]; omega) Fr.rf ?_
  funext i
  rw [if_neg (by omega)]
/-- what counts is put back -/
theorem bk9 {c c5 : W0} (hM : MI m z c) (h1 : c5 (m + 1) = z.1) (hQ : ∀ q, q ≠ m → ¬ P8 m q → q ≠ m + 2 → c5 q = c q) (hi : ∀ i, i ≠ 0 → i ≠ 16 → i ≠ 17 → c5 m i = c m i) : MI m z c5 ∧ FrM m c c5 := ⟨MI_sc hM (h1.trans hM.1.symm) (hQ _ (by omega) (by unfold P8 P7; omega) (by omega)) (hQ _ (by omega) (by unfold P8 P7; omega) (by omega)) (hQ _ (by omega) (by unfold P8 P7; omega) (by omega)) (hi 4 (by decide) (by decide) (by decide)) (hi 6 (by decide) (by decide) (by decide)) (hi 8 (by decide) (by decide) (by decide)), fun q hq => hQ q (by omega) (by unfold P8 P7; omega) (by omega)⟩
theorem m9_pivotsLeft (hL : LI K z) : Mo m z (f_X9_pivotsLeft m) 0 (slF 40 z.1).1 z := by
  intro c hM
  obtain ⟨c2, e2, hF2, h2⟩ := aside9 (m := m) (c := upc c m (updZ (c m) 0 0))
  have k2 : c2 (m + 1) = z.1 := by rw [hF2 _ (by omega), tz_q (by omega)]; exact hM.1
  obtain ⟨c3, e3, hQ3, hLd⟩ := solves9 hL.1 k2
  obtain ⟨c4, e4, hF4, h4⟩ := back9 (m := m) (c := c3)
  have h41 : c4 (m + 1) = z.1 := by
    rw [h4, hLd.1]
    funext i
    unfold ov34
    by_cases h : 0 ≤ i ∧ i < 34
    · rw [if_pos h, hQ3.1 (m + 2) (by omega) (by unfold P8 P7; omega), h2 i h.1 h.2, tz_q (by omega), hM.1]
    · rw [if_neg h]
      exact slF_o 40 hL.1 i (by omega)
  have hi : ∀ i, i ≠ 16 → i ≠ 17 → c4 m i = upc c m (updZ (c m) 0 0) m i := fun i a b => by
    rw [hF4 m (by omega), hQ3.2 i a b, hF2 m (by omega)]
  obtain ⟨a, b⟩ := bk9 (c5 := c4) hM h41 (fun q x y w => by rw [hF4 q (by unfold P8 at y; omega), hQ3.1 q x y, hF2 q (by omega), tz_q x]) (fun i x y w => by rw [hi i y w, upc_s, updZ_n x])
  unfold f_X9_pivotsLeft f_X9_leftPivots
  simp only [sto]
  rw [e2, cl_s, e3, cl_s, e4, cl_s, cl_s]
  exact ⟨c4, rfl, b, a, (hi 0 (by decide) (by decide)).trans tz_0⟩
/-! solved with another bound -/
noncomputable def sbF (F : Int → Int) (p q : Int) : Int → Int := (slF 40 (bgF (updZ F (22 + p) q))).2
theorem sb_g1 (hL : LI K z) {p q : Int} (hp : 0 ≤ p ∧ p < z.1 1) (hq : 0 ≤ q ∧ q ≤ 99) : Good K (bgF (updZ z.1 (22 + p) q)) := by
  obtain ⟨h1, -, h3, h4, h5, h6⟩ := hL.1
  have g1 := h1.2.1
  refine Good_bg (by omega) (up_g3 h1 ⟨hp.1, by omega⟩ hq) ?_ ?_ ?_
  · rw [updZ_n (by omega)]; exact h3
  · rw [updZ_n (by omega)]; exact h5
  · rw [updZ_n (by omega)]; exact h6
theorem sb_g (hL : LI K z) {p q : Int} (hp : 0 ≤ p ∧ p < z.1 1) (hq : 0 ≤ q ∧ q ≤ 99) : Good (K + 40) (sbF z.1 p q) := slF_g 40 (sb_g1 hL hp hq)
theorem try8 (hL : LI K z) {p q : Int} (hp : 0 ≤ p ∧ p < z.1 1) (hq : 0 ≤ q ∧ q ≤ 99) {c : W0} (hC : CI d z c) : ∃ c', FrD d c c' ∧ CI d z c' ∧ RepS (d + 10) (sbF z.1 p q) c' ∧ ((bestF (sbF z.1 p q) ∧ f_X8_tryBound d p q c = some (0, 0, c')) ∨ (¬ bestF (sbF z.1 p q) ∧ f_X8_tryBound d p q c = some (2, 0, c'))) := by
  have g := hL.1.1
  have g0 := g.1; have g1 := g.2.1
  have gF1 := up_g3 g (r := p) (v := q) ⟨hp.1, by omega⟩ hq
  obtain ⟨c1, e1, hF1, hS1⟩ := copyS8 (s := d + 10) (u := d + 1) hC.1 (by omega)
  have hP1 : RepP (d + 9 + 2) z.1 c1 := hS1.1
  have hP2 : RepP (d + 9 + 2) (updZ z.1 (22 + p) q) (upc c1 (d + 9 + 4) (updZ (c1 (d + 9 + 4)) (p * 5 + 4) q)) := by
    refine put8 (d := d + 9) hP1 (by omega) (updZ_n (by omega)) (updZ_n (by omega)) (fun r x a b a2 b2 => ?_) (fun x a b => ?_) (fun r a b => ?_) (fun r x a b a2 b2 e => by omega)
    · rw [updZ_n (by omega), if_neg (by omega)]
    · rw [updZ_n (by omega), if_neg (by omega)]
    · unfold updZ
      by_cases e : r = p
      · rw [if_pos (by omega), if_pos (by omega)]
      · rw [if_neg (by omega), if_neg (by omega)]
  have e2 : f_X2_putBound (d + 11) p q c1 = some (0, upc c1 (d + 9 + 4) (updZ (c1 (d + 9 + 4)) (p * 5 + 4) q)) := by
    unfold f_X2_putBound
    rw [gd_t (by omega)]
  generalize hc2 : upc c1 (d + 9 + 4) (updZ (c1 (d + 9 + 4)) (p * 5 + 4) q) = c2 at *
  have hF2 : Fr (SS9 (d + 10)) c1 c2 := by
    rw [← hc2]
    exact Fr.up (by unfold SS9; omega)
  have es : c2 (d + 9 + 1) = c1 (d + 9 + 1) := by rw [← hc2, upc_n (by omega)]
  obtain ⟨c3, e3, hF3, hS3⟩ := anew8 (d := d + 9) gF1 hP2 (by rw [es, updZ_n (by omega)]; exact hS1.2.2.1) (by rw [es, updZ_n (by omega)]; exact hS1.2.2.2.2.1) (by rw [es, updZ_n (by omega)]; exact hS1.2.2.2.2.2)
  have e3' : f_X4_start (d + 10) c2 = some (0, c3) := e3
  have hS3' : RepS (d + 10) (bgF (updZ z.1 (22 + p) q)) c3 := hS3
  have hF3' : Fr (SS9 (d + 10)) c2 c3 := hF3
  obtain ⟨c4, e4, hF4, hS4⟩ := run8 (sb_g1 hL hp hq) hS3'
  have hF := ((hF1.tr hF2).tr hF3').tr hF4
  have hG := sb_g hL hp hq
  have hT4 : RepT (d + 14) (sbF z.1 p q) c4 := hS4.2.1
  obtain ⟨b, eb, hb⟩ := isBest8 hT4 hG.1 hG.2.1.1
  refine ⟨c4, fun y hy => hF y (by unfold SS9; omega), CI_f3 hC (fun y a b _ _ => hF y (by unfold SS9; omega)), hS4, ?_⟩
  have r1 := reqC8 (c := c) hC.1.1 g (k := p) (by omega)
  have r2 := reqB8 (c := c) (k := q) (by omega)
  have r1' : f_X8_requireConstraint d p c = some (0, 0, c) := by
    rcases r1 with ⟨-, -, r⟩ | ⟨r, -⟩
    · exact r
    · exact absurd hp r
  have r2' : f_X8_requireBound q c = some (0, 0, c) := by
    rcases r2 with ⟨-, r⟩ | ⟨r, -⟩
    · exact r
    · exact absurd hq r
  unfold f_X8_tryBound
  rw [r1', cx_s, r2', cx_s, e1, cl_s, e2, cl_s, e3', cl_s, e4, cl_s, eb, cv_s]
  rcases hb with ⟨rfl, h⟩ | ⟨rfl, h⟩
  · rw [gd_t (by omega), bq_n (by omega)]
    exact Or.inl ⟨h, rfl⟩
  · rw [gd_t (by omega), bq_p rfl]
    exact Or.inr ⟨h, rfl⟩
end TR
