section RY
variable {d m : Nat} {z : St} {K : Int}
/-! along the ray -/
def grF (F : Int → Int) (v q w : Int) : Int := if q = v then dF F else if 0 ≤ w then -tF F w v else 0
theorem gr_b {F : Int → Int} (g : GdP F) (hN : GdN F) {v q w : Int} (hv : 0 ≤ v ∧ v < F 0 + F 1) (hw : w < F 1) : -157464 ≤ grF F v q w ∧ grF F v q w ≤ 157464 := by
  have g1 := g.2.1
  unfold grF
  split
  · exact dF_b g hN
  · split
    · have := tF_b g hN (r := w) (q := v) (by omega) hv
      omega
    · omega
theorem grow8 (hL : LI K z) {q v w : Int} (hq : R32 q) (hv : fstP (rayF z.1) (z.1 0 + z.1 1) v) (h0 : 0 ≤ v) (hw : fstP (fun r => z.1 (27 + r) = q) (z.1 1) w) {c : W0} (hC : CI d z c) : f_X6_growth (d + 5) q c = some (grF z.1 v q w) := by
  have g := hL.1.1; have hN := hL.1.2.1.1
  have g0 := g.1; have g1 := g.2.1
  have hvr : v < z.1 0 + z.1 1 := by rcases hv with h | h <;> omega
  have hwr := fst_r g1.1 hw
  obtain ⟨x, ex, hx⟩ := rowNaming8 hC.1.2.1 g hN hq
  have exw : x = w := fstP_u hx hw (fun _ _ _ => Iff.rfl)
  subst exw
  have e2 : c (d + 5) 2 = dF z.1 := hC.1.2.1.2.2.1
  unfold f_X6_growth grF
  rw [open8 hL hv hC, cv_s, gd_t ⟨hq, by omega⟩, e2]
  by_cases h : q = v
  · rw [bq_p h, if_pos h]
  · rw [bq_n h, if_neg h, ex, cv_s, gd_t (by omega)]
    by_cases h2 : 0 ≤ x
    · rw [bq_p h2, if_pos h2, entry8 hC.1.2.1 g ⟨h2, by omega⟩ ⟨h0, hvr⟩, cv_s]
    · rw [bq_n h2, if_neg h2]
theorem along9 (hL : LI K z) {q v w : Int} (hq : R32 q) (hv : fstP (rayF z.1) (z.1 0 + z.1 1) v) (h0 : 0 ≤ v) (hw : fstP (fun r => z.1 (27 + r) = q) (z.1 1) w) : Hlds m z (f_X9_along m q) (nu (grF z.1 v q w) (dF z.1)) (de (grF z.1 v q w) (dF z.1)) := by
  intro c hF
  have g := hL.1.1; have hN := hL.1.2.1.1; have hd := hL.1.2.1.2.1
  have g0 := g.1; have g1 := g.2.1
  have hvr : v < z.1 0 + z.1 1 := by rcases hv with h | h <;> omega
  have hray : 0 < rF z.1 v := by
    rcases hv with h | h
    · omega
    · exact h.2.2.1.1
  have hwr := fst_r g1.1 hw
  obtain ⟨c1, e1, hQ, hLd⟩ := endl9 (m := m) hL hv hF
  have L : ∀ (x0 y0 : Int) (k fuel : Nat) (l : Int) (c0 : W0), l + k = z.1 1 → 0 ≤ l → k + 1 ≤ fuel → Qs m (P7 m) c c0 → Laid m z.1 c0 → (c0 m 16 = (if 0 ≤ w ∧ w < l then nu (-tF z.1 w v) (dF z.1) else x0) ∧ c0 m 17 = if 0 ≤ w ∧ w < l then de (-tF z.1 w v) (dF z.1) else y0) → ∃ c2, f_X9_along_22 m q v (fun c7 => some (0, c7)) fuel l c0 = some (0, c2) ∧ Qs m (P7 m) c c2 ∧ c2 m 16 = (if 0 ≤ w then nu (-tF z.1 w v) (dF z.1) else x0) ∧ c2 m 17 = if 0 ≤ w then de (-tF z.1 w v) (dF z.1) else y0 := by
    intro x0 y0 k
    induction k with
    | zero =>
      intro fuel l c0 hl hl0 hf hQ0 hL0 hI
      obtain ⟨f, rfl⟩ : ∃ f, fuel = f + 1 := ⟨fuel - 1, by omega⟩
      rw [f_X9_along_22_s]
      unfold b_X9_along_22
      rw [hL0.1, gd_t (by omega), bq_p (by omega)]
      by_cases y : 0 ≤ w
      · rw [if_pos (show 0 ≤ w ∧ w < l by omega), if_pos (show 0 ≤ w ∧ w < l by omega)] at hI
        rw [if_pos y, if_pos y]
        exact ⟨c0, rfl, hQ0, hI⟩
      · rw [if_neg (show ¬ (0 ≤ w ∧ w < l) by omega), if_neg (show ¬ (0 ≤ w ∧ w < l) by omega)] at hI
        rw [if_neg y, if_neg y]
        exact ⟨c0, rfl, hQ0, hI⟩
    | succ k ih =>
      intro fuel l c0 hl hl0 hf hQ0 hL0 hI
      obtain ⟨f, rfl⟩ : ∃ f, fuel = f + 1 := ⟨fuel - 1, by omega⟩
      have hNl := hN l hl0 (by omega)
      have hnm := hL0.2.1 l hl0 (by omega)
      rw [f_X9_along_22_s]
      unfold b_X9_along_22
      rw [hL0.1, hnm, gd_t (by omega), bq_n (by omega), gd_t (by omega), gd_t ⟨by omega, hq⟩]
      by_cases e : z.1 (27 + l) = q
      · have hvl : w = l := by
          rcases hw with h | h
          · exact absurd e (h.2 l hl0 (by omega))
          · exact nm_u g (by omega) ⟨h.1, h.2.1⟩ ⟨hl0, by omega⟩ (h.2.2.1.trans e.symm)
        have b8 := tF_b g hN (r := l) (q := v) (by omega) ⟨h0, hvr⟩
        obtain ⟨x1, x2, x3⟩ := fr_b hL (n := tF z.1 l v) (by omega)
        have hng := nu_neg (n := tF z.1 l v) (e := dF z.1)
        obtain ⟨n1, n2⟩ := nu_nu (n := -tF z.1 l v) (e := dF z.1) (by omega)
        rw [hng.1, hng.2] at n1 n2
        have h8 := (hL0.2.2 l v hl0 (by omega) h0 (by omega)).2
        rw [tQ_c g hvr] at h8
        rw [bq_p e, entry9 hL0 g ⟨hl0, by omega⟩ ⟨h0, by omega⟩, cv_s, tQ_c g hvr, gd_t (by omega), h8, becs ⟨by omega, by omega⟩ x2 (by omega), cl_s]
        refine ih f (l + 1) _ (by omega) (by omega) (by omega) (hQ0.tr Qs.fs) hL0.fs ?_
        rw [fs_o, fs_u, n1, n2, if_pos (show 0 ≤ w ∧ w < l + 1 by omega), if_pos (show 0 ≤ w ∧ w < l + 1 by omega), hvl, hng.1, hng.2]
        exact ⟨rfl, rfl⟩
      · have hvl : w ≠ l := by
          rcases hw with h | h
          · omega
          · intro y
            rw [y] at h
            exact e h.2.2.1
        rw [bq_n e]
        refine ih f (l + 1) _ (by omega) (by omega) (by omega) hQ0 hL0 ?_
        by_cases y : 0 ≤ w ∧ w < l
        · rw [if_pos y, if_pos y] at hI
          rw [if_pos (show 0 ≤ w ∧ w < l + 1 by omega), if_pos (show 0 ≤ w ∧ w < l + 1 by omega)]
          exact hI
        · rw [if_neg y, if_neg y] at hI
          rw [if_neg (show ¬ (0 ≤ w ∧ w < l + 1) by omega), if_neg (show ¬ (0 ≤ w ∧ w < l + 1) by omega)]
          exact hI
  unfold f_X9_along grF
  simp only [jn]
  rw [e1, cl_s, gd_t ⟨hq, by omega⟩]
  by_cases h : q = v
  · have hw1 : ¬ 0 ≤ w := by
      intro y
      rcases hw with x | x
      · omega
      · have := rF_named g (k := w) ⟨x.1, x.2.1⟩
        rw [x.2.2.1, h] at this
        omega
    have h1 := nu_1 (n := 1)
    have hone := nu_one (D := dF z.1) (by omega)
    rw [bq_p h, if_pos h, hone.1, hone.2, becs (by omega) (by omega) (by omega), cl_s]
    obtain ⟨c2, e2, hQ2, hx, hy⟩ := L 1 1 (z.1 1).toNat LF 0 _ (by omega) (by omega) (by rw [LF_g]; omega) (hQ.tr (Qs.fs (x := nu 1 1) (y := de 1 1))) hLd.fs (by rw [fs_o, fs_u, if_neg (show ¬ (0 ≤ w ∧ w < 0) by omega), if_neg (show ¬ (0 ≤ w ∧ w < 0) by omega)]; exact h1)
    rw [if_neg hw1] at hx hy
    exact ⟨c2, e2, hQ2, hx, hy⟩
  · have h1 := nu_1 (n := 0)
    have hz := nu_0 (D := dF z.1) (by omega)
    rw [bq_n h, if_neg h, becs (by omega) (by omega) (by omega), cl_s]
    obtain ⟨c2, e2, hQ2, hx, hy⟩ := L 0 1 (z.1 1).toNat LF 0 _ (by omega) (by omega) (by rw [LF_g]; omega) (hQ.tr (Qs.fs (x := nu 0 1) (y := de 0 1))) hLd.fs (by rw [fs_o, fs_u, if_neg (show ¬ (0 ≤ w ∧ w < 0) by omega), if_neg (show ¬ (0 ≤ w ∧ w < 0) by omega)]; exact h1)
    refine ⟨c2, e2, hQ2, hx.trans ?_, hy.trans ?_⟩
    · by_cases y : 0 ≤ w
      · rw [if_pos y, if_pos y]
      · rw [if_neg y, if_neg y, hz.1]
    · by_cases y : 0 ≤ w
      · rw [if_pos y, if_pos y]
      · rw [if_neg y, if_neg y, hz.2]
theorem c8_ray (hL : LI K z) {q v w : Int} (hq : R32 q) (hv : fstP (rayF z.1) (z.1 0 + z.1 1) v) (hw : fstP (fun r => z.1 (27 + r) = q) (z.1 1) w) : ((0 ≤ q ∧ q < z.1 0 + z.1 1) ∧ 0 ≤ v → ClX d z (f_X8_rayNumerator d q) 0 (nu (grF z.1 v q w) (dF z.1)) z ∧ ClX d z (f_X8_rayDenominator d q) 0 (de (grF z.1 v q w) (dF z.1)) z) ∧ (¬ (0 ≤ q ∧ q < z.1 0 + z.1 1) → ClX d z (f_X8_rayNumerator d q) 3 0 z ∧ ClX d z (f_X8_rayDenominator d q) 3 0 z) ∧ ((0 ≤ q ∧ q < z.1 0 + z.1 1) ∧ ¬ 0 ≤ v → ClX d z (f_X8_rayNumerator d q) 2 0 z ∧ ClX d z (f_X8_rayDenominator d q) 2 0 z) := by
  have g := hL.1.1; have hN := hL.1.2.1.1
  have g1 := g.2.1
  have hwr := fst_r g1.1 hw
  have bt : 0 ≤ v → -157464 ≤ grF z.1 v q w ∧ grF z.1 v q w ≤ 157464 := fun h => gr_b g hN ⟨h, by rcases hv with y | y <;> omega⟩ (by omega)
  refine ⟨fun h => ⟨ClX_v (fun c hC => ?_), ClX_v (fun c hC => ?_)⟩, fun h => ⟨ClX_v (fun c hC => ?_), ClX_v (fun c hC => ?_)⟩, fun h => ⟨ClX_v (fun c hC => ?_), ClX_v (fun c hC => ?_)⟩⟩
  · have b := bt h.2
    unfold f_X8_rayNumerator
    rw [(rqK8 hC.1.2.1 g hq _).1 h.1]
    try dsimp only
    rw [(rqY8 hL hv hC _).1 h.2]
    try dsimp only
    rw [grow8 hL hq hv h.2 hw hC, cv_s, (lw8 hL hC (by omega)).1, cv_s]
  · have b := bt h.2
    unfold f_X8_rayDenominator
    rw [(rqK8 hC.1.2.1 g hq _).1 h.1]
    try dsimp only
    rw [(rqY8 hL hv hC _).1 h.2]
    try dsimp only
    rw [grow8 hL hq hv h.2 hw hC, cv_s, (lw8 hL hC (by omega)).2, cv_s]
  · unfold f_X8_rayNumerator
    rw [(rqK8 hC.1.2.1 g hq _).2 h]
  · unfold f_X8_rayDenominator
    rw [(rqK8 hC.1.2.1 g hq _).2 h]
  · unfold f_X8_rayNumerator
    rw [(rqK8 hC.1.2.1 g hq _).1 h.1]
    try dsimp only
    rw [(rqY8 hL hv hC _).2 h.2]
  · unfold f_X8_rayDenominator
    rw [(rqK8 hC.1.2.1 g hq _).1 h.1]
    try dsimp only
    rw [(rqY8 hL hv hC _).2 h.2]
theorem eray9 (hL : LI K z) {q v : Int} (hq : R32 q) (hv : fstP (rayF z.1) (z.1 0 + z.1 1) v) {c : W0} (hF : c (m + 1) = z.1) : ∃ t c1, f_X9_errorOfRay m q c = some (t, c1) ∧ Qs m (P7 m) c c1 ∧ ((t = 0 ∧ (0 ≤ q ∧ q < z.1 0 + z.1 1) ∧ 0 ≤ v) ∨ (t = 1 ∧ ¬ (0 ≤ q ∧ q < z.1 0 + z.1 1)) ∨ (t = 2 ∧ (0 ≤ q ∧ q < z.1 0 + z.1 1) ∧ ¬ 0 ≤ v)) := by
  have g := hL.1.1
  have g0 := g.1; have g1 := g.2.1
  have hr : R32 v := by rcases hv with h | h <;> omega
  obtain ⟨x, ex, hx⟩ := isCol9 hF g hq
  unfold f_X9_errorOfRay
  rw [ex, cv_s]
  rcases hx with ⟨rfl, h⟩ | ⟨rfl, h⟩
  · obtain ⟨c1, e1, hQ, -⟩ := endl9 (m := m) hL hv hF
    rw [gd_t (by omega), bq_n (by omega), e1, cl_s, gd_t hr]
    by_cases h2 : 0 ≤ v
    · rw [bq_p h2]
      exact ⟨0, c1, rfl, hQ, Or.inl ⟨rfl, h, h2⟩⟩
    · rw [bq_n h2]
      exact ⟨2, c1, rfl, hQ, Or.inr (Or.inr ⟨rfl, h, h2⟩)⟩
  · rw [gd_t (by omega), bq_p rfl]
    exact ⟨1, c, rfl, Qs.rf, Or.inr (Or.inl ⟨rfl, h⟩)⟩
theorem m9_ray (hL : LI K z) {q v w : Int} (hq : R32 q) (hv : fstP (rayF z.1) (z.1 0 + z.1 1) v) (hw : fstP (fun r => z.1 (27 + r) = q) (z.1 1) w) : ((0 ≤ q ∧ q < z.1 0 + z.1 1) ∧ 0 ≤ v → Mo m z (f_X9_rayNumerator m q) 0 (nu (grF z.1 v q w) (dF z.1)) z ∧ Mo m z (f_X9_rayDenominator m q) 0 (de (grF z.1 v q w) (dF z.1)) z) ∧ (¬ (0 ≤ q ∧ q < z.1 0 + z.1 1) → Mo m z (f_X9_rayNumerator m q) 1 0 z ∧ Mo m z (f_X9_rayDenominator m q) 1 0 z) ∧ ((0 ≤ q ∧ q < z.1 0 + z.1 1) ∧ ¬ 0 ≤ v → Mo m z (f_X9_rayNumerator m q) 2 0 z ∧ Mo m z (f_X9_rayDenominator m q) 2 0 z) := by
  have bad : ∀ (t : Int), (t = 1 ∨ t = 2) → (∀ c, MI m z c → ∃ c1, f_X9_errorOfRay m q c = some (t, c1) ∧ Qs m (P7 m) c c1) → Mo m z (f_X9_rayNumerator m q) t 0 z ∧ Mo m z (f_X9_rayDenominator m q) t 0 z := by
    intro t ht h
    refine ⟨Mo_q (fun c hM => ?_), Mo_q (fun c hM => ?_)⟩ <;> obtain ⟨c1, e1, hQ⟩ := h c hM
    · unfold f_X9_rayNumerator
      rw [e1, cl_s, holds9 (by omega), cl_s, if_neg (by omega), gd_t (by omega), bq_p rfl]
      exact ⟨_, rfl, (Q0.q hQ (fun _ a => a)).tr Q0.t, tz_0⟩
    · unfold f_X9_rayDenominator
      rw [e1, cl_s, holds9 (by omega), cl_s, if_neg (by omega), gd_t (by omega), bq_p rfl]
      exact ⟨_, rfl, (Q0.q hQ (fun _ a => a)).tr Q0.t, tz_0⟩
  refine ⟨fun h => ⟨Mo_q (fun c hM => ?_), Mo_q (fun c hM => ?_)⟩, fun h => bad 1 (by omega) (fun c hM => ?_), fun h => bad 2 (by omega) (fun c hM => ?_)⟩ <;> obtain ⟨t, c1, e1, hQ, ht⟩ := eray9 (m := m) hL hq hv hM.1
  · obtain rfl : t = 0 := by omega
    have hF1 : c1 (m + 1) = z.1 := (hQ.1 _ (by omega) (by unfold P7; omega)).trans hM.1
    obtain ⟨c2, e2, hQ2, hx, hy⟩ := along9 (m := m) hL hq hv h.2 hw (upc c1 m (updZ (c1 m) 0 0)) ((tz_q (by omega)).trans hF1)
    unfold f_X9_rayNumerator
    rw [e1, cl_s, holds9 (by omega), cl_s, if_pos rfl, gd_t (by omega), bq_n (by omega), e2, cl_s, hx]
    exact ⟨_, rfl, ((Q0.q hQ (fun _ a => a)).tr Q0.t).tr (Q0.q hQ2 (fun _ a => a)), (hQ2.2 0 (by decide) (by decide)).trans tz_0⟩
  · obtain rfl : t = 0 := by omega
    have hF1 : c1 (m + 1) = z.1 := (hQ.1 _ (by omega) (by unfold P7; omega)).trans hM.1
    obtain ⟨c2, e2, hQ2, hx, hy⟩ := along9 (m := m) hL hq hv h.2 hw (upc c1 m (updZ (c1 m) 0 0)) ((tz_q (by omega)).trans hF1)
    unfold f_X9_rayDenominator
    rw [e1, cl_s, holds9 (by omega), cl_s, if_pos rfl, gd_t (by omega), bq_n (by omega), e2, cl_s, hy]
    exact ⟨_, rfl, ((Q0.q hQ (fun _ a => a)).tr Q0.t).tr (Q0.q hQ2 (fun _ a => a)), (hQ2.2 0 (by decide) (by decide)).trans tz_0⟩
  · obtain rfl : t = 1 := by omega
    exact ⟨c1, e1, hQ⟩
  · obtain rfl : t = 2 := by omega
    exact ⟨c1, e1, hQ⟩
/-! what comes next -/
theorem rqO8 (hL : LI K z) {c : W0} (hC : CI d z c) (κ : Int → W0 → Option (Int × Int × W0)) : (opn z.1 → (cx (f_X8_requireOpen d c) κ) = κ 0 c) ∧ (¬ opn z.1 → (cx (f_X8_requireOpen d c) κ) = some (2, 0, c)) := by
  obtain ⟨b, eb, hb⟩ := isOpen8 hC.1.2.1 hL.1.1 hL.1.2.1.1
  unfold f_X8_requireOpen
  rw [eb, cv_s]
  rcases hb with ⟨rfl, h⟩ | ⟨rfl, h⟩
  · rw [gd_t (by omega), bq_n (by omega), cx_s]
    exact ⟨fun _ => rfl, fun y => absurd h y⟩
  · rw [gd_t (by omega), bq_p rfl, cx_x (by decide)]
    exact ⟨fun y => absurd y h, fun _ => rfl⟩
theorem chs8 (hL : LI K z) {c : W0} (hC : CI d z c) (h : opn z.1) : f_X4_chosenColumn (d + 1) c = some (chV z.1) := by
  unfold f_X4_chosenColumn
  rw [hC.1.2.2.1, chosenColumn8 hC.1.2.1 hL.1.1 hL.1.2.1.1 hL.1.2.2.1 (opn_o hL.1.1 h), cv_s]
theorem c8_next (hL : LI K z) : (opn z.1 → ClX d z (f_X8_nextColumn d) 0 (chV z.1) z ∧ ClX d z (f_X8_nextRow d) 0 (lrV z.1 (chV z.1)) z) ∧ (¬ opn z.1 → ClX d z (f_X8_nextColumn d) 2 0 z ∧ ClX d z (f_X8_nextRow d) 2 0 z) := by
  refine ⟨fun h => ⟨ClX_v (fun c hC => ?_), ClX_v (fun c hC => ?_)⟩, fun h => ⟨ClX_v (fun c hC => ?_), ClX_v (fun c hC => ?_)⟩⟩
  · unfold f_X8_nextColumn
    rw [(rqO8 hL hC _).1 h]
    try dsimp only
    rw [chs8 hL hC h, cv_s]
  · have hc := chV_r hL.1.1 h.1
    unfold f_X8_nextRow
    rw [(rqO8 hL hC _).1 h]
    try dsimp only
    rw [chs8 hL hC h, cv_s, leastRow8 hC.1.2.1 hL.1.1 hL.1.2.1.1 ⟨hc.1, hc.2.1⟩, cv_s]
  · unfold f_X8_nextColumn
    rw [(rqO8 hL hC _).2 h]
  · unfold f_X8_nextRow
    rw [(rqO8 hL hC _).2 h]
theorem m9_next (hL : LI K z) : (opn z.1 → Mo m z (f_X9_nextColumn m) 0 (chV z.1) z ∧ Mo m z (f_X9_nextRow m) 0 (lrV z.1 (chV z.1)) z) ∧ (¬ opn z.1 → Mo m z (f_X9_nextColumn m) 1 0 z ∧ Mo m z (f_X9_nextRow m) 1 0 z) := by
  have g := hL.1.1
  have t0 : ∀ c1 : W0, Laid m z.1 c1 → Laid m z.1 (upc c1 m (updZ (c1 m) 0 0)) := fun c1 h => by
    unfold Laid
    rw [tz_q (show m + 1 ≠ m by omega), tz_q (show m + 8 ≠ m by omega), tz_q (show m + 6 ≠ m by omega), tz_q (show m + 7 ≠ m by omega)]
    exact h
  refine ⟨fun h => ⟨Mo_q (fun c hM => ?_), Mo_q (fun c hM => ?_)⟩, fun h => ⟨Mo_q (fun c hM => ?_), Mo_q (fun c hM => ?_)⟩⟩ <;> obtain ⟨b, c1, e1, hQ1, hL1, hb⟩ := isAtEnd9 (m := m) hL.1 hM.1
  · obtain rfl : b = 0 := by rcases hb with ⟨-, e⟩ | ⟨e, -⟩; (· exact absurd h e); exact e
    obtain ⟨x, y, e4⟩ := bestColumn9 (t0 c1 hL1) g hL.1.2.1 hL.1.2.2.1 (opn_o g h)
    unfold f_X9_nextColumn
    simp only [jn]
    rw [e1, cl_s, gd_t (by omega), bq_p rfl, holds9 (by omega), cl_s, if_pos rfl, gd_t (by omega), bq_n (by omega), e4, cl_s]
    exact ⟨_, rfl, ((Q0.q hQ1 (fun _ a => a)).tr Q0.t).tr Q0.f, (fs_i (by decide)).trans tz_0⟩
  · obtain rfl : b = 0 := by rcases hb with ⟨-, e⟩ | ⟨e, -⟩; (· exact absurd h e); exact e
    have hc := chV_r g h.1
    obtain ⟨x, y, e4⟩ := bestColumn9 (t0 c1 hL1) g hL.1.2.1 hL.1.2.2.1 (opn_o g h)
    unfold f_X9_nextRow
    simp only [jn]
    rw [e1, cl_s, gd_t (by omega), bq_p rfl, holds9 (by omega), cl_s, if_pos rfl, gd_t (by omega), bq_n (by omega), e4, cl_s, leastRow9 (t0 c1 hL1).fs g hL.1.2.1.1 hL.1.2.1.2.1 ⟨hc.1, hc.2.1⟩, cv_s]
    exact ⟨_, rfl, ((Q0.q hQ1 (fun _ a => a)).tr Q0.t).tr Q0.f, (fs_i (by decide)).trans tz_0⟩
  · obtain rfl : b = 1 := by rcases hb with ⟨e, -⟩ | ⟨-, e⟩; (· exact e); exact absurd e h
    unfold f_X9_nextColumn
    simp only [jn]
    rw [e1, cl_s, gd_t (by omega), bq_n (by omega), holds9 (by omega), cl_s, if_neg (by omega), gd_t (by omega), bq_p rfl]
    exact ⟨_, rfl, (Q0.q hQ1 (fun _ a => a)).tr Q0.t, tz_0⟩
  · obtain rfl : b = 1 := by rcases hb with ⟨e, -⟩ | ⟨-, e⟩; (· exact e); exact absurd e h
    unfold f_X9_nextRow
    simp only [jn]
    rw [e1, cl_s, gd_t (by omega), bq_n (by omega), holds9 (by omega), cl_s, if_neg (by omega), gd_t (by omega), bq_p rfl]
    exact ⟨_, rfl, (Q0.q hQ1 (fun _ a => a)).tr Q0.t, tz_0⟩
end RY
