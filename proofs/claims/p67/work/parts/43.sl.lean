section SL
variable {d m : Nat} {z : St} {K : Int}
theorem sl_b (hL : LI K z) {p q : Int} (hp : 0 ≤ p ∧ p < z.1 1) (hq : 0 ≤ q ∧ q ≤ 99) : (-63772920 ≤ rF (sbF z.1 p q) (sbF z.1 p q 0 + sbF z.1 p q 1) ∧ rF (sbF z.1 p q) (sbF z.1 p q 0 + sbF z.1 p q 1) ≤ 63772920) ∧ 0 < dF (sbF z.1 p q) ∧ dF (sbF z.1 p q) ≤ 157464 := by
  have hG := sb_g hL hp hq
  have g0 := hG.1.1; have g1 := hG.1.2.1
  exact ⟨rF_b9 hG.1 hG.2.1.1 (by omega), hG.2.1.2.1, (dF_b hG.1 hG.2.1.1).2⟩
theorem c8_solved (hL : LI K z) {p q : Int} (hp : R32 p) (hq : R32 q) : (¬ (0 ≤ p ∧ p < z.1 1) → ClX d z (f_X8_solvedNumerator d p q) 3 0 z ∧ ClX d z (f_X8_solvedDenominator d p q) 3 0 z) ∧ ((0 ≤ p ∧ p < z.1 1) ∧ ¬ (0 ≤ q ∧ q ≤ 99) → ClX d z (f_X8_solvedNumerator d p q) 1 0 z ∧ ClX d z (f_X8_solvedDenominator d p q) 1 0 z) ∧ (((0 ≤ p ∧ p < z.1 1) ∧ (0 ≤ q ∧ q ≤ 99)) ∧ ¬ bestF (sbF z.1 p q) → ClX d z (f_X8_solvedNumerator d p q) 2 0 z ∧ ClX d z (f_X8_solvedDenominator d p q) 2 0 z) ∧ (((0 ≤ p ∧ p < z.1 1) ∧ (0 ≤ q ∧ q ≤ 99)) ∧ bestF (sbF z.1 p q) → ClX d z (f_X8_solvedNumerator d p q) 0 (nu (-rF (sbF z.1 p q) (sbF z.1 p q 0 + sbF z.1 p q 1)) (dF (sbF z.1 p q))) z ∧ ClX d z (f_X8_solvedDenominator d p q) 0 (de (-rF (sbF z.1 p q) (sbF z.1 p q 0 + sbF z.1 p q 1)) (dF (sbF z.1 p q))) z) := by
  have g := hL.1.1
  have bad : ∀ e : Int, ¬ e = 0 → (∀ c, CI d z c → ∃ c', FrD d c c' ∧ CI d z c' ∧ f_X8_tryBound d p q c = some (e, 0, c')) → ClX d z (f_X8_solvedNumerator d p q) e 0 z ∧ ClX d z (f_X8_solvedDenominator d p q) e 0 z := by
    intro e he h
    refine ⟨fun c hC => ?_, fun c hC => ?_⟩ <;> obtain ⟨c1, hF, hC1, e1⟩ := h c hC
    · unfold f_X8_solvedNumerator
      rw [e1, cx_x he]
      exact ⟨c1, rfl, hF, hC1⟩
    · unfold f_X8_solvedDenominator
      rw [e1, cx_x he]
      exact ⟨c1, rfl, hF, hC1⟩
  refine ⟨fun h => bad 3 (by decide) (fun c hC => ⟨c, FrD.rf, hC, ?_⟩), fun h => bad 1 (by decide) (fun c hC => ⟨c, FrD.rf, hC, ?_⟩), fun h => bad 2 (by decide) (fun c hC => ?_), fun h => ?_⟩
  · unfold f_X8_tryBound
    rw [(rqC8 hC.1.1 g hp _).2 h]
  · unfold f_X8_tryBound
    rw [(rqC8 hC.1.1 g hp _).1 h.1]
    try dsimp only
    rcases reqB8 (c := c) hq with ⟨r, -⟩ | ⟨-, r⟩
    · exact absurd r h.2
    · rw [r, cx_x (by decide)]
  · obtain ⟨c1, hF, hC1, -, ht⟩ := try8 (d := d) hL h.1.1 h.1.2 hC
    rcases ht with ⟨b, -⟩ | ⟨-, ht⟩
    · exact absurd b h.2
    · exact ⟨c1, hF, hC1, ht⟩
  · obtain ⟨b1, b2, b3⟩ := sl_b hL h.1.1 h.1.2
    have hG := sb_g hL h.1.1 h.1.2
    refine ⟨fun c hC => ?_, fun c hC => ?_⟩ <;> obtain ⟨c1, hF, hC1, hS, ht⟩ := try8 (d := d) hL h.1.1 h.1.2 hC
    · have ht1 : f_X8_tryBound d p q c = some (0, 0, c1) := by
        rcases ht with ⟨-, x⟩ | ⟨x, -⟩
        · exact x
        · exact absurd h.2 x
      have hT : RepT (d + 14) (sbF z.1 p q) c1 := hS.2.1
      unfold f_X8_solvedNumerator
      rw [ht1, cx_s, worth8 hT hG.1, cv_s, hT.2.2.1, lowN (by omega) (by omega) (by omega), cv_s]
      exact ⟨c1, rfl, hF, hC1⟩
    · have ht1 : f_X8_tryBound d p q c = some (0, 0, c1) := by
        rcases ht with ⟨-, x⟩ | ⟨x, -⟩
        · exact x
        · exact absurd h.2 x
      have hT : RepT (d + 14) (sbF z.1 p q) c1 := hS.2.1
      unfold f_X8_solvedDenominator
      rw [ht1, cx_s, worth8 hT hG.1, cv_s, hT.2.2.1, lowD (by omega) (by omega) (by omega), cv_s]
      exact ⟨c1, rfl, hF, hC1⟩
theorem bg_o {F : Int → Int} {i : Int} (h : i < 0 ∨ 34 ≤ i) : bgF F i = F i := by
  unfold bgF
  rw [if_neg (by omega), if_neg (by omega)]
theorem esol9 (hL : LI K z) {p q : Int} (hp : 0 ≤ p ∧ p < z.1 1) (hq : 0 ≤ q ∧ q ≤ 99) {c : W0} (hM : MI m z c) : ∃ t c1, f_X9_errorOfSolved m p q c = some (t, c1) ∧ MI m z c1 ∧ FrM m c c1 ∧ c1 m 16 = nu (-rF (sbF z.1 p q) (sbF z.1 p q 0 + sbF z.1 p q 1)) (dF (sbF z.1 p q)) ∧ c1 m 17 = de (-rF (sbF z.1 p q) (sbF z.1 p q 0 + sbF z.1 p q 1)) (dF (sbF z.1 p q)) ∧ ((t = 0 ∧ bestF (sbF z.1 p q)) ∨ (t = 3 ∧ ¬ bestF (sbF z.1 p q))) := by
  have g := hL.1.1
  have g0 := g.1; have g1 := g.2.1
  obtain ⟨v, ev, hv⟩ := isC9 (k := p) hM.1 g (by omega)
  have hv1 : v = 1 := by omega
  obtain ⟨w, ew, hw⟩ := in9 (a := q) (b := 0) (c := 99) (by omega) (by omega) (by omega)
  have hw1 : w = 1 := by omega
  obtain ⟨c2, e2, hF2, h2⟩ := aside9 (m := m) (c := c)
  have k2 : c2 (m + 1) = z.1 := (hF2 _ (by omega)).trans hM.1
  have gF1 := up_g3 g (r := p) (v := q) ⟨hp.1, by omega⟩ hq
  obtain ⟨c3, e3, hF3, h3⟩ := begins9 (m := m) (F := updZ z.1 (22 + p) q) (c := upc c2 (m + 1) (updZ (c2 (m + 1)) (22 + p) q)) (by rw [upc_s, k2]) gF1.2.1
  obtain ⟨c4, e4, hQ4, hL4⟩ := solves9 (sb_g1 hL hp hq) h3
  have hG := sb_g hL hp hq
  obtain ⟨b, x, y, e5, hb⟩ := isBest9 hL4 hG.1 hG.2.1.1 hG.2.1.2.1
  have e6 := values9 (hL4.fs (x := x) (y := y)) hG.1 hG.2.1.1 hG.2.1.2.1
  rw [fs_fs] at e6
  generalize hc6 : fs c4 m (nu (-rF (slF 40 (bgF (updZ z.1 (22 + p) q))).2 ((slF 40 (bgF (updZ z.1 (22 + p) q))).2 0 + (slF 40 (bgF (updZ z.1 (22 + p) q))).2 1)) (dF (slF 40 (bgF (updZ z.1 (22 + p) q))).2)) (de (-rF (slF 40 (bgF (updZ z.1 (22 + p) q))).2 ((slF 40 (bgF (updZ z.1 (22 + p) q))).2 0 + (slF 40 (bgF (updZ z.1 (22 + p) q))).2 1)) (dF (slF 40 (bgF (updZ z.1 (22 + p) q))).2)) = c6 at *
  have q6 : ∀ y, y ≠ m → c6 y = c4 y := fun y hy => by rw [← hc6]; exact fs_n hy
  have i6 : ∀ i, i ≠ 16 → i ≠ 17 → c6 m i = c4 m i := fun i a b => by rw [← hc6]; exact fs_i ⟨a, b⟩
  have o6 : c6 m 16 = nu (-rF (sbF z.1 p q) (sbF z.1 p q 0 + sbF z.1 p q 1)) (dF (sbF z.1 p q)) := by rw [← hc6]; exact fs_o
  have u6 : c6 m 17 = de (-rF (sbF z.1 p q) (sbF z.1 p q 0 + sbF z.1 p q 1)) (dF (sbF z.1 p q)) := by rw [← hc6]; exact fs_u
  obtain ⟨c7, e7, hF7, h7⟩ := back9 (m := m) (c := c6)
  have h71 : c7 (m + 1) = z.1 := by
    rw [h7, q6 _ (by omega), q6 _ (by omega), hL4.1]
    funext i
    unfold ov34
    by_cases h : 0 ≤ i ∧ i < 34
    · rw [if_pos h, hQ4.1 (m + 2) (by omega) (by unfold P8 P7; omega), hF3 _ (by omega), upc_n (by omega), h2 i h.1 h.2, hM.1]
    · rw [if_neg h, slF_o 40 (sb_g1 hL hp hq) i (by omega), bg_o (by omega), updZ_n (by omega)]
  obtain ⟨a, b2⟩ := bk9 (c5 := c7) hM h71 (fun q x y w => by
    unfold P8 at y
    rw [hF7 q (by omega), q6 q x, hQ4.1 q x (by unfold P8; omega), hF3 q (by omega), upc_n (by omega), hF2 q (by omega)]) (fun i x y w => by rw [hF7 m (by omega), i6 i y w, hQ4.2 i y w, hF3 m (by omega), upc_n (by omega), hF2 m (by omega)])
  unfold f_X9_errorOfSolved
  simp only [jn, sto]
  rw [ev, cv_s, gd_t (by omega), bq_n (by omega), ew, cv_s, gd_t (by omega), bq_n (by omega), e2, cl_s, gd_t (by omega), e3, cl_s, e4, cl_s, e5, cl_s, e6, cl_s, e7, cl_s]
  rcases hb with ⟨rfl, h⟩ | ⟨rfl, h⟩
  · rw [gd_t (by omega), bq_n (by omega)]
    exact ⟨0, c7, rfl, a, b2, by rw [hF7 m (by omega)]; exact o6, by rw [hF7 m (by omega)]; exact u6, Or.inl ⟨rfl, h⟩⟩
  · rw [gd_t (by omega), bq_p rfl]
    exact ⟨3, c7, rfl, a, b2, by rw [hF7 m (by omega)]; exact o6, by rw [hF7 m (by omega)]; exact u6, Or.inr ⟨rfl, h⟩⟩
theorem m9_solved (hL : LI K z) {p q : Int} (hp : R32 p) (hq : R32 q) : (¬ (0 ≤ p ∧ p < z.1 1) → Mo m z (f_X9_solvedNumerator m p q) 1 0 z ∧ Mo m z (f_X9_solvedDenominator m p q) 1 0 z) ∧ ((0 ≤ p ∧ p < z.1 1) ∧ ¬ (0 ≤ q ∧ q ≤ 99) → Mo m z (f_X9_solvedNumerator m p q) 2 0 z ∧ Mo m z (f_X9_solvedDenominator m p q) 2 0 z) ∧ (((0 ≤ p ∧ p < z.1 1) ∧ (0 ≤ q ∧ q ≤ 99)) ∧ ¬ bestF (sbF z.1 p q) → Mo m z (f_X9_solvedNumerator m p q) 3 0 z ∧ Mo m z (f_X9_solvedDenominator m p q) 3 0 z) ∧ (((0 ≤ p ∧ p < z.1 1) ∧ (0 ≤ q ∧ q ≤ 99)) ∧ bestF (sbF z.1 p q) → Mo m z (f_X9_solvedNumerator m p q) 0 (nu (-rF (sbF z.1 p q) (sbF z.1 p q 0 + sbF z.1 p q 1)) (dF (sbF z.1 p q))) z ∧ Mo m z (f_X9_solvedDenominator m p q) 0 (de (-rF (sbF z.1 p q) (sbF z.1 p q 0 + sbF z.1 p q 1)) (dF (sbF z.1 p q))) z) := by
  have g := hL.1.1
  have bad : ∀ t : Int, (1 ≤ t ∧ t ≤ 3) → (∀ c, MI m z c → ∃ c', f_X9_errorOfSolved m p q c = some (t, c') ∧ MI m z c' ∧ FrM m c c') → Mo m z (f_X9_solvedNumerator m p q) t 0 z ∧ Mo m z (f_X9_solvedDenominator m p q) t 0 z := by
    intro t ht h
    refine ⟨fun c hM => ?_, fun c hM => ?_⟩ <;> obtain ⟨c1, e1, hM1, hF1⟩ := h c hM
    · unfold f_X9_solvedNumerator
      rw [e1, cl_s, holds9 (by omega), cl_s, if_neg (by omega), gd_t (by omega), bq_p rfl]
      exact ⟨_, rfl, hF1.tr FrM_t, MI_t hM1, tz_0⟩
    · unfold f_X9_solvedDenominator
      rw [e1, cl_s, holds9 (by omega), cl_s, if_neg (by omega), gd_t (by omega), bq_p rfl]
      exact ⟨_, rfl, hF1.tr FrM_t, MI_t hM1, tz_0⟩
  refine ⟨fun h => bad 1 (by omega) (fun c hM => ⟨c, ?_, hM, FrM.rf⟩), fun h => bad 2 (by omega) (fun c hM => ⟨c, ?_, hM, FrM.rf⟩), fun h => bad 3 (by omega) (fun c hM => ?_), fun h => ?_⟩
  · obtain ⟨v, ev, hv⟩ := isC9 (k := p) hM.1 g hp
    have hv0 : v = 0 := by omega
    unfold f_X9_errorOfSolved
    simp only [jn]
    rw [ev, cv_s, gd_t (by omega), bq_p hv0, cv_s, gd_t (by omega), bq_p hv0]
  · obtain ⟨v, ev, hv⟩ := isC9 (k := p) hM.1 g hp
    have hv1 : v = 1 := by omega
    obtain ⟨w, ew, hw⟩ := in9 (a := q) (b := 0) (c := 99) hq (by omega) (by omega)
    have hw0 : w = 0 := by omega
    unfold f_X9_errorOfSolved
    simp only [jn]
    rw [ev, cv_s, gd_t (by omega), bq_n (by omega), ew, cv_s, gd_t (by omega), bq_p hw0, cv_s, gd_t (by omega), bq_n (by omega)]
  · obtain ⟨t, c1, e1, hM1, hF1, -, -, ht⟩ := esol9 (m := m) hL h.1.1 h.1.2 hM
    have ht3 : t = 3 := by
      rcases ht with ⟨-, x⟩ | ⟨x, -⟩
      · exact absurd x h.2
      · exact x
    rw [ht3] at e1
    exact ⟨c1, e1, hM1, hF1⟩
  · refine ⟨fun c hM => ?_, fun c hM => ?_⟩ <;> obtain ⟨t, c1, e1, hM1, hF1, hx, hy, ht⟩ := esol9 (m := m) hL h.1.1 h.1.2 hM
    · have ht0 : t = 0 := by
        rcases ht with ⟨x, -⟩ | ⟨-, x⟩
        · exact x
        · exact absurd h.2 x
      unfold f_X9_solvedNumerator
      rw [e1, cl_s, holds9 (by omega), cl_s, if_pos ht0, gd_t (by omega), bq_n (by omega), upc_s, updZ_n (by decide), hx, ht0]
      exact ⟨_, rfl, hF1.tr FrM_t, MI_t hM1, tz_0⟩
    · have ht0 : t = 0 := by
        rcases ht with ⟨x, -⟩ | ⟨-, x⟩
        · exact x
        · exact absurd h.2 x
      unfold f_X9_solvedDenominator
      rw [e1, cl_s, holds9 (by omega), cl_s, if_pos ht0, gd_t (by omega), bq_n (by omega), upc_s, updZ_n (by decide), hy, ht0]
      exact ⟨_, rfl, hF1.tr FrM_t, MI_t hM1, tz_0⟩
end SL
