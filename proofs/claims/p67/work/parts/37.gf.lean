section GF
variable {d m : Nat} {z : St} {K : Int}
/-! what stands against a pivot -/
def obS (F : Int → Int) (r q : Int) : Prop := ∃ k, 0 ≤ k ∧ k < F 1 ∧ 0 < tF F k q ∧ ordF F q k r < 0
noncomputable def obF (F : Int → Int) (r q : Int) : Int := pick (nmd F q) 1 (pick (0 < rF F q) (pick (0 < tF F r q) (pick (obS F r q) 4 0) 3) 2)
theorem obF_r {F : Int → Int} {r q : Int} : 0 ≤ obF F r q ∧ obF F r q ≤ 4 := by
  unfold obF pick
  (repeat' split) <;> omega
theorem obF_0 {F : Int → Int} {r q : Int} (hP : Plc F r q) (h : obF F r q = 0) : PvOK F r q := by
  unfold obF at h
  by_cases h1 : nmd F q
  · rw [pick_t h1] at h; omega
  rw [pick_f h1] at h
  by_cases h2 : 0 < rF F q
  · rw [pick_t h2] at h
    by_cases h3 : 0 < tF F r q
    · rw [pick_t h3] at h
      by_cases h4 : obS F r q
      · rw [pick_t h4] at h; omega
      · refine ⟨hP.1, hP.2, h2, h3, fun k a b e => ?_⟩
        have h5 : ¬ ordF F q k r < 0 := fun y => h4 ⟨k, a, b, e, y⟩
        unfold ordF at h5
        omega
    · rw [pick_f h3] at h; omega
  · rw [pick_f h2] at h; omega
theorem ob_min {F : Int → Int} (g : GdP F) {r q : Int} (hr : 0 ≤ r ∧ r < F 1) (ht : 0 < tF F r q) : (0 ≤ lrV F q ∧ lrV F q < F 1) ∧ (obS F r q ↔ ¬ tF F r (F 0 + F 1) * tF F (lrV F q) q ≤ tF F (lrV F q) (F 0 + F 1) * tF F r q) := by
  have hl : 0 ≤ lrV F q ∧ lrV F q < F 1 ∧ 0 < tF F (lrV F q) q := by
    rcases lrV_r g q with e | e
    · exact absurd ht ((lrV_n g q).mp (by omega) r hr.1 hr.2)
    · exact e
  refine ⟨⟨hl.1, hl.2.1⟩, fun ⟨k, a, b, e, h⟩ h2 => ?_, fun h => ⟨lrV F q, hl.1, hl.2.1, hl.2.2, by unfold ordF; omega⟩⟩
  have h1 := lrV_min g hl.1 ⟨a, b⟩ e
  have h3 := hl.2.2
  unfold ordF at h
  generalize tF F (lrV F q) q = bL at *
  generalize tF F (lrV F q) (F 0 + F 1) = aL at *
  generalize tF F k q = bk at *
  generalize tF F k (F 0 + F 1) = ak at *
  generalize tF F r q = br at *
  generalize tF F r (F 0 + F 1) = ar at *
  have h4 : ak * br < ar * bk := by omega
  have k1 := Int.mul_le_mul_of_nonneg_right h1 (show 0 ≤ br by omega)
  have k2 := Int.mul_lt_mul_of_pos_right h4 h3
  have k3 := Int.mul_le_mul_of_nonneg_right h2 (show 0 ≤ bk by omega)
  have e1 : aL * bk * br = aL * br * bk := by ac_rfl
  have e2 : ak * bL * br = ak * br * bL := by ac_rfl
  have e3 : ar * bk * bL = ar * bL * bk := by ac_rfl
  omega
theorem obst8 {t : Nat} {F : Int → Int} {c : W0} (hT : RepT t F c) (g : GdP F) (hN : GdN F) {r q : Int} (hP : Plc F r q) : f_X6_obstacle t r q c = some (obF F r q) := by
  obtain ⟨hr, hq⟩ := hP
  have g0 := g.1; have g1 := g.2.1
  obtain ⟨v, ev, hv⟩ := rowNaming8 hT g hN (z := q) (by omega)
  have br := rF_b g hN hq
  have bt := tF_b g hN (r := r) (q := q) (by omega) hq
  unfold f_X6_obstacle obF
  rw [ev, cv_s]
  rcases fst_nmd hv with ⟨h1, h2, h3⟩ | ⟨h1, h2, h3, h4⟩
  · rw [gd_t (by omega), bq_p h1, reduced8 hT g hq, cv_s, gd_t (by omega), pick_f h3]
    by_cases k1 : 0 < rF F q
    · rw [bq_p k1, entry8 hT g hr hq, cv_s, gd_t (by omega), pick_t k1]
      by_cases k2 : 0 < tF F r q
      · obtain ⟨hl, ho⟩ := ob_min g hr k2
        have b1 := tF_b9 g hN (r := lrV F q) (q := F 0 + F 1) (by omega) (by omega)
        have b2 := tF_b9 g hN (r := r) (q := F 0 + F 1) (by omega) (by omega)
        have b3 := tF_b g hN (r := lrV F q) (q := q) (by omega) hq
        have m1 := mbd b1 bt
        have m2 := mbd b2 b3
        rw [bq_p k2, leastRow8 hT g hN hq, cv_s, side8 hT g hl, cv_s, cv_s, side8 hT g hr, cv_s, entry8 hT g hl hq, cv_s, gd_t (by omega), pick_t k2]
        by_cases k3 : tF F r (F 0 + F 1) * tF F (lrV F q) q ≤ tF F (lrV F q) (F 0 + F 1) * tF F r q
        · rw [bq_p k3, pick_f (fun e => ho.mp e k3)]
        · rw [bq_n k3, pick_t (ho.mpr k3)]
      · rw [bq_n k2, pick_f k2]
    · rw [bq_n k1, pick_f k1]
  · rw [gd_t (by omega), bq_n (by omega), pick_t h4]
theorem hind9 (hL : LI K z) {c : W0} (hF : c (m + 1) = z.1) {r q : Int} (hP : Plc z.1 r q) : ∃ c1, f_X9_hindrance m r q c = some (obF z.1 r q, c1) ∧ Qs m (P7 m) c c1 ∧ Laid m z.1 c1 := by
  obtain ⟨hr, hq⟩ := hP
  have g := hL.1.1; have hN := hL.1.2.1.1; have hd := hL.1.2.1.2.1
  have g0 := g.1; have g1 := g.2.1
  obtain ⟨c1, e1, hQ, hLd⟩ := lays9 hL hF
  obtain ⟨b, eb, hb⟩ := isIn9 (m := m) hLd.1 g hN (q := q) (by omega)
  unfold f_X9_hindrance obF
  simp only [jn]
  rw [e1, cl_s, eb, cv_s]
  rcases hb with ⟨rfl, h1⟩ | ⟨rfl, h1⟩
  · rw [gd_t (by omega), bq_n (by omega), cv_s, gd_t (by omega), bq_n (by omega), pick_t h1]
    exact ⟨c1, rfl, hQ, hLd⟩
  · rw [gd_t (by omega), bq_p rfl, rising9 hLd g hN hd hq, cl_s, pick_f h1]
    have hL2 := hLd.fs (x := nu (rF z.1 q) (dF z.1)) (y := de (rF z.1 q) (dF z.1))
    have hQ2 := hQ.tr (Qs.fs (P := P7 m) (c := c1) (x := nu (rF z.1 q) (dF z.1)) (y := de (rF z.1 q) (dF z.1)))
    by_cases k1 : 0 < rF z.1 q
    · rw [if_pos k1, gd_t (by omega), bq_n (by omega), entry9 hL2 g hr (by omega), cv_s, tQ_c g hq.2, pick_t k1]
      have bt := tF_b g hN (r := r) (q := q) (by omega) hq
      have hn := nu_n (n := tF z.1 r q) (d := dF z.1)
      have hs := (nu_s (n := tF z.1 r q) hd).1
      rw [gd_t (by omega)]
      by_cases k2 : 0 < tF z.1 r q
      · rw [bq_p (hs.mpr k2), pick_t k2]
        generalize fs c1 m (nu (rF z.1 q) (dF z.1)) (de (rF z.1 q) (dF z.1)) = c8 at *
        have L : ∀ (k fuel : Nat) (v l : Int), l + k = z.1 1 → 0 ≤ l → k + 1 ≤ fuel → ((v = 1 ∧ obS z.1 r q) ∨ (v = 0 ∧ ∀ x, 0 ≤ x → x < l → ¬ (0 < tF z.1 x q ∧ ordF z.1 q x r < 0))) → f_X9_hindrance_52 m r q c8 (fun v10 => gd (R32 v10) <| bq (v10 = 0) (some (0, c8)) (some (4, c8))) fuel v l = some (pick (obS z.1 r q) 4 0, c8) := by
          intro k
          induction k with
          | zero =>
            intro fuel v l hl h0 hf hv
            obtain ⟨f, rfl⟩ : ∃ f, fuel = f + 1 := ⟨fuel - 1, by omega⟩
            rw [f_X9_hindrance_52_s]
            unfold b_X9_hindrance_52
            rw [hL2.1, gd_t (by omega), bq_p (by omega)]
            rcases hv with ⟨rfl, h⟩ | ⟨rfl, h⟩
            · try dsimp only
              rw [gd_t (by omega), bq_n (by omega), pick_t h]
            · try dsimp only
              rw [gd_t (by omega), bq_p rfl, pick_f (fun ⟨x, a, b, e⟩ => h x a (by omega) e)]
          | succ k ih =>
            intro fuel v l hl h0 hf hv
            obtain ⟨f, rfl⟩ : ∃ f, fuel = f + 1 := ⟨fuel - 1, by omega⟩
            rw [f_X9_hindrance_52_s]
            unfold b_X9_hindrance_52
            simp only [jn]
            rw [hL2.1, gd_t (by omega), bq_n (by omega)]
            rcases hv with ⟨rfl, h⟩ | ⟨rfl, h⟩
            · rw [gd_t (by omega), bq_n (by omega)]
              exact ih f 1 (l + 1) (by omega) (by omega) (by omega) (Or.inl ⟨rfl, h⟩)
            · have btl := tF_b g hN (r := l) (q := q) (by omega) hq
              have hnl := nu_n (n := tF z.1 l q) (d := dF z.1)
              have hsl := (nu_s (n := tF z.1 l q) hd).1
              have keep : ¬ (0 < tF z.1 l q ∧ ordF z.1 q l r < 0) → f_X9_hindrance_52 m r q c8 (fun v10 => gd (R32 v10) <| bq (v10 = 0) (some (0, c8)) (some (4, c8))) f 0 (l + 1) = some (pick (obS z.1 r q) 4 0, c8) := fun y => ih f 0 (l + 1) (by omega) (by omega) (by omega) (Or.inr ⟨rfl, fun x a b => by
                by_cases e2 : x = l
                · rw [e2]; exact y
                · exact h x a (by omega)⟩)
              rw [gd_t (by omega), bq_p rfl, entry9 hL2 g ⟨h0, by omega⟩ (by omega), cv_s, tQ_c g hq.2, gd_t (by omega)]
              by_cases kl : 0 < tF z.1 l q
              · obtain ⟨a, ea, ha, ha1, -⟩ := against9 hL2 g hN hd hq (r := l) (f := r) ⟨h0, by omega⟩ hr kl k2
                rw [bq_n (by have := hsl.mpr kl; omega), ea, cv_s, gd_t ha]
                by_cases ka : a < 0
                · rw [bq_n (by omega)]
                  exact ih f 1 (l + 1) (by omega) (by omega) (by omega) (Or.inl ⟨rfl, l, h0, by omega, kl, ha1.mp ka⟩)
                · rw [bq_p (by omega)]
                  exact keep (fun y => ka (ha1.mpr y.2))
              · rw [bq_p (Int.not_lt.mp (fun y => kl (hsl.mp y)))]
                exact keep (fun y => kl y.1)
        rw [L (z.1 1).toNat LF 0 0 (by omega) (by omega) (by rw [LF_g]; omega) (Or.inr ⟨rfl, fun x a b => by omega⟩)]
        exact ⟨c8, rfl, hQ2, hL2⟩
      · rw [bq_n (fun y => k2 (hs.mp y)), pick_f k2]
        exact ⟨_, rfl, hQ2, hL2⟩
    · rw [if_neg k1, gd_t (by omega), bq_p rfl]
      obtain ⟨b3, eb3, hb3⟩ := isIn9 (m := m) hL2.1 g hN (q := q) (by omega)
      have : b3 = 0 := by
        rcases hb3 with ⟨-, y⟩ | ⟨y, -⟩
        · exact absurd y h1
        · exact y
      rw [eb3, cv_s, gd_t (by omega), bq_p this, pick_f k1]
      exact ⟨_, rfl, hQ2, hL2⟩
theorem c8_pivot (hL : LI K z) {p q : Int} (hp : R32 p) (hq : R32 q) : (Plc z.1 p q ∧ obF z.1 p q = 0 → ClX d z (f_X8_pivot d p q) 0 (z.1 (27 + p)) (psh z (pvW z.1 p q))) ∧ (¬ Plc z.1 p q → ClX d z (f_X8_pivot d p q) 3 0 z) ∧ (Plc z.1 p q ∧ ¬ obF z.1 p q = 0 → ClX d z (f_X8_pivot d p q) 2 0 z) := by
  have g := hL.1.1; have hN := hL.1.2.1.1
  have hob := obF_r (F := z.1) (r := p) (q := q)
  refine ⟨fun h c hC => ?_, fun h => ClX_v (fun c hC => ?_), fun h => ClX_v (fun c hC => ?_)⟩
  · obtain ⟨c3, c4, e3, hR, e4, hF, hC4⟩ := sv8 (F1 := pvW z.1 p q) hC (f_X4_turn (d + 1) p q) 0 (fun c3 hR => turnS8 hR hL.1 (obF_0 h.1 h.2))
    unfold f_X8_pivot
    rw [(rqP8 hC.1.2.1 g hp hq _).1 h.1]
    try dsimp only
    rw [obst8 hC.1.2.1 g hN h.1, cv_s, gd_t (by omega), bq_p h.2, e3, cl_s, namedBy8 hR.2.1 g h.1.1, cv_s, e4, cl_s]
    exact ⟨c4, rfl, hF, hC4⟩
  · unfold f_X8_pivot
    rw [(rqP8 hC.1.2.1 g hp hq _).2 h]
  · unfold f_X8_pivot
    rw [(rqP8 hC.1.2.1 g hp hq _).1 h.1]
    try dsimp only
    rw [obst8 hC.1.2.1 g hN h.1, cv_s, gd_t (by omega), bq_n h.2]
theorem m9_pivot (hL : LI K z) {p q : Int} (hp : R32 p) (hq : R32 q) : (Plc z.1 p q ∧ obF z.1 p q = 0 → Mo m z (f_X9_pivot m p q) 0 (z.1 (27 + p)) (psh z (pvW z.1 p q))) ∧ (¬ Plc z.1 p q → Mo m z (f_X9_pivot m p q) 1 0 z) ∧ (Plc z.1 p q ∧ ¬ obF z.1 p q = 0 → Mo m z (f_X9_pivot m p q) 2 0 z) := by
  have g := hL.1.1; have hN := hL.1.2.1.1
  have g1 := g.2.1
  have hob := obF_r (F := z.1) (r := p) (q := q)
  refine ⟨fun h c hM => ?_, fun h => Mo_q (fun c hM => ?_), fun h => Mo_q (fun c hM => ?_)⟩
  · obtain ⟨v, ev, hv⟩ := isPlace9 hM.1 g hp hq
    have hp1 := h.1.1
    have hv1 : v = 1 := by
      rcases hv with e | e
      · exact e.1
      · exact absurd h.1 e.2
    obtain ⟨c1, e1, hQ1, hL1⟩ := hind9 (m := m) hL hM.1 h.1
    obtain ⟨hM1, hF1⟩ := MI_q0 hM (Q0.q hQ1 (fun _ a => a))
    have hM0 := MI_t (t := 0) hM1
    obtain ⟨c3, e3, k3, hi3, ho3⟩ := sv9_e hM0 hL.2.1
    have hL3 : Laid m z.1 c3 := by
      unfold Laid
      rw [ho3 (m + 8) (by omega) (by omega), ho3 (m + 6) (by omega) (by omega), ho3 (m + 7) (by omega) (by omega), upc_n (show m + 8 ≠ m by omega), upc_n (show m + 6 ≠ m by omega), upc_n (show m + 7 ≠ m by omega)]
      exact ⟨k3, hL1.2⟩
    obtain ⟨c5, e5, hQ, hL5⟩ := turns9 hL3 hL.1 (obF_0 h.1 h.2)
    unfold f_X9_pivot
    simp only [jn]
    rw [ev, cv_s, gd_t (by omega), bq_n (by omega), e1, cl_s, gd_t (by omega), bq_p h.2, holds9 (by omega), cl_s, if_pos rfl, gd_t (by omega), bq_n (by omega), e3, cl_s, gd_t (by omega), e5, cl_s, k3]
    obtain ⟨a, b⟩ := sv9 (F1 := pvW z.1 p q) (c5 := c5) hM0 hL.2.1 e3 hL5.1 (hQ.1 _ (by omega) (by unfold P8 P7; omega)) (hQ.1 _ (by omega) (by unfold P8 P7; omega)) (hQ.1 _ (by omega) (by unfold P8 P7; omega)) (hQ.2 4 (by decide) (by decide)) (hQ.2 6 (by decide) (by decide)) (hQ.2 8 (by decide) (by decide)) (fun q hq => hQ.1 q (by omega) (by unfold P8 P7; omega))
    exact ⟨c5, rfl, (hF1.tr FrM_t).tr a, b, by rw [hQ.2 0 (by decide) (by decide), hi3 0 (by decide), upc_s, updZ_s]⟩
  · obtain ⟨v, ev, hv⟩ := isPlace9 hM.1 g hp hq
    have hv1 : v = 0 := by
      rcases hv with e | e
      · exact absurd e.2 h
      · exact e.1
    unfold f_X9_pivot
    simp only [jn]
    rw [ev, cv_s, gd_t (by omega), bq_p hv1, holds9 (by omega), cl_s, if_neg (by omega), gd_t (by omega), bq_p rfl]
    exact ⟨_, rfl, Q0.t, tz_0⟩
  · obtain ⟨v, ev, hv⟩ := isPlace9 hM.1 g hp hq
    have hv1 : v = 1 := by
      rcases hv with e | e
      · exact e.1
      · exact absurd h.1 e.2
    obtain ⟨c1, e1, hQ1, hL1⟩ := hind9 (m := m) hL hM.1 h.1
    unfold f_X9_pivot
    simp only [jn]
    rw [ev, cv_s, gd_t (by omega), bq_n (by omega), e1, cl_s, gd_t (by omega), bq_n h.2, holds9 (by omega), cl_s, if_neg (by omega), gd_t (by omega), bq_p rfl]
    exact ⟨_, rfl, (Q0.q hQ1 (fun _ a => a)).tr Q0.t, tz_0⟩
theorem c8_whyNoPivot (hL : LI K z) {p q : Int} (hp : R32 p) (hq : R32 q) : (Plc z.1 p q → ClX d z (f_X8_whyNoPivot d p q) 0 (obF z.1 p q) z) ∧ (¬ Plc z.1 p q → ClX d z (f_X8_whyNoPivot d p q) 3 0 z) := by
  have g := hL.1.1; have hN := hL.1.2.1.1
  refine ⟨fun h => ClX_v (fun c hC => ?_), fun h => ClX_v (fun c hC => ?_)⟩
  · unfold f_X8_whyNoPivot
    rw [(rqP8 hC.1.2.1 g hp hq _).1 h]
    try dsimp only
    rw [obst8 hC.1.2.1 g hN h, cv_s]
  · unfold f_X8_whyNoPivot
    rw [(rqP8 hC.1.2.1 g hp hq _).2 h]
theorem m9_whyNoPivot (hL : LI K z) {p q : Int} (hp : R32 p) (hq : R32 q) : (Plc z.1 p q → Mo m z (f_X9_whyNoPivot m p q) 0 (obF z.1 p q) z) ∧ (¬ Plc z.1 p q → Mo m z (f_X9_whyNoPivot m p q) 1 0 z) := by
  have g := hL.1.1
  refine ⟨fun h => Mo_s (fun c hM => ?_), fun h => Mo_s (fun c hM => ?_)⟩ <;> obtain ⟨v, ev, hv⟩ := isPlace9 hM.1 g hp hq <;> unfold f_X9_whyNoPivot <;> rw [ev, cv_s]
  · rw [(tst9 hv _).1 h]
    try dsimp only
    obtain ⟨c1, e1, hQ, -⟩ := hind9 (m := m) (c := upc c m (updZ (c m) 0 0)) hL ((tz_q (by omega)).trans hM.1) h
    rw [gd_t (by omega), bq_n (by omega), e1, cl_s]
    exact ⟨_, rfl, hQ⟩
  · rw [(tst9 hv _).2 h]
    try dsimp only
    rw [gd_t (by omega), bq_p rfl]
    exact ⟨_, rfl, Qs.rf⟩
/-! fractions -/
theorem nu_nu {n e : Int} (he : e ≠ 0) : nu (nu n e) (de n e) = nu n e ∧ de (nu n e) (de n e) = de n e := by
  obtain ⟨h1, h2, -⟩ := nu_e (n := n) he
  have h := nu_u (n := n) (d := e) (n' := nu n e) (d' := de n e) he (by omega) h1.symm
  exact ⟨h.1.symm, h.2.symm⟩
/-- the class's answer, once the fraction is known -/
theorem lw8 (hL : LI K z) {c : W0} (hC : CI d z c) {n : Int} (hn : -100000000000 ≤ n ∧ n ≤ 100000000000) : f_X8_lowNumerator n (c (d + 5) 2) = some (nu n (dF z.1)) ∧ f_X8_lowDenominator n (c (d + 5) 2) = some (de n (dF z.1)) := by
  have b := dF_b hL.1.1 hL.1.2.1.1
  have hd := hL.1.2.1.2.1
  have e : c (d + 5) 2 = dF z.1 := hC.1.2.1.2.2.1
  rw [e]
  exact ⟨lowN (by omega) (by omega) (by omega), lowD (by omega) (by omega) (by omega)⟩
/-- the reference's: a fraction is held, and both its parts are told -/
def Hlds (m : Nat) (z : St) (f : W0 → Option (Int × W0)) (n e : Int) : Prop := ∀ c, c (m + 1) = z.1 → ∃ c1, f c = some (0, c1) ∧ Qs m (P7 m) c c1 ∧ c1 m 16 = n ∧ c1 m 17 = e
theorem fr_b (hL : LI K z) {n : Int} (hn : -100000000000 ≤ n ∧ n ≤ 100000000000) : B62 (nu n (dF z.1)) ∧ B62 (de n (dF z.1)) ∧ 0 < de n (dF z.1) := by
  have b := dF_b hL.1.1 hL.1.2.1.1
  have hd := hL.1.2.1.2.1
  have h1 := nu_n (n := n) (d := dF z.1)
  have h2 := de_n (n := n) (d := dF z.1)
  have h3 := (nu_e (n := n) (d := dF z.1) (by omega)).2.1
  refine ⟨⟨by omega, by omega⟩, ⟨by omega, by omega⟩, h3⟩
theorem entryOf9 (hL : LI K z) {p q : Int} (h : Plc z.1 p q) : Hlds m z (f_X9_entryOf m p q) (nu (tF z.1 p q) (dF z.1)) (de (tF z.1 p q) (dF z.1)) := by
  intro c hF
  obtain ⟨hr, hq⟩ := h
  have g := hL.1.1; have hN := hL.1.2.1.1; have hd := hL.1.2.1.2.1
  have g0 := g.1; have g1 := g.2.1
  obtain ⟨c1, e1, hQ, hLd⟩ := lays9 hL hF
  have hx := hLd.2.2 p q hr.1 hr.2 hq.1 (by omega)
  have bt := tF_b g hN (r := p) (q := q) (by omega) hq
  obtain ⟨b1, b2, b3⟩ := fr_b hL (n := tF z.1 p q) (by omega)
  obtain ⟨n1, n2⟩ := nu_nu (n := tF z.1 p q) (e := dF z.1) (by omega)
  rw [tQ_c g hq.2] at hx
  unfold f_X9_entryOf
  rw [e1, cl_s, gd_t (by omega), gd_t (by omega), hx.1, hx.2, becs b1 b2 (by omega), cl_s]
  refine ⟨_, rfl, hQ.tr Qs.fs, ?_, ?_⟩
  · rw [fs_o, n1]
  · rw [fs_u, n2]
theorem reducedOf9 (hL : LI K z) {q : Int} (hq : 0 ≤ q ∧ q < z.1 0 + z.1 1) : Hlds m z (f_X9_reducedOf m q) (nu (rF z.1 q) (dF z.1)) (de (rF z.1 q) (dF z.1)) := by
  intro c hF
  have g := hL.1.1; have hN := hL.1.2.1.1; have hd := hL.1.2.1.2.1
  obtain ⟨c1, e1, hQ, hLd⟩ := lays9 hL hF
  unfold f_X9_reducedOf
  rw [e1, cl_s, reduces9 hLd g hN hd hq, cl_s]
  exact ⟨_, rfl, hQ.tr Qs.fs, fs_o, fs_u⟩
theorem valueNow9 (hL : LI K z) : Hlds m z (f_X9_valueNow m) (nu (-rF z.1 (z.1 0 + z.1 1)) (dF z.1)) (de (-rF z.1 (z.1 0 + z.1 1)) (dF z.1)) := by
  intro c hF
  have g := hL.1.1; have hN := hL.1.2.1.1; have hd := hL.1.2.1.2.1
  obtain ⟨c1, e1, hQ, hLd⟩ := lays9 hL hF
  unfold f_X9_valueNow
  rw [e1, cl_s, values9 hLd g hN hd, cl_s]
  exact ⟨_, rfl, hQ.tr Qs.fs, fs_o, fs_u⟩
theorem c8_entry (hL : LI K z) {p q : Int} (hp : R32 p) (hq : R32 q) : (Plc z.1 p q → ClX d z (f_X8_entryNumerator d p q) 0 (nu (tF z.1 p q) (dF z.1)) z ∧ ClX d z (f_X8_entryDenominator d p q) 0 (de (tF z.1 p q) (dF z.1)) z) ∧ (¬ Plc z.1 p q → ClX d z (f_X8_entryNumerator d p q) 3 0 z ∧ ClX d z (f_X8_entryDenominator d p q) 3 0 z) := by
  have g := hL.1.1; have hN := hL.1.2.1.1
  have g1 := g.2.1
  refine ⟨fun h => ⟨ClX_v (fun c hC => ?_), ClX_v (fun c hC => ?_)⟩, fun h => ⟨ClX_v (fun c hC => ?_), ClX_v (fun c hC => ?_)⟩⟩
  · have bt := tF_b g hN (r := p) (q := q) (by have := h.1; omega) h.2
    unfold f_X8_entryNumerator
    rw [(rqP8 hC.1.2.1 g hp hq _).1 h]
    try dsimp only
    rw [entry8 hC.1.2.1 g h.1 h.2, cv_s, (lw8 hL hC (by omega)).1, cv_s]
  · have bt := tF_b g hN (r := p) (q := q) (by have := h.1; omega) h.2
    unfold f_X8_entryDenominator
    rw [(rqP8 hC.1.2.1 g hp hq _).1 h]
    try dsimp only
    rw [entry8 hC.1.2.1 g h.1 h.2, cv_s, (lw8 hL hC (by omega)).2, cv_s]
  · unfold f_X8_entryNumerator
    rw [(rqP8 hC.1.2.1 g hp hq _).2 h]
  · unfold f_X8_entryDenominator
    rw [(rqP8 hC.1.2.1 g hp hq _).2 h]
theorem m9_entry (hL : LI K z) {p q : Int} (hp : R32 p) (hq : R32 q) : (Plc z.1 p q → Mo m z (f_X9_entryNumerator m p q) 0 (nu (tF z.1 p q) (dF z.1)) z ∧ Mo m z (f_X9_entryDenominator m p q) 0 (de (tF z.1 p q) (dF z.1)) z) ∧ (¬ Plc z.1 p q → Mo m z (f_X9_entryNumerator m p q) 1 0 z ∧ Mo m z (f_X9_entryDenominator m p q) 1 0 z) := by
  have g := hL.1.1
  refine ⟨fun h => ⟨Mo_s (fun c hM => ?_), Mo_s (fun c hM => ?_)⟩, fun h => ⟨Mo_s (fun c hM => ?_), Mo_s (fun c hM => ?_)⟩⟩ <;> obtain ⟨v, ev, hv⟩ := isPlace9 hM.1 g hp hq
  · unfold f_X9_entryNumerator
    rw [ev, cv_s, (tst9 hv _).1 h]
    try dsimp only
    obtain ⟨c1, e1, hQ, hx, hy⟩ := entryOf9 (m := m) hL h (upc c m (updZ (c m) 0 0)) ((tz_q (by omega)).trans hM.1)
    rw [gd_t (by omega), bq_n (by omega), e1, cl_s, hx]
    exact ⟨_, rfl, hQ⟩
  · unfold f_X9_entryDenominator
    rw [ev, cv_s, (tst9 hv _).1 h]
    try dsimp only
    obtain ⟨c1, e1, hQ, hx, hy⟩ := entryOf9 (m := m) hL h (upc c m (updZ (c m) 0 0)) ((tz_q (by omega)).trans hM.1)
    rw [gd_t (by omega), bq_n (by omega), e1, cl_s, hy]
    exact ⟨_, rfl, hQ⟩
  · unfold f_X9_entryNumerator
    rw [ev, cv_s, (tst9 hv _).2 h]
    try dsimp only
    rw [gd_t (by omega), bq_p rfl]
    exact ⟨_, rfl, Qs.rf⟩
  · unfold f_X9_entryDenominator
    rw [ev, cv_s, (tst9 hv _).2 h]
    try dsimp only
    rw [gd_t (by omega), bq_p rfl]
    exact ⟨_, rfl, Qs.rf⟩
theorem c8_reduced (hL : LI K z) {q : Int} (hq : R32 q) : ((0 ≤ q ∧ q < z.1 0 + z.1 1) → ClX d z (f_X8_reducedNumerator d q) 0 (nu (rF z.1 q) (dF z.1)) z ∧ ClX d z (f_X8_reducedDenominator d q) 0 (de (rF z.1 q) (dF z.1)) z) ∧ (¬ (0 ≤ q ∧ q < z.1 0 + z.1 1) → ClX d z (f_X8_reducedNumerator d q) 3 0 z ∧ ClX d z (f_X8_reducedDenominator d q) 3 0 z) := by
  have g := hL.1.1; have hN := hL.1.2.1.1
  refine ⟨fun h => ⟨ClX_v (fun c hC => ?_), ClX_v (fun c hC => ?_)⟩, fun h => ⟨ClX_v (fun c hC => ?_), ClX_v (fun c hC => ?_)⟩⟩
  · have bt := rF_b g hN h
    unfold f_X8_reducedNumerator
    rw [(rqK8 hC.1.2.1 g hq _).1 h]
    try dsimp only
    rw [reduced8 hC.1.2.1 g h, cv_s, (lw8 hL hC (by omega)).1, cv_s]
  · have bt := rF_b g hN h
    unfold f_X8_reducedDenominator
    rw [(rqK8 hC.1.2.1 g hq _).1 h]
    try dsimp only
    rw [reduced8 hC.1.2.1 g h, cv_s, (lw8 hL hC (by omega)).2, cv_s]
  · unfold f_X8_reducedNumerator
    rw [(rqK8 hC.1.2.1 g hq _).2 h]
  · unfold f_X8_reducedDenominator
    rw [(rqK8 hC.1.2.1 g hq _).2 h]
theorem m9_reduced (hL : LI K z) {q : Int} (hq : R32 q) : ((0 ≤ q ∧ q < z.1 0 + z.1 1) → Mo m z (f_X9_reducedNumerator m q) 0 (nu (rF z.1 q) (dF z.1)) z ∧ Mo m z (f_X9_reducedDenominator m q) 0 (de (rF z.1 q) (dF z.1)) z) ∧ (¬ (0 ≤ q ∧ q < z.1 0 + z.1 1) → Mo m z (f_X9_reducedNumerator m q) 1 0 z ∧ Mo m z (f_X9_reducedDenominator m q) 1 0 z) := by
  have g := hL.1.1
  refine ⟨fun h => ⟨Mo_s (fun c hM => ?_), Mo_s (fun c hM => ?_)⟩, fun h => ⟨Mo_s (fun c hM => ?_), Mo_s (fun c hM => ?_)⟩⟩ <;> obtain ⟨v, ev, hv⟩ := isCol9 hM.1 g hq
  · unfold f_X9_reducedNumerator
    rw [ev, cv_s, (tst9 hv _).1 h]
    try dsimp only
    obtain ⟨c1, e1, hQ, hx, hy⟩ := reducedOf9 (m := m) hL h (upc c m (updZ (c m) 0 0)) ((tz_q (by omega)).trans hM.1)
    rw [gd_t (by omega), bq_n (by omega), e1, cl_s, hx]
    exact ⟨_, rfl, hQ⟩
  · unfold f_X9_reducedDenominator
    rw [ev, cv_s, (tst9 hv _).1 h]
    try dsimp only
    obtain ⟨c1, e1, hQ, hx, hy⟩ := reducedOf9 (m := m) hL h (upc c m (updZ (c m) 0 0)) ((tz_q (by omega)).trans hM.1)
    rw [gd_t (by omega), bq_n (by omega), e1, cl_s, hy]
    exact ⟨_, rfl, hQ⟩
  · unfold f_X9_reducedNumerator
    rw [ev, cv_s, (tst9 hv _).2 h]
    try dsimp only
    rw [gd_t (by omega), bq_p rfl]
    exact ⟨_, rfl, Qs.rf⟩
  · unfold f_X9_reducedDenominator
    rw [ev, cv_s, (tst9 hv _).2 h]
    try dsimp only
    rw [gd_t (by omega), bq_p rfl]
    exact ⟨_, rfl, Qs.rf⟩
theorem c8_value (hL : LI K z) {c : W0} (hC : CI d z c) : f_X8_valueNumerator d c = some (nu (-rF z.1 (z.1 0 + z.1 1)) (dF z.1)) ∧ f_X8_valueDenominator d c = some (de (-rF z.1 (z.1 0 + z.1 1)) (dF z.1)) := by
  have g := hL.1.1; have hN := hL.1.2.1.1
  have g0 := g.1; have g1 := g.2.1
  have bt := rF_b9 g hN (q := z.1 0 + z.1 1) (by omega)
  have h := lw8 hL hC (n := -rF z.1 (z.1 0 + z.1 1)) (by omega)
  unfold f_X8_valueNumerator f_X8_valueDenominator
  rw [worth8 hC.1.2.1 g, cv_s, h.1, cv_s, cv_s, h.2, cv_s]
  exact ⟨rfl, rfl⟩
theorem m9_value (hL : LI K z) : Mo m z (f_X9_valueNumerator m) 0 (nu (-rF z.1 (z.1 0 + z.1 1)) (dF z.1)) z ∧ Mo m z (f_X9_valueDenominator m) 0 (de (-rF z.1 (z.1 0 + z.1 1)) (dF z.1)) z := by
  refine ⟨Mo_s (fun c hM => ?_), Mo_s (fun c hM => ?_)⟩ <;> obtain ⟨c1, e1, hQ, hx, hy⟩ := valueNow9 (m := m) hL (upc c m (updZ (c m) 0 0)) ((tz_q (by omega)).trans hM.1)
  · unfold f_X9_valueNumerator
    simp only [sto]
    rw [e1, cl_s, hx]
    exact ⟨_, rfl, hQ⟩
  · unfold f_X9_valueDenominator
    simp only [sto]
    rw [e1, cl_s, hy]
    exact ⟨_, rfl, hQ⟩
end GF
