section PE
variable {d m : Nat} {z : St} {K : Int}
/-! the same problem and basis -/
def Sm (F F' : Int → Int) : Prop := (∀ i, i < 26 → F' i = F i) ∧ ∀ r, 0 ≤ r → r < F 1 → F' (27 + r) = F (27 + r)
section
variable {F F' : Int → Int}
theorem bF_sm (h : Sm F F') (g : GdP F) : bF F' = bF F := by
  funext i r
  simp only [bF]
  rw [h.1 1 (by omega)]
  by_cases h1 : 0 ≤ r ∧ r < F 1
  · rw [if_pos h1, if_pos h1, h.2 r h1.1 h1.2, aF_e g.2.1.2 g.1.2 h.1]
  · rw [if_neg h1, if_neg h1]
theorem dF_sm (h : Sm F F') (g : GdP F) : dF F' = dF F := by unfold dF; rw [bF_sm h g]
theorem tF_sm (h : Sm F F') (g : GdP F) (r q : Int) : tF F' r q = tF F r q := by unfold tF; rw [bF_sm h g, aF_e g.2.1.2 g.1.2 h.1]
theorem rF_sm (h : Sm F F') (g : GdP F) (q : Int) : rF F' q = rF F q := by
  unfold rF vF
  rw [dF_sm h g, cF_e g.1.2 h.1]
  congr 1
  refine s4_c fun r hr => ?_
  show (if r < F' 1 then cF F' (F' (27 + r)) * tF F' r q else 0) = if r < F 1 then cF F (F (27 + r)) * tF F r q else 0
  rw [h.1 1 (by omega)]
  by_cases h1 : r < F 1
  · rw [if_pos h1, if_pos h1, h.2 r hr.1 h1, tF_sm h g, cF_e g.1.2 h.1]
  · rw [if_neg h1, if_neg h1]
theorem RepT_sm {t : Nat} {c : W0} (h : Sm F F') (g : GdP F) (hT : RepT t F c) : RepT t F' c := by
  obtain ⟨t0, t1, t2, t3, t4, t5⟩ := hT
  have e0 := h.1 0 (by omega); have e1 := h.1 1 (by omega)
  refine ⟨by rw [e1]; exact t0, by rw [e0, e1]; exact t1, by rw [dF_sm h g]; exact t2, fun r a b => ?_, fun r q a b a2 b2 => ?_, fun q a b => ?_⟩
  · rw [e1] at b
    rw [h.2 r a b]; exact t3 r a b
  · rw [e1] at b
    rw [e0, e1] at b2
    rw [tF_sm h g]; exact t4 r q a b a2 b2
  · rw [e0, e1] at b
    rw [e1, rF_sm h g]; exact t5 q a b
end
theorem c8_setRule (hL : LI K z) {p : Int} (hp : R32 p) : ((0 ≤ p ∧ p ≤ 2) → ClX d z (f_X8_setRule d p) 0 (z.1 26) (psh z (updZ z.1 26 p))) ∧ (¬ (0 ≤ p ∧ p ≤ 2) → ClX d z (f_X8_setRule d p) 1 0 z) := by
  refine ⟨fun h c hC => ?_, fun h => ClX_t (fun c hC => ?_)⟩
  · obtain ⟨h1, h2, h3, h4, h5⟩ := hC
    have g := hL.1.1
    have g1 := g.2.1
    obtain ⟨c3, e3, hF3, hi3, hS3⟩ := save8 h1 h2
    have hR3 : RepS (d + 1) z.1 c3 := RepS_fr h1 (fun q a b => hF3 q (by unfold SD; omega))
    unfold f_X8_setRule
    simp only [jn, sto]
    rw [gd_t hp, bq_n (by omega), gd_t hp, bq_p h.2, e3, cl_s, hR3.2.2.1]
    have hsm : Sm z.1 (updZ z.1 26 p) := ⟨fun i hi => updZ_n (by omega), fun r a b => updZ_n (by omega)⟩
    refine ⟨_, rfl, fun q hq => by rw [upc_n (by omega)]; exact hF3 q (by unfold SD; omega), ⟨RepP_e g (RepP_c hR3.1 (upc_n (by omega)) (upc_n (by omega))) hsm.1, RepT_sm hsm g (RepT_c hR3.2.1 (upc_n (by omega)) (upc_n (by omega)) (upc_n (by omega))), ?_, ?_, ?_, ?_⟩, SvC_fr hS3 (by rw [upc_n (by omega)]) (upc_n (by omega)) (fun q a b => upc_n (by omega)), ⟨?_, fun hz => ?_⟩, ?_, fun k a b => ?_⟩
    · rw [upc_s, updZ_s]
      show p = updZ z.1 26 p 26
      exact updZ_s.symm
    · rw [upc_s, updZ_n (by decide), hR3.2.2.2.1]
      show z.1 31 = updZ z.1 26 p 31; exact (updZ_n (by decide)).symm
    · rw [upc_s, updZ_n (by decide), hR3.2.2.2.2.1]
      show z.1 32 = updZ z.1 26 p 32; exact (updZ_n (by decide)).symm
    · rw [upc_s, updZ_n (by decide), hR3.2.2.2.2.2]
      show z.1 33 = updZ z.1 26 p 33; exact (updZ_n (by decide)).symm
    · rw [upc_n (by omega), hi3 9 (by decide)]; exact h3.1
    · exact RepS_fr (h3.2 hz) (fun q a b => by rw [upc_n (by omega)]; exact hF3 q (by unfold SD; omega))
    · rw [upc_n (by omega), hF3 _ (by unfold SD; omega)]; exact h4
    · rw [upc_n (by omega), hF3 _ (by unfold SD; omega)]; exact h5 k a b
  · unfold f_X8_setRule
    simp only [jn]
    rw [gd_t hp]
    by_cases h1 : p < 0
    · rw [bq_p h1]
    · rw [bq_n h1, gd_t hp, bq_n (by omega)]
/-- the reference saves, and the numbers change -/
theorem sv9 {F1 : Int → Int} {c c3 c5 : W0} (hM : MI m z c) (hn : 0 ≤ z.2.1 ∧ z.2.1 ≤ 6) (e3 : f_X9_save m c = some (0, c3)) (h51 : c5 (m + 1) = F1) (h53 : c5 (m + 3) = c3 (m + 3)) (h54 : c5 (m + 4) = c3 (m + 4)) (h55 : c5 (m + 5) = c3 (m + 5)) (i4 : c5 m 4 = c3 m 4) (i6 : c5 m 6 = c3 m 6) (i8 : c5 m 8 = c3 m 8) (hF : ∀ q, q < m ∨ m + 15 ≤ q → c5 q = c3 q) : FrM m c c5 ∧ MI m (psh z F1) c5 := by
  obtain ⟨h1, h2, h3, h5, h6⟩ := hM
  obtain ⟨c3', e3', hF3, hi3, hS3⟩ := save9 (F := z.1) h1 h2 hn
  rw [e3] at e3'
  cases e3'
  refine ⟨fun q hq => (hF q hq).trans (hF3 q (by omega)), h51, ⟨by rw [i4]; exact hS3.1, fun k i a b a2 b2 => by rw [h53]; exact hS3.2 k i a b a2 b2⟩, ⟨by rw [i6, hi3 6 (by decide)]; exact h3.1, fun hz i a b => by rw [h54, hF3 _ (by omega)]; exact h3.2 hz i a b⟩, by rw [i8, hi3 8 (by decide)]; exact h5, fun k a b => by rw [h55, hF3 _ (by omega)]; exact h6 k a b⟩
theorem sv9_e {c : W0} (hM : MI m z c) (hn : 0 ≤ z.2.1 ∧ z.2.1 ≤ 6) : ∃ c3, f_X9_save m c = some (0, c3) ∧ c3 (m + 1) = z.1 ∧ (∀ i, i ≠ 4 → c3 m i = c m i) ∧ ∀ q, q ≠ m → q ≠ m + 3 → c3 q = c q := by
  obtain ⟨c3, e3, hF3, hi3, hS3⟩ := save9 (F := z.1) hM.1 hM.2.1 hn
  exact ⟨c3, e3, (hF3 _ (by omega)).trans hM.1, hi3, fun q a b => hF3 q (by omega)⟩
theorem m9_setRule (hL : LI K z) {p : Int} (hp : R32 p) : ((0 ≤ p ∧ p ≤ 2) → Mo m z (f_X9_setRule m p) 0 (z.1 26) (psh z (updZ z.1 26 p))) ∧ (¬ (0 ≤ p ∧ p ≤ 2) → Mo m z (f_X9_setRule m p) 1 0 z) := by
  obtain ⟨u, eu, hu⟩ := in9 (a := p) (b := 0) (c := 2) hp (by omega) (by omega)
  refine ⟨fun h c hM => ?_, fun h => Mo_t (fun c hM => ?_)⟩
  · obtain rfl : u = 1 := by omega
    have hM0 := MI_t (t := 0) hM
    obtain ⟨c3, e3, k3, hi3, -⟩ := sv9_e hM0 hL.2.1
    unfold f_X9_setRule
    simp only [jn, sto]
    rw [eu, cv_s, gd_t (by omega), bq_n (by omega), holds9 (by omega), cl_s, if_pos rfl, gd_t (by omega), bq_n (by omega), e3, cl_s, k3]
    obtain ⟨a, b⟩ := sv9 (F1 := updZ z.1 26 p) (c5 := upc c3 (m + 1) (updZ z.1 26 p)) hM0 hL.2.1 e3 upc_s (upc_n (by omega)) (upc_n (by omega)) (upc_n (by omega)) (by rw [upc_n (by omega)]) (by rw [upc_n (by omega)]) (by rw [upc_n (by omega)]) (fun q hq => upc_n (by omega))
    exact ⟨_, rfl, FrM_t.tr a, b, by rw [upc_n (by omega), hi3 0 (by decide), upc_s, updZ_s]⟩
  · obtain rfl : u = 0 := by omega
    unfold f_X9_setRule
    simp only [jn]
    rw [eu, cv_s, gd_t (by omega), bq_p rfl, holds9 (by omega), cl_s, if_neg (by omega), gd_t (by omega), bq_p rfl]
/-- the class saves, and its state changes -/
theorem sv8 {F1 : Int → Int} {c : W0} (hC : CI d z c) (f : W0 → Option (Int × W0)) (v : Int) (hf : ∀ c3, RepS (d + 1) z.1 c3 → ∃ c4, f c3 = some (v, c4) ∧ Fr (SS9 (d + 1)) c3 c4 ∧ RepS (d + 1) F1 c4) :
    ∃ c3 c4, f_X8_saveState d c = some (0, c3) ∧ RepS (d + 1) z.1 c3 ∧ f c3 = some (v, c4) ∧ FrD d c c4 ∧ CI d (psh z F1) c4 := by
  obtain ⟨h1, h2, h3, h4, h5⟩ := hC
  obtain ⟨c3, e3, hF3, hi3, hS3⟩ := save8 h1 h2
  have hR3 : RepS (d + 1) z.1 c3 := RepS_fr h1 (fun q a b => hF3 q (by unfold SD; omega))
  obtain ⟨c4, e4, hF4, hR4⟩ := hf c3 hR3
  refine ⟨c3, c4, e3, hR3, e4, fun q hq => (hF4 q (by unfold SS9; omega)).trans (hF3 q (by unfold SD; omega)), hR4, SvC_fr hS3 (by rw [hF4 d (by unfold SS9; omega)]) (hF4 _ (by unfold SS9; omega)) (fun q a b => hF4 q (by unfold SS9; omega)), ⟨?_, fun hz => ?_⟩, ?_, fun k a b => ?_⟩
  · rw [hF4 d (by unfold SS9; omega), hi3 9 (by decide)]; exact h3.1
  · exact RepS_fr (h3.2 hz) (fun q a b => (hF4 q (by unfold SS9; omega)).trans (hF3 q (by unfold SD; omega)))
  · rw [hF4 _ (by unfold SS9; omega), hF3 _ (by unfold SD; omega)]; exact h4
  · rw [hF4 _ (by unfold SS9; omega), hF3 _ (by unfold SD; omega)]; exact h5 k a b
theorem c8_solve (hL : LI K z) : ClI d z (f_X8_solve d) (slF 40 z.1).1 (psh z (slF 40 z.1).2) := by
  intro c hC
  obtain ⟨c3, c4, e3, -, e4, hF, hC4⟩ := sv8 (F1 := (slF 40 z.1).2) hC (f_X4_run (d + 1)) (slF 40 z.1).1 (fun c3 hR => run8 hL.1 hR)
  unfold f_X8_solve
  rw [e3, cl_s, e4, cl_s]
  exact ⟨c4, rfl, hF, hC4⟩
theorem m9_solve (hL : LI K z) : Mo m z (f_X9_solve m) 0 (slF 40 z.1).1 (psh z (slF 40 z.1).2) := by
  intro c hM
  have hM0 := MI_t (t := 0) hM
  obtain ⟨c3, e3, k3, hi3, -⟩ := sv9_e hM0 hL.2.1
  obtain ⟨c5, e5, hQ, hLd⟩ := solves9 hL.1 k3
  unfold f_X9_solve
  simp only [sto]
  rw [e3, cl_s, e5, cl_s]
  obtain ⟨a, b⟩ := sv9 (F1 := (slF 40 z.1).2) (c5 := c5) hM0 hL.2.1 e3 hLd.1 (hQ.1 _ (by omega) (by unfold P8 P7; omega)) (hQ.1 _ (by omega) (by unfold P8 P7; omega)) (hQ.1 _ (by omega) (by unfold P8 P7; omega)) (hQ.2 4 (by decide) (by decide)) (hQ.2 6 (by decide) (by decide)) (hQ.2 8 (by decide) (by decide)) (fun q hq => hQ.1 q (by omega) (by unfold P8 P7; omega))
  exact ⟨c5, rfl, FrM_t.tr a, b, by rw [hQ.2 0 (by decide) (by decide), hi3 0 (by decide), upc_s, updZ_s]⟩
/-! step -/
theorem c8_step (hL : LI K z) : (opn z.1 → ClX d z (f_X8_step d) 0 (chV z.1) (psh z (stp z.1))) ∧ (¬ opn z.1 → ClX d z (f_X8_step d) 2 0 z) := by
  have g := hL.1.1; have hN := hL.1.2.1.1
  refine ⟨fun h c hC => ?_, fun h => ClX_t (fun c hC => ?_)⟩
  · obtain ⟨b, eb, hb⟩ := isOpen8 hC.1.2.1 g hN
    obtain rfl : b = 1 := by rcases hb with ⟨e, -⟩ | ⟨-, e⟩; (· exact e); exact absurd h e
    obtain ⟨c3, c4, e3, hR, e4, hF, hC4⟩ := sv8 (F1 := stp z.1) hC (f_X4_turn (d + 1) (lrV z.1 (chV z.1)) (chV z.1)) 0 (fun c3 hR => turnS8 hR hL.1 (opn_pv g h))
    have hc := chV_r g h.1
    have e5 : f_X4_chosenColumn (d + 1) c3 = some (chV z.1) := by
      unfold f_X4_chosenColumn
      rw [hR.2.2.1, chosenColumn8 hR.2.1 g hN hL.1.2.2.1 (opn_o g h), cv_s]
    unfold f_X8_step f_X8_requireOpen
    rw [eb, cv_s, gd_t (by omega), bq_n (by omega), cx_s, e3, cl_s, e5, cv_s, leastRow8 hR.2.1 g hN ⟨hc.1, hc.2.1⟩, cv_s, e4, cl_s]
    exact ⟨c4, rfl, hF, hC4⟩
  · obtain ⟨b, eb, hb⟩ := isOpen8 hC.1.2.1 g hN
    obtain rfl : b = 0 := by rcases hb with ⟨-, e⟩ | ⟨e, -⟩; (· exact absurd e h); exact e
    unfold f_X8_step f_X8_requireOpen
    rw [eb, cv_s, gd_t (by omega), bq_p rfl, cx_x (by decide)]
theorem isAtEnd9 {F : Int → Int} {c : W0} (h : Good K F) (hF : c (m + 1) = F) : ∃ b c1, f_X9_isAtEnd m c = some (b, c1) ∧ Qs m (P7 m) c c1 ∧ Laid m F c1 ∧ ((b = 1 ∧ ¬ opn F) ∨ (b = 0 ∧ opn F)) := by
  obtain ⟨c1, e1, hQ1, hL1⟩ := laysNow_s h.1 h.2.1.1 (by have := h.2.1.2.1; omega) hF
  obtain ⟨b, x, y, e2, hb⟩ := isOver9 hL1 h
  unfold f_X9_isAtEnd
  rw [e1, cl_s, e2, cl_s, gd_t (by omega)]
  exact ⟨b, _, rfl, hQ1.tr Qs.fs, hL1.fs, hb⟩
theorem m9_step (hL : LI K z) : (opn z.1 → Mo m z (f_X9_step m) 0 (chV z.1) (psh z (stp z.1))) ∧ (¬ opn z.1 → Mo m z (f_X9_step m) 1 0 z) := by
  have g := hL.1.1; have hN := hL.1.2.1.1; have hd := hL.1.2.1.2.1
  have sc : ∀ c c1, MI m z c → Qs m (P7 m) c c1 → MI m z c1 ∧ FrM m c c1 := fun c c1 hM hQ => ⟨MI_sc hM (hQ.1 _ (by omega) (by unfold P7; omega)) (hQ.1 _ (by omega) (by unfold P7; omega)) (hQ.1 _ (by omega) (by unfold P7; omega)) (hQ.1 _ (by omega) (by unfold P7; omega)) (hQ.2 4 (by decide) (by decide)) (hQ.2 6 (by decide) (by decide)) (hQ.2 8 (by decide) (by decide)), fun q hq => hQ.1 q (by omega) (by unfold P7; omega)⟩
  refine ⟨fun h c hM => ?_, fun h c hM => ?_⟩
  · obtain ⟨b, c1, e1, hQ1, hL1, hb⟩ := isAtEnd9 hL.1 hM.1
    obtain rfl : b = 0 := by rcases hb with ⟨-, e⟩ | ⟨e, -⟩; (· exact absurd h e); exact e
    obtain ⟨hM1, hF1⟩ := sc c c1 hM hQ1
    have hM0 := MI_t (t := 0) hM1
    obtain ⟨c3, e3, k3, hi3, ho3⟩ := sv9_e hM0 hL.2.1
    have hL3 : Laid m z.1 c3 := by
      unfold Laid
      rw [ho3 (m + 8) (by omega) (by omega), ho3 (m + 6) (by omega) (by omega), ho3 (m + 7) (by omega) (by omega), upc_n (show m + 8 ≠ m by omega), upc_n (show m + 6 ≠ m by omega), upc_n (show m + 7 ≠ m by omega)]
      exact ⟨k3, hL1.2⟩
    have hc := chV_r g h.1
    obtain ⟨x, y, e4⟩ := bestColumn9 hL3 g hL.1.2.1 hL.1.2.2.1 (opn_o g h)
    obtain ⟨c5, e5, hQ5, hL5⟩ := turns9 (hL3.fs (x := x) (y := y)) hL.1 (opn_pv g h)
    have hQ := (Qs.fs (P := P8 m) (c := c3) (x := x) (y := y)).tr hQ5
    unfold f_X9_step
    simp only [jn]
    rw [e1, cl_s, gd_t (by omega), bq_p rfl, holds9 (by omega), cl_s, if_pos rfl, gd_t (by omega), bq_n (by omega), e3, cl_s, e4, cl_s, leastRow9 hL3.fs g hN hd ⟨hc.1, hc.2.1⟩, cv_s, e5, cl_s]
    obtain ⟨a, b⟩ := sv9 (F1 := stp z.1) (c5 := c5) hM0 hL.2.1 e3 hL5.1 (hQ.1 _ (by omega) (by unfold P8 P7; omega)) (hQ.1 _ (by omega) (by unfold P8 P7; omega)) (hQ.1 _ (by omega) (by unfold P8 P7; omega)) (hQ.2 4 (by decide) (by decide)) (hQ.2 6 (by decide) (by decide)) (hQ.2 8 (by decide) (by decide)) (fun q hq => hQ.1 q (by omega) (by unfold P8 P7; omega))
    exact ⟨c5, rfl, (hF1.tr FrM_t).tr a, b, by rw [hQ.2 0 (by decide) (by decide), hi3 0 (by decide), upc_s, updZ_s]⟩
  · obtain ⟨b, c1, e1, hQ1, hL1, hb⟩ := isAtEnd9 hL.1 hM.1
    obtain rfl : b = 1 := by rcases hb with ⟨e, -⟩ | ⟨-, e⟩; (· exact e); exact absurd e h
    obtain ⟨hM1, hF1⟩ := sc c c1 hM hQ1
    unfold f_X9_step
    simp only [jn]
    rw [e1, cl_s, gd_t (by omega), bq_n (by omega), holds9 (by omega), cl_s, if_neg (by omega), gd_t (by omega), bq_p rfl]
    exact ⟨_, rfl, hF1.tr FrM_t, MI_t hM1, by rw [upc_s, updZ_s]⟩
/-! undo, keep, restore -/
theorem c8_undo (hL : LI K z) : (1 ≤ z.2.1 → ∀ F1, Ag (z.2.2.1 (z.2.1 - 1)) F1 → ClX d z (f_X8_undo d) 0 (z.2.1 - 1) (F1, z.2.1 - 1, z.2.2)) ∧ (¬ 1 ≤ z.2.1 → ClX d z (f_X8_undo d) 2 0 z) := by
  refine ⟨fun h F1 hA c hC => ?_, fun h => ClX_t (fun c hC => ?_)⟩
  · obtain ⟨h1, ⟨hn, h10, hPl, hS⟩, h3, h4, h5⟩ := hC
    have hp := hPl.1 (z.2.1 - 1) (by omega) (by omega)
    have hr := stP_r hp.2
    have hG := hL.2.2.1 (z.2.1 - 1) (by omega) (by omega)
    unfold f_X8_undo
    simp only [jn, sto]
    rw [h10, gd_t (by omega), bq_n (by omega), gd_t (by omega), bq_p hn.2, upc_s, updZ_s, gd_t (by omega), upc_n (show d + 28 ≠ d by omega), gd_t hp.2]
    obtain ⟨c5, e5, hF5, hS5⟩ := copyS8 (s := d + 1) (u := (c (d + 28) (z.2.1 - 1)).toNat) (c := upc c d (updZ (c d) 10 (z.2.1 - 1))) (RepS_fr (hS (z.2.1 - 1) (by omega) (by omega)) (fun q a b => upc_n (by omega))) (by omega)
    have ed : c5 d = updZ (c d) 10 (z.2.1 - 1) := by rw [hF5 d (by unfold SS9; omega), upc_s]
    have eo : ∀ q, q ≠ d → (q < d + 1 ∨ d + 10 ≤ q) → c5 q = c q := fun q a b => by rw [hF5 q (by unfold SS9; omega), upc_n a]
    rw [e5, cl_s, ed, updZ_s]
    refine ⟨c5, rfl, fun q hq => eo q (by omega) (by omega), RepS_ag hA hG.1 hG.2.1.1 hS5, ⟨?_, ?_, Pl_e hPl (eo _ (by omega) (by omega)), fun k a b => ?_⟩, ⟨?_, fun hz => ?_⟩, ?_, fun k a b => ?_⟩
    · show 0 ≤ z.2.1 - 1 ∧ z.2.1 - 1 ≤ 6
      omega
    · rw [ed, updZ_s]
    · have b2 : k < z.2.1 - 1 := b
      have hk := stP_r (hPl.1 k a (by omega)).2
      rw [eo _ (by omega) (by omega)]
      exact RepS_fr (hS k a (by omega)) (fun q x y => eo q (by omega) (by omega))
    · rw [ed, updZ_n (by decide)]; exact h3.1
    · exact RepS_fr (h3.2 hz) (fun q x y => eo q (by omega) (by omega))
    · rw [eo _ (by omega) (by omega)]; exact h4
    · rw [eo _ (by omega) (by omega)]; exact h5 k a b
  · obtain ⟨h1, ⟨hn, h10, hPl, hS⟩, h3, h4, h5⟩ := hC
    unfold f_X8_undo
    simp only [jn]
    rw [h10, gd_t (by omega), bq_p (by omega)]
/-- the first 34 cells -/
def ov34 (F G : Int → Int) : Int → Int := fun i => if 0 ≤ i ∧ i < 34 then G i else F i
theorem ov_ag {F G : Int → Int} : Ag G (ov34 F G) := fun i a b => if_pos ⟨a, b⟩
theorem m9_undo (hL : LI K z) : (1 ≤ z.2.1 → Mo m z (f_X9_undo m) 0 (z.2.1 - 1) (ov34 z.1 (z.2.2.1 (z.2.1 - 1)), z.2.1 - 1, z.2.2)) ∧ (¬ 1 ≤ z.2.1 → Mo m z (f_X9_undo m) 1 0 z) := by
  have hn := hL.2.1
  refine ⟨fun h c hM => ?_, fun h => Mo_t (fun c hM => ?_)⟩
  · obtain ⟨h1, h2, h3, h5, h6⟩ := id hM
    have L : ∀ (κ : W0 → Option (Int × W0)) (k fuel : Nat) (l : Int) (c0 c1 : W0), l + k = 34 → 0 ≤ l → k + 1 ≤ fuel → c0 m 4 = z.2.1 - 1 → c0 (m + 3) = c (m + 3) → Fr (fun q => q = m + 1) c0 c1 → c1 (m + 1) = (fun i => if 0 ≤ i ∧ i < l then z.2.2.1 (z.2.1 - 1) i else z.1 i) → ∃ c2, f_X9_undo_33 m κ fuel l c1 = κ c2 ∧ Fr (fun q => q = m + 1) c0 c2 ∧ c2 (m + 1) = ov34 z.1 (z.2.2.1 (z.2.1 - 1)) := by
      intro κ k
      induction k with
      | zero =>
        intro fuel l c0 c1 hl h0 hf e4 e3 hFr hI
        obtain ⟨f, rfl⟩ : ∃ f, fuel = f + 1 := ⟨fuel - 1, by omega⟩
        obtain rfl : l = 34 := by omega
        rw [f_X9_undo_33_s]
        unfold b_X9_undo_33
        rw [gd_t (by omega), bq_p (by omega)]
        exact ⟨c1, rfl, hFr, hI⟩
      | succ k ih =>
        intro fuel l c0 c1 hl h0 hf e4 e3 hFr hI
        obtain ⟨f, rfl⟩ : ∃ f, fuel = f + 1 := ⟨fuel - 1, by omega⟩
        have k4 : c1 m 4 = z.2.1 - 1 := by rw [hFr m (by omega)]; exact e4
        have k3 : c1 (m + 3) = c (m + 3) := (hFr _ (by omega)).trans e3
        rw [f_X9_undo_33_s]
        unfold b_X9_undo_33
        simp only [sto]
        rw [k4, k3, gd_t (by omega), bq_n (by omega), gd_t (by omega), gd_t (by omega), h2.2 (z.2.1 - 1) l (by omega) (by omega) h0 (by omega)]
        refine ih f (l + 1) c0 _ (by omega) (by omega) (by omega) e4 e3 (hFr.tr (Fr.up rfl)) ?_
        rw [upc_s, hI]
        funext i
        unfold updZ
        try dsimp only
        by_cases e : i = l
        · rw [if_pos e, if_pos (by omega), e]
        · rw [if_neg e]
          by_cases e2 : 0 ≤ i ∧ i < l
          · rw [if_pos e2, if_pos (by omega)]
          · rw [if_neg e2, if_neg (by omega)]
    unfold f_X9_undo
    simp only [jn]
    rw [h2.1, gd_t (by omega), bq_n (by omega), holds9 (by omega), cl_s, if_pos rfl, gd_t (by omega), bq_n (by omega)]
    simp only [sto]
    generalize hc0 : upc (upc c m (updZ (c m) 0 0)) m (updZ (upc c m (updZ (c m) 0 0) m) 4 ((upc c m (updZ (c m) 0 0) m 4) - 1)) = c0
    have q4 : c0 m 4 = z.2.1 - 1 := by rw [← hc0, upc_s, updZ_s, upc_s, updZ_n (by decide), h2.1]
    have qi : ∀ i, i ≠ 0 → i ≠ 4 → c0 m i = c m i := fun i a b => by rw [← hc0, upc_s, updZ_n b, upc_s, updZ_n a]
    have q0 : c0 m 0 = 0 := by rw [← hc0, upc_s, updZ_n (by decide), upc_s, updZ_s]
    have qo : ∀ q, q ≠ m → c0 q = c q := fun q a => by rw [← hc0, upc_n a, upc_n a]
    obtain ⟨c2, e2, hF2, hI2⟩ := L (fun c6 => some ((c6 m 4), c6)) 34 LF 0 c0 c0 (by omega) (by omega) (by rw [LF_g]; omega) q4 (qo _ (by omega)) Fr.rf (by
      rw [qo _ (by omega), h1]
      funext i
      rw [if_neg (by omega)])
    rw [e2]
    have em : c2 m = c0 m := hF2 m (by omega)
    try dsimp only
    rw [em, q4]
    refine ⟨c2, rfl, fun q hq => (hF2 q (by omega)).trans (qo q (by omega)), ⟨hI2, ⟨by rw [em, q4], fun k i a b a2 b2 => ?_⟩, ⟨by rw [em, qi 6 (by decide) (by decide)]; exact h3.1, fun hz i a b => by rw [hF2 _ (by omega), qo _ (by omega)]; exact h3.2 hz i a b⟩, by rw [em, qi 8 (by decide) (by decide)]; exact h5, fun k a b => by rw [hF2 _ (by omega), qo _ (by omega)]; exact h6 k a b⟩, by rw [em, q0]⟩
    have b2' : k < z.2.1 - 1 := b
    rw [hF2 _ (by omega), qo _ (by omega)]
    exact h2.2 k i a (by omega) a2 b2
  · have h2 := hM.2.1
    unfold f_X9_undo
    simp only [jn]
    rw [h2.1, gd_t (by omega), bq_p (by omega), holds9 (by omega), cl_s, if_neg (by omega), gd_t (by omega), bq_p rfl]
theorem undo_li (hL : LI K z) (h : 1 ≤ z.2.1) {F1 : Int → Int} (hA : Ag (z.2.2.1 (z.2.1 - 1)) F1) : LI K (F1, z.2.1 - 1, z.2.2) := by
  obtain ⟨h1, h2, h3, h4⟩ := hL
  refine ⟨Good_ag hA (h3 _ (by omega) (by omega)), ?_, fun k a b => ?_, h4⟩
  · show 0 ≤ z.2.1 - 1 ∧ z.2.1 - 1 ≤ 6
    omega
  · have b2 : k < z.2.1 - 1 := b
    exact h3 k a (by omega)
theorem c8_keep (hL : LI K z) : ClI d z (f_X8_keep d) (z.1 32) (z.1, z.2.1, z.2.2.1, 1, z.1, z.2.2.2.2.2) := by
  intro c hC
  obtain ⟨h1, h2, h3, h4, h5⟩ := hC
  obtain ⟨c1, e1, hF1, hS1⟩ := copyS8 (s := d + 19) (u := d + 1) h1 (by omega)
  unfold f_X8_keep
  simp only [sto]
  have eo : ∀ q, (q < d + 19 ∨ d + 28 ≤ q) → c1 q = c q := fun q a => hF1 q (by unfold SS9; omega)
  rw [e1, cl_s, upc_n (show d + 1 ≠ d by omega), eo (d + 1) (by omega), h1.2.2.2.2.1]
  refine ⟨_, rfl, fun q hq => by rw [upc_n (by omega), eo q (by omega)], RepS_fr h1 (fun q a b => by rw [upc_n (by omega), eo q (by omega)]), SvC_fr h2 (by rw [upc_s, updZ_n (by decide), eo d (by omega)]) (by rw [upc_n (by omega), eo _ (by omega)]) (fun q a b => by rw [upc_n (by omega), eo q (by omega)]), ⟨by rw [upc_s, updZ_s], fun _ => RepS_fr hS1 (fun q a b => upc_n (by omega))⟩, ?_, fun k a b => ?_⟩
  · rw [upc_n (by omega), eo _ (by omega)]; exact h4
  · rw [upc_n (by omega), eo _ (by omega)]; exact h5 k a b
theorem m9_keep (hL : LI K z) : Mo m z (f_X9_keep m) 0 (z.1 32) (z.1, z.2.1, z.2.2.1, 1, z.1, z.2.2.2.2.2) := by
  intro c hM
  obtain ⟨h1, h2, h3, h5, h6⟩ := MI_t (t := 0) hM
  generalize hc0 : upc c m (updZ (c m) 0 0) = c0 at *
  have q0 : c0 m 0 = 0 := by rw [← hc0, upc_s, updZ_s]
  have L : ∀ (κ : W0 → Option (Int × W0)) (k fuel : Nat) (l : Int) (c1 : W0), l + k = 34 → 0 ≤ l → k + 1 ≤ fuel → Fr (fun q => q = m + 4) c0 c1 → (∀ i, 0 ≤ i → i < l → c1 (m + 4) i = z.1 i) → ∃ c2, f_X9_keep_7 m κ fuel l c1 = κ c2 ∧ Fr (fun q => q = m + 4) c0 c2 ∧ ∀ i, 0 ≤ i → i < 34 → c2 (m + 4) i = z.1 i := by
    intro κ k
    induction k with
    | zero =>
      intro fuel l c1 hl h0 hf hFr hI
      obtain ⟨f, rfl⟩ : ∃ f, fuel = f + 1 := ⟨fuel - 1, by omega⟩
      rw [f_X9_keep_7_s]
      unfold b_X9_keep_7
      rw [gd_t (by omega), bq_p (by omega)]
      exact ⟨c1, rfl, hFr, fun i a b => hI i a (by omega)⟩
    | succ k ih =>
      intro fuel l c1 hl h0 hf hFr hI
      obtain ⟨f, rfl⟩ : ∃ f, fuel = f + 1 := ⟨fuel - 1, by omega⟩
      have k1 : c1 (m + 1) = z.1 := (hFr _ (by omega)).trans h1
      rw [f_X9_keep_7_s]
      unfold b_X9_keep_7
      simp only [sto]
      rw [k1, gd_t (by omega), bq_n (by omega), gd_t (by omega), gd_t (by omega)]
      refine ih f (l + 1) _ (by omega) (by omega) (by omega) (hFr.tr (Fr.up rfl)) (fun i a b => ?_)
      rw [upc_s]
      by_cases e : i = l
      · rw [e, updZ_s]
      · rw [updZ_n e]; exact hI i a (by omega)
  unfold f_X9_keep
  simp only [sto]
  rw [hc0]
  obtain ⟨c2, e2, hF2, hI2⟩ := L (fun c2 => some (((upc c2 m (updZ (c2 m) 6 1)) (m + 1) 32), upc c2 m (updZ (c2 m) 6 1))) 34 LF 0 c0 (by omega) (by omega) (by rw [LF_g]; omega) Fr.rf (fun i a b => by omega)
  rw [e2]
  have em : c2 m = c0 m := hF2 m (by omega)
  try dsimp only
  rw [upc_n (show m + 1 ≠ m by omega), hF2 (m + 1) (by omega), h1]
  refine ⟨_, rfl, fun q hq => by rw [upc_n (by omega), hF2 q (by omega), ← hc0, upc_n (by omega)], ⟨by rw [upc_n (by omega), hF2 _ (by omega)]; exact h1, ⟨by rw [upc_s, updZ_n (by decide), em]; exact h2.1, fun k i a b a2 b2 => by rw [upc_n (by omega), hF2 _ (by omega)]; exact h2.2 k i a b a2 b2⟩, ⟨by rw [upc_s, updZ_s], fun _ i a b => by rw [upc_n (by omega)]; exact hI2 i a b⟩, by rw [upc_s, updZ_n (by decide), em]; exact h5, fun k a b => by rw [upc_n (by omega), hF2 _ (by omega)]; exact h6 k a b⟩, by rw [upc_s, updZ_n (by decide), em, q0]⟩
theorem keep_li (hL : LI K z) : LI K (z.1, z.2.1, z.2.2.1, 1, z.1, z.2.2.2.2.2) := ⟨hL.1, hL.2.1, hL.2.2.1, Or.inr rfl, fun _ => hL.1, hL.2.2.2.2.2⟩
theorem c8_restore (hL : LI K z) : (z.2.2.2.1 = 1 → ∀ F1, Ag z.2.2.2.2.1 F1 → ClX d z (f_X8_restore d) 0 (F1 32) (psh z F1)) ∧ (z.2.2.2.1 = 0 → ClX d z (f_X8_restore d) 2 0 z) := by
  refine ⟨fun h F1 hA c hC => ?_, fun h => ClX_t (fun c hC => ?_)⟩
  · have h9 := hC.2.2.1
    have hG := hL.2.2.2.2.1 h
    obtain ⟨c3, e3, hF3, hi3, hS3⟩ := save8 hC.1 hC.2.1
    have h19 : RepS (d + 19) z.2.2.2.2.1 c3 := RepS_fr (h9.2 h) (fun q a b => hF3 q (by unfold SD; omega))
    obtain ⟨c4, e4, hF4, hS4⟩ := copyS8 (s := d + 1) (u := d + 19) h19 (by omega)
    have hR4 := RepS_ag hA hG.1 hG.2.1.1 hS4
    have eo : ∀ q, (q < d + 1 ∨ d + 10 ≤ q) → c4 q = c3 q := fun q a => hF4 q (by unfold SS9; omega)
    unfold f_X8_restore
    rw [h9.1, h, gd_t (by omega), bq_n (by omega), e3, cl_s, e4, cl_s, hR4.2.2.2.2.1]
    refine ⟨c4, rfl, fun q hq => (eo q (by omega)).trans (hF3 q (by unfold SD; omega)), hR4, SvC_fr hS3 (by rw [eo d (by omega)]) (eo _ (by omega)) (fun q a b => eo q (by omega)), ⟨?_, fun hz => ?_⟩, ?_, fun k a b => ?_⟩
    · rw [eo d (by omega), hi3 9 (by decide)]; exact h9.1
    · exact RepS_fr h19 (fun q a b => eo q (by omega))
    · rw [eo _ (by omega), hF3 _ (by unfold SD; omega)]; exact hC.2.2.2.1
    · rw [eo _ (by omega), hF3 _ (by unfold SD; omega)]; exact hC.2.2.2.2 k a b
  · unfold f_X8_restore
    rw [hC.2.2.1.1, h, gd_t (by omega), bq_p rfl]
theorem m9_restore (hL : LI K z) : (z.2.2.2.1 = 1 → Mo m z (f_X9_restore m) 0 (ov34 z.1 z.2.2.2.2.1 32) (psh z (ov34 z.1 z.2.2.2.2.1))) ∧ (z.2.2.2.1 = 0 → Mo m z (f_X9_restore m) 1 0 z) := by
  refine ⟨fun h c hM => ?_, fun h => Mo_t (fun c hM => ?_)⟩
  · have hM0 := MI_t (t := 0) hM
    obtain ⟨c3, e3, k3, hi3, ho3⟩ := sv9_e hM0 hL.2.1
    have k4 : ∀ i, 0 ≤ i → i < 34 → c3 (m + 4) i = z.2.2.2.2.1 i := fun i a b => by
      rw [ho3 _ (by omega) (by omega)]
      exact hM0.2.2.1.2 h i a b
    have L : ∀ (κ : W0 → Option (Int × W0)) (k fuel : Nat) (l : Int) (c1 : W0), l + k = 34 → 0 ≤ l → k + 1 ≤ fuel → Fr (fun q => q = m + 1) c3 c1 → c1 (m + 1) = (fun i => if 0 ≤ i ∧ i < l then z.2.2.2.2.1 i else z.1 i) → ∃ c2, f_X9_restore_27 m κ fuel l c1 = κ c2 ∧ Fr (fun q => q = m + 1) c3 c2 ∧ c2 (m + 1) = ov34 z.1 z.2.2.2.2.1 := by
      intro κ k
      induction k with
      | zero =>
        intro fuel l c1 hl h0 hf hFr hI
        obtain ⟨f, rfl⟩ : ∃ f, fuel = f + 1 := ⟨fuel - 1, by omega⟩
        obtain rfl : l = 34 := by omega
        rw [f_X9_restore_27_s]
        unfold b_X9_restore_27
        rw [gd_t (by omega), bq_p (by omega)]
        exact ⟨c1, rfl, hFr, hI⟩
      | succ k ih =>
        intro fuel l c1 hl h0 hf hFr hI
        obtain ⟨f, rfl⟩ : ∃ f, fuel = f + 1 := ⟨fuel - 1, by omega⟩
        have k4' : c1 (m + 4) l = z.2.2.2.2.1 l := by rw [hFr _ (by omega)]; exact k4 l h0 (by omega)
        rw [f_X9_restore_27_s]
        unfold b_X9_restore_27
        simp only [sto]
        rw [k4', gd_t (by omega), bq_n (by omega), gd_t (by omega), gd_t (by omega)]
        refine ih f (l + 1) _ (by omega) (by omega) (by omega) (hFr.tr (Fr.up rfl)) ?_
        rw [upc_s, hI]
        funext i
        unfold updZ
        try dsimp only
        by_cases e : i = l
        · rw [if_pos e, if_pos (by omega), e]
        · rw [if_neg e]
          by_cases e2 : 0 ≤ i ∧ i < l
          · rw [if_pos e2, if_pos (by omega)]
          · rw [if_neg e2, if_neg (by omega)]
    obtain ⟨c2, e2, hF2, hI2⟩ := L (fun c7 => some ((c7 (m + 1) 32), c7)) 34 LF 0 c3 (by omega) (by omega) (by rw [LF_g]; omega) Fr.rf (by
      rw [k3]
      funext i
      rw [if_neg (by omega)])
    unfold f_X9_restore
    simp only [jn]
    rw [hM.2.2.1.1, h, gd_t (by omega), bq_n (by omega), holds9 (by omega), cl_s, if_pos rfl, gd_t (by omega), bq_n (by omega), e3, cl_s, e2]
    try dsimp only
    rw [hI2]
    obtain ⟨a, b⟩ := sv9 (F1 := ov34 z.1 z.2.2.2.2.1) (c5 := c2) hM0 hL.2.1 e3 hI2 (hF2 _ (by omega)) (hF2 _ (by omega)) (hF2 _ (by omega)) (by rw [hF2 m (by omega)]) (by rw [hF2 m (by omega)]) (by rw [hF2 m (by omega)]) (fun q hq => hF2 q (by omega))
    exact ⟨c2, rfl, FrM_t.tr a, b, by rw [hF2 m (by omega), hi3 0 (by decide), upc_s, updZ_s]⟩
  · unfold f_X9_restore
    simp only [jn]
    rw [hM.2.2.1.1, h, gd_t (by omega), bq_p rfl, holds9 (by omega), cl_s, if_neg (by omega), gd_t (by omega), bq_p rfl]
end PE
