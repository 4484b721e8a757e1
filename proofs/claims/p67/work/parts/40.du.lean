section DU
variable {d m : Nat} {z : St} {K : Int}
theorem CI_f2 {c c' : W0} (h : CI d z c) (e : ∀ q, d ≤ q → (q < d + 32 ∨ d + 51 ≤ q) → q < d + 105 → c' q = c q) : CI d z c' := by
  obtain ⟨h1, h2, h3, h4, h5⟩ := h
  refine ⟨RepS_fr h1 (fun q a b => e q (by omega) (by omega) (by omega)), SvC_fr h2 (by rw [e d (by omega) (by omega) (by omega)]) (e _ (by omega) (by omega) (by omega)) (fun q a b => e q (by omega) (by omega) (by omega)), ⟨by rw [e d (by omega) (by omega) (by omega)]; exact h3.1, fun z => RepS_fr (h3.2 z) (fun q a b => e q (by omega) (by omega) (by omega))⟩, by rw [e _ (by omega) (by omega) (by omega)]; exact h4, by rw [e _ (by omega) (by omega) (by omega)]; exact h5⟩
theorem sd8 {F : Int → Int} {c : W0} (hP : RepP (d + 2) F c) (hT : RepT (d + 5) F c) (g : GdP F) (hN : GdN F) (hd : dF F ≠ 0) : ∃ c' C s, f_X0_solveDuals (d + 42) (d + 1) c = some (1, c') ∧ Fr (ES (d + 42)) c c' ∧ c' (d + 42) 0 = F 1 ∧ Elm (F 1) (F 1) (dcs F) C s ∧ EqC (d + 42) (F 1) (dcs F) (dr F) C s c' := by
  have g0 := g.1; have g1 := g.2.1
  have hPc : ∀ c1, Fr (ES (d + 42)) c c1 → RepP (d + 2) F c1 := fun c1 h => RepP_c hP (h _ (by unfold ES; omega)) (h _ (by unfold ES; omega))
  have hTc : ∀ c1, Fr (ES (d + 42)) c c1 → RepT (d + 5) F c1 := fun c1 h => RepT_c hT (h _ (by unfold ES; omega)) (h _ (by unfold ES; omega)) (h _ (by unfold ES; omega))
  have L39 : ∀ (κ : W0 → Option (Int × W0)) (i q0 : Int) (c0 : W0), (0 ≤ i ∧ i < F 1) → (0 ≤ q0 ∧ q0 < F 0 + F 1) → Fr (ES (d + 42)) c c0 → c0 (d + 42) 0 = F 1 → ∃ c2, f_X0_solveDuals_39 (d + 42) (d + 1) i q0 κ LF 0 c0 = κ c2 ∧ Fr (fun y => y = d + 44) c0 c2 ∧ (∀ x, 0 ≤ x → x < F 1 → c2 (d + 44) (i * 5 + x) = aF F q0 x) ∧ ∀ y, (y < i * 5 ∨ i * 5 + 5 ≤ y) → c2 (d + 44) y = c0 (d + 44) y := by
    intro κ i q0 c0 hi hq0 hF0 h00
    have L : ∀ (k fuel : Nat) (l : Int) (c1 : W0), l + k = F 1 → 0 ≤ l → k + 1 ≤ fuel → Fr (fun y => y = d + 44) c0 c1 → (∀ x, 0 ≤ x → x < l → c1 (d + 44) (i * 5 + x) = aF F q0 x) → (∀ y, (y < i * 5 ∨ i * 5 + 5 ≤ y) → c1 (d + 44) y = c0 (d + 44) y) → ∃ c2, f_X0_solveDuals_39 (d + 42) (d + 1) i q0 κ fuel l c1 = κ c2 ∧ Fr (fun y => y = d + 44) c0 c2 ∧ (∀ x, 0 ≤ x → x < F 1 → c2 (d + 44) (i * 5 + x) = aF F q0 x) ∧ ∀ y, (y < i * 5 ∨ i * 5 + 5 ≤ y) → c2 (d + 44) y = c0 (d + 44) y := by
      intro k
      induction k with
      | zero =>
        intro fuel l c1 hl h0 hf hF hI hO
        obtain ⟨f, rfl⟩ : ∃ f, fuel = f + 1 := ⟨fuel - 1, by omega⟩
        have ee : c1 (d + 42) = c0 (d + 42) := hF _ (by omega)
        rw [f_X0_solveDuals_39_s]
        unfold b_X0_solveDuals_39
        rw [ee, h00, gd_t (by omega), bq_p (by omega)]
        exact ⟨c1, rfl, hF, fun x a b => hI x a (by omega), hO⟩
      | succ k ih =>
        intro fuel l c1 hl h0 hf hF hI hO
        obtain ⟨f, rfl⟩ : ∃ f, fuel = f + 1 := ⟨fuel - 1, by omega⟩
        have ee : c1 (d + 42) = c0 (d + 42) := hF _ (by omega)
        have h9 := aF_9 g (q := q0) (i := l) hq0
        have hff := ff8 (hPc c1 (hF0.tr (hF.mo (fun y h => Or.inr h)))) g (r := l) (j := q0) ⟨h0, by omega⟩ hq0
        rw [f_X0_solveDuals_39_s]
        unfold b_X0_solveDuals_39
        rw [ee, h00, gd_t (by omega), bq_n (by omega), hff, cv_s, gd_t (by omega), gd_t (by omega)]
        simp only [sto]
        refine ih f (l + 1) _ (by omega) (by omega) (by omega) (hF.tr (Fr.up rfl)) (fun x a b => ?_) (fun y hy => ?_)
        · rw [upc_s]
          by_cases y : x = l
          · rw [y, updZ_s]
          · rw [updZ_n (by omega)]; exact hI x a (by omega)
        · rw [upc_s, updZ_n (by omega)]
          exact hO y hy
    exact L (F 1).toNat LF 0 c0 (by omega) (by omega) (by rw [LF_g]; omega) Fr.rf (fun x a b => by omega) (fun _ _ => rfl)
  have L19 : ∀ (κ : W0 → Option (Int × W0)) (k fuel : Nat) (l : Int) (c1 : W0), l + k = F 1 → 0 ≤ l → k + 1 ≤ fuel → Fr (ES (d + 42)) c c1 → c1 (d + 42) 0 = F 1 → (∀ r x, 0 ≤ r → r < l → 0 ≤ x → x ≤ F 1 → c1 (d + 44) (r * 5 + x) = AqE (F 1) (dcs F) (dr F) x r) → ∃ c2, f_X0_solveDuals_19 (d + 42) (d + 1) κ fuel l c1 = κ c2 ∧ Fr (ES (d + 42)) c c2 ∧ c2 (d + 42) 0 = F 1 ∧ ∀ r x, 0 ≤ r → r < F 1 → 0 ≤ x → x ≤ F 1 → c2 (d + 44) (r * 5 + x) = AqE (F 1) (dcs F) (dr F) x r := by
    intro κ k
    induction k with
    | zero =>
      intro fuel l c1 hl h0 hf hF h00 hI
      obtain ⟨f, rfl⟩ : ∃ f, fuel = f + 1 := ⟨fuel - 1, by omega⟩
      rw [f_X0_solveDuals_19_s]
      unfold b_X0_solveDuals_19
      rw [h00, gd_t (by omega), bq_p (by omega)]
      exact ⟨c1, rfl, hF, h00, fun r x a b => hI r x a (by omega)⟩
    | succ k ih =>
      intro fuel l c1 hl h0 hf hF h00 hI
      obtain ⟨f, rfl⟩ : ∃ f, fuel = f + 1 := ⟨fuel - 1, by omega⟩
      have hNl := hN l h0 (by omega)
      have hnb := namedBy8 (hTc c1 hF) g (r := l) ⟨h0, by omega⟩
      rw [f_X0_solveDuals_19_s]
      unfold b_X0_solveDuals_19
      rw [h00, gd_t (by omega), bq_n (by omega), hnb, cv_s]
      obtain ⟨c2, e2, hF2, h2, hO2⟩ := L39 (fun c2 => cv (f_X2_columnProfit (d + 1 + 1) (F (27 + l)) c2) fun v3 => gd (R32 v3) <| gd ((0 ≤ l ∧ l < 4) ∧ (0 ≤ (c2 (d + 42) 0) ∧ (c2 (d + 42) 0) < 5)) <| sto c2 (d + 42 + 2) (l * 5 + (c2 (d + 42) 0)) v3 fun c4 => f_X0_solveDuals_19 (d + 42) (d + 1) κ f (l + 1) c4) l (F (27 + l)) c1 ⟨h0, by omega⟩ hNl hF h00
      have hFb : Fr (ES (d + 42)) c c2 := hF.tr (hF2.mo (fun y h => Or.inr h))
      have ee : c2 (d + 42) = c1 (d + 42) := hF2 _ (by omega)
      have h9 := cF_9 g hNl.1
      have hcp := cp8 (hPc c2 hFb) g hNl
      rw [e2]
      try dsimp only
      rw [hcp, cv_s, ee, h00, gd_t (by omega), gd_t (by omega)]
      simp only [sto]
      refine ih f (l + 1) _ (by omega) (by omega) (by omega) (hFb.tr (Fr.up (Or.inr rfl))) (by rw [upc_n (by omega), ee]; exact h00) (fun r x a b a2 b2 => ?_)
      rw [upc_s]
      by_cases y : r = l
      · by_cases y2 : x = F 1
        · rw [y, y2, updZ_s, Aq_m]
          unfold dr
          rw [if_pos (by omega)]
        · rw [updZ_n (by omega), y, h2 x a2 (by omega), Aq_lt (by omega)]
          unfold dcs
          rw [if_pos (by omega)]
      · rw [updZ_n (by omega), hO2 _ (by omega)]
        exact hI r x a (by omega) a2 b2
  have e1 : c (d + 2) 1 = F 1 := hP.2.1
  unfold f_X0_solveDuals
  simp only [sto]
  rw [show c (d + 1 + 1) 1 = F 1 from e1]
  obtain ⟨c2, e2, hF2, h20, h2⟩ := L19 (fun c2 => cl (f_X0_eliminate (d + 42) c2) fun v3 c4 => gd (0 ≤ v3 ∧ v3 ≤ 1) <| some (v3, c4)) (F 1).toNat LF 0 (upc c (d + 42) (updZ (c (d + 42)) 0 (F 1))) (by omega) (by omega) (by rw [LF_g]; omega) (Fr.up (Or.inl rfl)) (by rw [upc_s, updZ_s]) (fun r x a b => by omega)
  rw [e2]
  try dsimp only
  obtain ⟨b, c3, e3, hF3, h30, hb⟩ := elim8 (e := d + 42) (c := c2) (dEq g hN) h20 h2
  rw [e3, cl_s]
  rcases hb with ⟨rfl, C, s, hE, hC⟩ | ⟨-, hD⟩
  · rw [gd_t (by omega)]
    exact ⟨c3, C, s, rfl, hF2.tr hF3, h30, hE, hC⟩
  · exact absurd hD (d_nodep g hd)
theorem c8_dualEq (hL : LI K z) {q : Int} (hq : R32 q) : ((0 ≤ q ∧ q < z.1 1) → ClX d z (f_X8_dualNumeratorByEquations d q) 0 (nu (-rF z.1 (z.1 0 + q)) (dF z.1)) z ∧ ClX d z (f_X8_dualDenominatorByEquations d q) 0 (de (-rF z.1 (z.1 0 + q)) (dF z.1)) z) ∧ (¬ (0 ≤ q ∧ q < z.1 1) → ClX d z (f_X8_dualNumeratorByEquations d q) 3 0 z ∧ ClX d z (f_X8_dualDenominatorByEquations d q) 3 0 z) := by
  have g := hL.1.1; have hN := hL.1.2.1.1; have hd := hL.1.2.1.2.1
  have g1 := g.2.1
  have main : ∀ c, CI d z c → (0 ≤ q ∧ q < z.1 1) → ∃ c4 n D, f_X0_solveDuals (d + 42) (d + 1) c = some (1, c4) ∧ f_X0_unknown (d + 42) q c4 = some n ∧ c4 (d + 42) 1 = D ∧ f_X8_lowNumerator n D = some (nu (-rF z.1 (z.1 0 + q)) (dF z.1)) ∧ f_X8_lowDenominator n D = some (de (-rF z.1 (z.1 0 + q)) (dF z.1)) ∧ FrD d c c4 ∧ CI d z c4 := by
    intro c hC h
    obtain ⟨c4, C, s, e4, hF4, h40, hE, hQ⟩ := sd8 (d := d) hC.1.1 hC.1.2.1 g hN (by omega)
    have H := dEq g hN
    have b1 := eq_b H hE (by omega) (r := q) (q := z.1 1) h ⟨g1.1, by omega⟩
    have b2 := det_b (Elm_9 hE H.2.2.1 (by omega))
    have ha := d_ans g hE h
    rw [Aq_m] at b1
    have hx := hQ.2.2 q (z.1 1) h.1 h.2 g1.1 (by omega)
    rw [Aq_m] at hx
    have hnu := nu_u (n := tt C (dr z.1) (s q)) (d := det4 C) (n' := -rF z.1 (z.1 0 + q)) (d' := dF z.1) hE.2.1 (by omega) (by rw [Int.mul_comm, ha, Int.mul_comm])
    refine ⟨c4, tt C (dr z.1) (s q), det4 C, e4, ?_, hQ.2.1, ?_, ?_, fun y hy => hF4 y (by unfold ES; omega), CI_f2 hC (fun y a b _ => hF4 y (by unfold ES; omega))⟩
    · unfold f_X0_unknown
      rw [h40, gd_t (by omega), hx]
    · rw [lowN (by omega) (by omega) hE.2.1, hnu.1]
    · rw [lowD (by omega) (by omega) hE.2.1, hnu.2]
  refine ⟨fun h => ⟨fun c hC => ?_, fun c hC => ?_⟩, fun h => ⟨ClX_v (fun c hC => ?_), ClX_v (fun c hC => ?_)⟩⟩
  · obtain ⟨c4, n, D, e4, e5, e6, e7, e8, hF, hC4⟩ := main c hC h
    unfold f_X8_dualNumeratorByEquations
    rw [(rqC8 hC.1.1 g hq _).1 h]
    try dsimp only
    rw [e4, cl_s, e5, cv_s, e6, e7, cv_s]
    exact ⟨c4, rfl, hF, hC4⟩
  · obtain ⟨c4, n, D, e4, e5, e6, e7, e8, hF, hC4⟩ := main c hC h
    unfold f_X8_dualDenominatorByEquations
    rw [(rqC8 hC.1.1 g hq _).1 h]
    try dsimp only
    rw [e4, cl_s, e5, cv_s, e6, e8, cv_s]
    exact ⟨c4, rfl, hF, hC4⟩
  · unfold f_X8_dualNumeratorByEquations
    rw [(rqC8 hC.1.1 g hq _).2 h]
  · unfold f_X8_dualDenominatorByEquations
    rw [(rqC8 hC.1.1 g hq _).2 h]
theorem Mo_cl {f : W0 → Option (Int × W0)} {t v : Int} {z' : St} (h : Mo m z f t v z') : Mo m z (fun c => cl (f c) fun v1 c2 => some (v1, c2)) t v z' := fun c hM => by
  obtain ⟨c1, e, a⟩ := h c hM
  refine ⟨c1, ?_, a⟩
  dsimp only
  rw [e, cl_s]
theorem m9_dualEq (hL : LI K z) {q : Int} (hq : R32 q) : ((0 ≤ q ∧ q < z.1 1) → Mo m z (f_X9_dualNumeratorByEquations m q) 0 (nu (-rF z.1 (z.1 0 + q)) (dF z.1)) z ∧ Mo m z (f_X9_dualDenominatorByEquations m q) 0 (de (-rF z.1 (z.1 0 + q)) (dF z.1)) z) ∧ (¬ (0 ≤ q ∧ q < z.1 1) → Mo m z (f_X9_dualNumeratorByEquations m q) 1 0 z ∧ Mo m z (f_X9_dualDenominatorByEquations m q) 1 0 z) := by
  have h := m9_dual (m := m) hL hq
  refine ⟨fun a => ⟨Mo_cl (h.1 a).1, Mo_cl (h.1 a).2⟩, fun a => ⟨Mo_cl (h.2 a).1, Mo_cl (h.2 a).2⟩⟩
end DU
