section GH
variable {d m : Nat} {z : St} {K : Int}
theorem nu_neg {n e : Int} : nu (-n) e = -nu n e ∧ de (-n) e = de n e := by
  unfold nu de
  rw [Int.neg_gcd, Int.neg_tdiv]
  refine ⟨?_, rfl⟩
  split
  · rfl
  · rfl
theorem nu_one {D : Int} (hD : D ≠ 0) : nu D D = 1 ∧ de D D = 1 := by
  have h := nu_u (n := D) (d := D) (n' := 1) (d' := 1) hD (by decide) (by omega)
  rw [h.1, h.2]
  exact nu_1
/-- no column is named twice -/
theorem nm_u {F : Int → Int} (g : GdP F) (hd : dF F ≠ 0) {r k : Int} (hr : 0 ≤ r ∧ r < F 1) (hk : 0 ≤ k ∧ k < F 1) (e : F (27 + r) = F (27 + k)) : r = k := by
  have g1 := g.2.1
  have h1 := tF_named g (r := r) (k := r) (by omega) hr
  have h2 := tF_named g (r := r) (k := k) (by omega) hk
  rw [if_pos rfl] at h1
  rw [← e, h1] at h2
  by_cases h : r = k
  · exact h
  · rw [if_neg h] at h2
    exact absurd h2 hd
/-- what is given to a column -/
def gvF (F : Int → Int) (v : Int) : Int := if v < 0 then 0 else tF F v (F 0 + F 1)
theorem gv_b {F : Int → Int} (g : GdP F) (hN : GdN F) {v : Int} (hv : v < F 1) : -1732104 ≤ gvF F v ∧ gvF F v ≤ 1732104 := by
  have g0 := g.1; have g1 := g.2.1
  unfold gvF
  split
  · omega
  · exact tF_b9 g hN (by omega) (by omega)
theorem fst_r {F : Int → Int} {q v : Int} (hm : 0 ≤ F 1) (h : fstP (fun r => F (27 + r) = q) (F 1) v) : -1 ≤ v ∧ (v < F 1 ∨ v = -1) := by
  rcases h with h | h <;> omega
theorem gv_ex (hL : LI K z) {q : Int} : ∃ v, fstP (fun r => z.1 (27 + r) = q) (z.1 1) v := by
  have g1 := hL.1.1.2.1
  have h : ∀ n : Nat, ∃ v, fstP (fun r => z.1 (27 + r) = q) n v := by
    intro n
    induction n with
    | zero => exact ⟨-1, Or.inl ⟨rfl, fun j a b => by omega⟩⟩
    | succ n ih =>
      obtain ⟨v, h | h⟩ := ih
      · by_cases e : z.1 (27 + (n : Int)) = q
        · exact ⟨n, Or.inr ⟨by omega, by omega, e, fun j a b => h.2 j a b⟩⟩
        · refine ⟨-1, Or.inl ⟨rfl, fun j a b => ?_⟩⟩
          by_cases e2 : j = n
          · rw [e2]; exact e
          · exact h.2 j a (by omega)
      · exact ⟨v, Or.inr ⟨h.1, by have := h.2.1; omega, h.2.2⟩⟩
  have h2 := h (z.1 1).toNat
  rw [show (((z.1 1).toNat : Nat) : Int) = z.1 1 by omega] at h2
  exact h2
theorem givenTo9 (hL : LI K z) {p v : Int} (hp : R32 p) (hv : fstP (fun r => z.1 (27 + r) = p) (z.1 1) v) : Hlds m z (f_X9_givenTo m p) (nu (gvF z.1 v) (dF z.1)) (de (gvF z.1 v) (dF z.1)) := by
  intro c hF
  have g := hL.1.1; have hN := hL.1.2.1.1; have hd := hL.1.2.1.2.1
  have g0 := g.1; have g1 := g.2.1
  obtain ⟨c1, e1, hQ, hLd⟩ := lays9 hL hF
  unfold f_X9_givenTo
  rw [e1, cl_s, becs (by omega) (by omega) (by omega), cl_s]
  have hz := nu_0 (D := dF z.1) (by omega)
  have L : ∀ (k fuel : Nat) (l : Int) (c0 : W0), l + k = z.1 1 → 0 ≤ l → k + 1 ≤ fuel → Qs m (P7 m) c c0 → Laid m z.1 c0 → ((c0 m 16 = nu (gvF z.1 (if v < l then v else -1)) (dF z.1)) ∧ c0 m 17 = de (gvF z.1 (if v < l then v else -1)) (dF z.1)) → ∃ c2, f_X9_givenTo_12 m p (fun c5 => some (0, c5)) fuel l c0 = some (0, c2) ∧ Qs m (P7 m) c c2 ∧ c2 m 16 = nu (gvF z.1 v) (dF z.1) ∧ c2 m 17 = de (gvF z.1 v) (dF z.1) := by
    intro k
    induction k with
    | zero =>
      intro fuel l c0 hl h0 hf hQ0 hL0 hI
      obtain ⟨f, rfl⟩ : ∃ f, fuel = f + 1 := ⟨fuel - 1, by omega⟩
      have hvr := fst_r g1.1 hv
      rw [f_X9_givenTo_12_s]
      unfold b_X9_givenTo_12
      rw [hL0.1, gd_t (by omega), bq_p (by omega)]
      rw [if_pos (by omega)] at hI
      exact ⟨c0, rfl, hQ0, hI⟩
    | succ k ih =>
      intro fuel l c0 hl h0 hf hQ0 hL0 hI
      obtain ⟨f, rfl⟩ : ∃ f, fuel = f + 1 := ⟨fuel - 1, by omega⟩
      have hNl := hN l h0 (by omega)
      have hnm := hL0.2.1 l h0 (by omega)
      rw [f_X9_givenTo_12_s]
      unfold b_X9_givenTo_12
      rw [hL0.1, hnm, gd_t (by omega), bq_n (by omega), gd_t (by omega), gd_t ⟨by omega, hp⟩]
      by_cases e : z.1 (27 + l) = p
      · have hvl : v = l := by
          rcases hv with h | h
          · exact absurd e (h.2 l h0 (by omega))
          · exact nm_u g (by omega) ⟨h.1, h.2.1⟩ ⟨h0, by omega⟩ (h.2.2.1.trans e.symm)
        have b8 := tF_b9 g hN (r := l) (q := z.1 0 + z.1 1) (by omega) (by omega)
        obtain ⟨x1, x2, x3⟩ := fr_b hL (n := tF z.1 l (z.1 0 + z.1 1)) (by omega)
        obtain ⟨n1, n2⟩ := nu_nu (n := tF z.1 l (z.1 0 + z.1 1)) (e := dF z.1) (by omega)
        have h8 := (hL0.2.2 l 8 h0 (by omega) (by omega) (by omega)).2
        rw [bq_p e, entry9 hL0 g ⟨h0, by omega⟩ (by omega), cv_s, gd_t (by omega), show 9 * l + 9 - 1 = 9 * l + 8 by omega, h8, tQ_8, becs x1 x2 (by omega), cl_s]
        refine ih f (l + 1) _ (by omega) (by omega) (by omega) (hQ0.tr Qs.fs) hL0.fs ?_
        rw [fs_o, fs_u, n1, n2, if_pos (by omega)]
        unfold gvF
        rw [if_neg (by omega), hvl]
        exact ⟨rfl, rfl⟩
      · have hvl : v ≠ l := by
          rcases hv with h | h
          · omega
          · intro y
            rw [y] at h
            exact e h.2.2.1
        rw [bq_n e]
        refine ih f (l + 1) _ (by omega) (by omega) (by omega) hQ0 hL0 ?_
        by_cases y : v < l
        · rw [if_pos y] at hI
          rw [if_pos (by omega)]
          exact hI
        · rw [if_neg y] at hI
          rw [if_neg (by omega)]
          exact hI
  refine L (z.1 1).toNat LF 0 _ (by omega) (by omega) (by rw [LF_g]; omega) (hQ.tr Qs.fs) hLd.fs ?_
  have hvr := fst_r g1.1 hv
  have e0 : gvF z.1 (if v < 0 then v else -1) = 0 := by
    unfold gvF
    rw [if_pos (by split <;> omega)]
  rw [e0, hz.1, hz.2, fs_o, fs_u]
  exact nu_1
theorem c8_given (hL : LI K z) {q v : Int} (hq : R32 q) (hv : fstP (fun r => z.1 (27 + r) = q) (z.1 1) v) : ((0 ≤ q ∧ q < z.1 0 + z.1 1) → ClX d z (f_X8_givenNumerator d q) 0 (nu (gvF z.1 v) (dF z.1)) z ∧ ClX d z (f_X8_givenDenominator d q) 0 (de (gvF z.1 v) (dF z.1)) z) ∧ (¬ (0 ≤ q ∧ q < z.1 0 + z.1 1) → ClX d z (f_X8_givenNumerator d q) 3 0 z ∧ ClX d z (f_X8_givenDenominator d q) 3 0 z) := by
  have g := hL.1.1; have hN := hL.1.2.1.1
  have g1 := g.2.1
  have hvr := fst_r g1.1 hv
  have bt := gv_b g hN (v := v) (by omega)
  have gv : ∀ c, CI d z c → f_X6_given (d + 5) q c = some (gvF z.1 v) := fun c hC => by
    obtain ⟨w, ew, hw⟩ := given8 hC.1.2.1 g hN hq
    rw [ew, fstP_u hw hv (fun _ _ _ => Iff.rfl)]
    rfl
  refine ⟨fun h => ⟨ClX_v (fun c hC => ?_), ClX_v (fun c hC => ?_)⟩, fun h => ⟨ClX_v (fun c hC => ?_), ClX_v (fun c hC => ?_)⟩⟩
  · unfold f_X8_givenNumerator
    rw [(rqK8 hC.1.2.1 g hq _).1 h]
    try dsimp only
    rw [gv c hC, cv_s, (lw8 hL hC (by omega)).1, cv_s]
  · unfold f_X8_givenDenominator
    rw [(rqK8 hC.1.2.1 g hq _).1 h]
    try dsimp only
    rw [gv c hC, cv_s, (lw8 hL hC (by omega)).2, cv_s]
  · unfold f_X8_givenNumerator
    rw [(rqK8 hC.1.2.1 g hq _).2 h]
  · unfold f_X8_givenDenominator
    rw [(rqK8 hC.1.2.1 g hq _).2 h]
theorem m9_given (hL : LI K z) {q v : Int} (hq : R32 q) (hv : fstP (fun r => z.1 (27 + r) = q) (z.1 1) v) : ((0 ≤ q ∧ q < z.1 0 + z.1 1) → Mo m z (f_X9_givenNumerator m q) 0 (nu (gvF z.1 v) (dF z.1)) z ∧ Mo m z (f_X9_givenDenominator m q) 0 (de (gvF z.1 v) (dF z.1)) z) ∧ (¬ (0 ≤ q ∧ q < z.1 0 + z.1 1) → Mo m z (f_X9_givenNumerator m q) 1 0 z ∧ Mo m z (f_X9_givenDenominator m q) 1 0 z) := by
  have g := hL.1.1
  refine ⟨fun h => ⟨Mo_s (fun c hM => ?_), Mo_s (fun c hM => ?_)⟩, fun h => ⟨Mo_s (fun c hM => ?_), Mo_s (fun c hM => ?_)⟩⟩ <;> obtain ⟨w, ew, hw⟩ := isCol9 hM.1 g hq
  · unfold f_X9_givenNumerator
    rw [ew, cv_s, (tst9 hw _).1 h]
    try dsimp only
    obtain ⟨c1, e1, hQ, hx, hy⟩ := givenTo9 (m := m) hL hq hv (upc c m (updZ (c m) 0 0)) ((tz_q (by omega)).trans hM.1)
    rw [gd_t (by omega), bq_n (by omega), e1, cl_s, hx]
    exact ⟨_, rfl, hQ⟩
  · unfold f_X9_givenDenominator
    rw [ew, cv_s, (tst9 hw _).1 h]
    try dsimp only
    obtain ⟨c1, e1, hQ, hx, hy⟩ := givenTo9 (m := m) hL hq hv (upc c m (updZ (c m) 0 0)) ((tz_q (by omega)).trans hM.1)
    rw [gd_t (by omega), bq_n (by omega), e1, cl_s, hy]
    exact ⟨_, rfl, hQ⟩
  · unfold f_X9_givenNumerator
    rw [ew, cv_s, (tst9 hw _).2 h]
    try dsimp only
    rw [gd_t (by omega), bq_p rfl]
    exact ⟨_, rfl, Qs.rf⟩
  · unfold f_X9_givenDenominator
    rw [ew, cv_s, (tst9 hw _).2 h]
    try dsimp only
    rw [gd_t (by omega), bq_p rfl]
    exact ⟨_, rfl, Qs.rf⟩
/-! the duals -/
theorem dual8 (hL : LI K z) {c : W0} (hC : CI d z c) {r : Int} (hr : 0 ≤ r ∧ r < z.1 1) : f_X4_dual (d + 1) r c = some (-rF z.1 (z.1 0 + r)) := by
  have g := hL.1.1
  have g0 := g.1; have g1 := g.2.1
  have e : c (d + 1 + 1) 0 = z.1 0 := hC.1.1.1
  unfold f_X4_dual
  rw [e, reduced8 hC.1.2.1 g (by omega), cv_s]
theorem dualOf9 (hL : LI K z) {r : Int} (hr : 0 ≤ r ∧ r < z.1 1) : Hlds m z (f_X9_dualOf m r) (nu (-rF z.1 (z.1 0 + r)) (dF z.1)) (de (-rF z.1 (z.1 0 + r)) (dF z.1)) := by
  intro c hF
  have g0 := hL.1.1.1; have g1 := hL.1.1.2.1
  unfold f_X9_dualOf
  rw [hF]
  obtain ⟨c1, e1, hQ, hx, hy⟩ := reducedOf9 (m := m) hL (q := z.1 0 + r) (by omega) c hF
  have hn := nu_neg (n := rF z.1 (z.1 0 + r)) (e := dF z.1)
  rw [e1, cl_s]
  simp only [sto]
  refine ⟨_, rfl, hQ.tr ⟨fun q a _ => upc_n a, fun i a _ => by rw [upc_s, updZ_n a]⟩, ?_, ?_⟩
  · rw [upc_s, updZ_s, hx, hn.1]
  · rw [upc_s, updZ_n (by decide), hy, hn.2]
theorem c8_dual (hL : LI K z) {q : Int} (hq : R32 q) : ((0 ≤ q ∧ q < z.1 1) → ClX d z (f_X8_dualNumerator d q) 0 (nu (-rF z.1 (z.1 0 + q)) (dF z.1)) z ∧ ClX d z (f_X8_dualDenominator d q) 0 (de (-rF z.1 (z.1 0 + q)) (dF z.1)) z) ∧ (¬ (0 ≤ q ∧ q < z.1 1) → ClX d z (f_X8_dualNumerator d q) 3 0 z ∧ ClX d z (f_X8_dualDenominator d q) 3 0 z) := by
  have g := hL.1.1; have hN := hL.1.2.1.1
  have g0 := g.1; have g1 := g.2.1
  refine ⟨fun h => ⟨ClX_v (fun c hC => ?_), ClX_v (fun c hC => ?_)⟩, fun h => ⟨ClX_v (fun c hC => ?_), ClX_v (fun c hC => ?_)⟩⟩
  · have bt := rF_b g hN (q := z.1 0 + q) (by omega)
    unfold f_X8_dualNumerator
    rw [(rqC8 hC.1.1 g hq _).1 h]
    try dsimp only
    rw [dual8 hL hC h, cv_s, (lw8 hL hC (by omega)).1, cv_s]
  · have bt := rF_b g hN (q := z.1 0 + q) (by omega)
    unfold f_X8_dualDenominator
    rw [(rqC8 hC.1.1 g hq _).1 h]
    try dsimp only
    rw [dual8 hL hC h, cv_s, (lw8 hL hC (by omega)).2, cv_s]
  · unfold f_X8_dualNumerator
    rw [(rqC8 hC.1.1 g hq _).2 h]
  · unfold f_X8_dualDenominator
    rw [(rqC8 hC.1.1 g hq _).2 h]
theorem m9_dual (hL : LI K z) {q : Int} (hq : R32 q) : ((0 ≤ q ∧ q < z.1 1) → Mo m z (f_X9_dualNumerator m q) 0 (nu (-rF z.1 (z.1 0 + q)) (dF z.1)) z ∧ Mo m z (f_X9_dualDenominator m q) 0 (de (-rF z.1 (z.1 0 + q)) (dF z.1)) z) ∧ (¬ (0 ≤ q ∧ q < z.1 1) → Mo m z (f_X9_dualNumerator m q) 1 0 z ∧ Mo m z (f_X9_dualDenominator m q) 1 0 z) := by
  have g := hL.1.1
  refine ⟨fun h => ⟨Mo_s (fun c hM => ?_), Mo_s (fun c hM => ?_)⟩, fun h => ⟨Mo_s (fun c hM => ?_), Mo_s (fun c hM => ?_)⟩⟩ <;> obtain ⟨w, ew, hw⟩ := isC9 hM.1 g hq
  · unfold f_X9_dualNumerator
    rw [ew, cv_s, (tst9 hw _).1 h]
    try dsimp only
    obtain ⟨c1, e1, hQ, hx, hy⟩ := dualOf9 (m := m) hL h (upc c m (updZ (c m) 0 0)) ((tz_q (by omega)).trans hM.1)
    rw [gd_t (by omega), bq_n (by omega), e1, cl_s, hx]
    exact ⟨_, rfl, hQ⟩
  · unfold f_X9_dualDenominator
    rw [ew, cv_s, (tst9 hw _).1 h]
    try dsimp only
    obtain ⟨c1, e1, hQ, hx, hy⟩ := dualOf9 (m := m) hL h (upc c m (updZ (c m) 0 0)) ((tz_q (by omega)).trans hM.1)
    rw [gd_t (by omega), bq_n (by omega), e1, cl_s, hy]
    exact ⟨_, rfl, hQ⟩
  · unfold f_X9_dualNumerator
    rw [ew, cv_s, (tst9 hw _).2 h]
    try dsimp only
    rw [gd_t (by omega), bq_p rfl]
    exact ⟨_, rfl, Qs.rf⟩
  · unfold f_X9_dualDenominator
    rw [ew, cv_s, (tst9 hw _).2 h]
    try dsimp only
    rw [gd_t (by omega), bq_p rfl]
    exact ⟨_, rfl, Qs.rf⟩
/-- the duals' worth, row by row -/
def duS (F : Int → Int) : Nat → Int
  | 0 => 0
  | k + 1 => duS F k + -rF F (F 0 + k) * F (22 + k)
theorem duS_b {F : Int → Int} (g : GdP F) (hN : GdN F) : ∀ k : Nat, (k : Int) ≤ F 1 → -(701502120 * k) ≤ duS F k ∧ duS F k ≤ 701502120 * k
  | 0, _ => by
    show -(701502120 * ((0 : Nat) : Int)) ≤ 0 ∧ (0 : Int) ≤ 701502120 * ((0 : Nat) : Int)
    omega
  | k + 1, h => by
    have g0 := g.1; have g1 := g.2.1
    have ih := duS_b g hN k (by omega)
    have b1 := rF_b g hN (q := F 0 + k) (by omega)
    have b2 := g.2.2.2.2 k (by omega) (by omega)
    have m1 := mbd (x := -rF F (F 0 + k)) (y := F (22 + k)) (A := 7085880) (B := 99) (by omega) (by omega)
    show -(701502120 * ((k + 1 : Nat) : Int)) ≤ duS F k + -rF F (F 0 + k) * F (22 + k) ∧ duS F k + -rF F (F 0 + k) * F (22 + k) ≤ 701502120 * ((k + 1 : Nat) : Int)
    omega
theorem dw8 (hL : LI K z) {c : W0} (hC : CI d z c) : f_X4_dualWorth (d + 1) c = some (duS z.1 (z.1 1).toNat) := by
  have g := hL.1.1
  have g0 := g.1; have g1 := g.2.1
  have e1 : c (d + 1 + 1) 1 = z.1 1 := hC.1.1.2.1
  have L : ∀ (k fuel j : Nat), j + k = (z.1 1).toNat → k + 1 ≤ fuel → f_X4_dualWorth_4 (d + 1) c (fun v1 => some v1) fuel (duS z.1 j) j = some (duS z.1 (z.1 1).toNat) := by
    intro k
    induction k with
    | zero =>
      intro fuel j hj hf
      obtain ⟨f, rfl⟩ : ∃ f, fuel = f + 1 := ⟨fuel - 1, by omega⟩
      obtain rfl : j = (z.1 1).toNat := by omega
      rw [f_X4_dualWorth_4_s]
      unfold b_X4_dualWorth_4
      rw [e1, gd_t (by omega), bq_p (by omega)]
    | succ k ih =>
      intro fuel j hj hf
      obtain ⟨f, rfl⟩ : ∃ f, fuel = f + 1 := ⟨fuel - 1, by omega⟩
      have b2 := g.2.2.2.2 j (by omega) (by omega)
      rw [f_X4_dualWorth_4_s]
      unfold b_X4_dualWorth_4
      rw [e1, gd_t (by omega), bq_n (by omega), dual8 hL hC (by omega), cv_s, bd8 hC.1.1 g (by omega), cv_s, gd_t (by omega)]
      exact ih f (j + 1) (by omega) (by omega)
  unfold f_X4_dualWorth
  exact L (z.1 1).toNat LF 0 (by omega) (by rw [LF_g]; omega)
theorem dualValue9 (hL : LI K z) : Hlds m z (f_X9_dualValue m) (nu (duS z.1 (z.1 1).toNat) (dF z.1)) (de (duS z.1 (z.1 1).toNat) (dF z.1)) := by
  intro c hF
  have g := hL.1.1; have hN := hL.1.2.1.1; have hd := hL.1.2.1.2.1
  have g0 := g.1; have g1 := g.2.1
  have hD := dF_b g hN
  have L : ∀ (k fuel j : Nat) (c0 : W0), j + k = (z.1 1).toNat → k + 1 ≤ fuel → Qs m (P7 m) c c0 → ∃ c2, f_X9_dualValue_7 m (fun v1 v2 c3 => cl (f_X9_becomes m v1 v2 c3) fun _ c4 => some (0, c4)) fuel (nu (duS z.1 j) (dF z.1)) (de (duS z.1 j) (dF z.1)) j c0 = some (0, c2) ∧ Qs m (P7 m) c c2 ∧ c2 m 16 = nu (duS z.1 (z.1 1).toNat) (dF z.1) ∧ c2 m 17 = de (duS z.1 (z.1 1).toNat) (dF z.1) := by
    intro k
    induction k with
    | zero =>
      intro fuel j c0 hj hf hQ
      obtain ⟨f, rfl⟩ : ∃ f, fuel = f + 1 := ⟨fuel - 1, by omega⟩
      obtain rfl : j = (z.1 1).toNat := by omega
      have e1 : c0 (m + 1) = z.1 := (hQ.1 _ (by omega) (by unfold P7; omega)).trans hF
      have bS := duS_b g hN (z.1 1).toNat (by omega)
      obtain ⟨x1, x2, x3⟩ := fr_b hL (n := duS z.1 (z.1 1).toNat) (by omega)
      obtain ⟨n1, n2⟩ := nu_nu (n := duS z.1 (z.1 1).toNat) (e := dF z.1) (by omega)
      rw [f_X9_dualValue_7_s]
      unfold b_X9_dualValue_7
      rw [e1, gd_t (by omega), bq_p (by omega)]
      try dsimp only
      rw [becs x1 x2 (by omega), cl_s]
      exact ⟨_, rfl, hQ.tr Qs.fs, by rw [fs_o, n1], by rw [fs_u, n2]⟩
    | succ k ih =>
      intro fuel j c0 hj hf hQ
      obtain ⟨f, rfl⟩ : ∃ f, fuel = f + 1 := ⟨fuel - 1, by omega⟩
      have e1 : c0 (m + 1) = z.1 := (hQ.1 _ (by omega) (by unfold P7; omega)).trans hF
      have bS := duS_b g hN j (by omega)
      have bA := rF_b g hN (q := z.1 0 + j) (by omega)
      have bB := g.2.2.2.2 j (by omega) (by omega)
      obtain ⟨x1, x2, x3⟩ := fr_b hL (n := duS z.1 j) (by omega)
      obtain ⟨n1, n2⟩ := nu_nu (n := duS z.1 j) (e := dF z.1) (by omega)
      obtain ⟨c1, ec, hQ1, hx, hy⟩ := dualOf9 (m := m) hL (r := j) (by omega) c0 e1
      have e2 : c1 (m + 1) = z.1 := (hQ1.1 _ (by omega) (by unfold P7; omega)).trans e1
      rw [f_X9_dualValue_7_s]
      unfold b_X9_dualValue_7
      rw [e1, gd_t (by omega), bq_n (by omega), ec, cl_s, becs x1 x2 (by omega), cl_s, gd_t (by omega), fs_n (show m + 1 ≠ m by omega), e2, gd_t (by omega), hx, hy, adds (X := duS z.1 j) (D := dF z.1) (by omega) (by omega) (by omega) (by omega) (by rw [fs_o, n1]) (by rw [fs_u, n2]), cl_s, fs_o, fs_u]
      have eS : duS z.1 j + z.1 (22 + j) * -rF z.1 (z.1 0 + j) = duS z.1 (j + 1) := by
        show _ = duS z.1 j + -rF z.1 (z.1 0 + j) * z.1 (22 + j)
        rw [Int.mul_comm (z.1 (22 + j))]
      rw [eS]
      exact ih f (j + 1) _ (by omega) (by omega) (((hQ.tr hQ1).tr Qs.fs).tr Qs.fs)
  unfold f_X9_dualValue
  have hz := nu_0 (D := dF z.1) (by omega)
  have h := L (z.1 1).toNat LF 0 c (by omega) (by rw [LF_g]; omega) Qs.rf
  rw [show duS z.1 0 = 0 from rfl, hz.1, hz.2] at h
  exact h
theorem c8_dualValue (hL : LI K z) {c : W0} (hC : CI d z c) : f_X8_dualValueNumerator d c = some (nu (duS z.1 (z.1 1).toNat) (dF z.1)) ∧ f_X8_dualValueDenominator d c = some (de (duS z.1 (z.1 1).toNat) (dF z.1)) := by
  have g := hL.1.1; have hN := hL.1.2.1.1
  have g1 := g.2.1
  have bS := duS_b g hN (z.1 1).toNat (by omega)
  have h := lw8 hL hC (n := duS z.1 (z.1 1).toNat) (by omega)
  unfold f_X8_dualValueNumerator f_X8_dualValueDenominator
  rw [dw8 hL hC, cv_s, h.1, cv_s, cv_s, h.2, cv_s]
  exact ⟨rfl, rfl⟩
theorem m9_dualValue (hL : LI K z) : Mo m z (f_X9_dualValueNumerator m) 0 (nu (duS z.1 (z.1 1).toNat) (dF z.1)) z ∧ Mo m z (f_X9_dualValueDenominator m) 0 (de (duS z.1 (z.1 1).toNat) (dF z.1)) z := by
  refine ⟨Mo_s (fun c hM => ?_), Mo_s (fun c hM => ?_)⟩ <;> obtain ⟨c1, e1, hQ, hx, hy⟩ := dualValue9 (m := m) hL (upc c m (updZ (c m) 0 0)) ((tz_q (by omega)).trans hM.1)
  · unfold f_X9_dualValueNumerator
    simp only [sto]
    rw [e1, cl_s, hx]
    exact ⟨_, rfl, hQ⟩
  · unfold f_X9_dualValueDenominator
    simp only [sto]
    rw [e1, cl_s, hy]
    exact ⟨_, rfl, hQ⟩
end GH
