section TB
section
variable {S : W0 → Prop} {d : Nat} {z : St} {K : Int}
theorem dz_b (hL : LI K z) : 0 < dF z.1 ∧ dF z.1 ≤ 157464 := by
  have := dF_b hL.1.1 hL.1.2.1.1
  exact ⟨hL.1.2.1.2.1, this.2⟩
theorem giv (hA : SOK d z S) (hL : LI K z) {q : Int} (hq : 0 ≤ q ∧ q < z.1 0 + z.1 1) : CnS S (f_X8_givenNumerator d q) (nu (gS z.1 q) (dF z.1)) ∧ CnS S (f_X8_givenDenominator d q) (de (gS z.1 q) (dF z.1)) := by
  have g := hL.1.1
  have g0 := g.1; have g1 := g.2.1
  obtain ⟨v, hv⟩ := gv_ex hL (q := q)
  have h := (c8_given (d := d) hL (q := q) (by omega) hv).1 hq
  rw [gv_gS g (by have := dz_b hL; omega) hv] at h
  exact ⟨hA.n h.1, hA.n h.2⟩
theorem nu_64 {n D : Int} (hn : -100000000000 ≤ n ∧ n ≤ 100000000000) (hD : 0 < D ∧ D ≤ 157464) : R64 (nu n D) ∧ R64 (de n D) ∧ 0 < de n D ∧ de n D ≤ 157464 ∧ (-100000000000 ≤ nu n D ∧ nu n D ≤ 100000000000) := by
  obtain ⟨-, h, -⟩ := nu_e (n := n) (show D ≠ 0 by omega)
  have h1 := nu_n (n := n) (d := D); have h2 := de_n (n := n) (d := D)
  exact ⟨by omega, by omega, h, by omega, by omega⟩
theorem sumN_b {w : Int → Int} (g : GdP z.1) (hb : GdB z.1) : ∀ l : Nat, (∀ q : Int, 0 ≤ q → q < l → -9 ≤ w q ∧ w q ≤ 9) → -(15588936 * l) ≤ sumN (fun q => w q * gS z.1 q) l ∧ sumN (fun q => w q * gS z.1 q) l ≤ 15588936 * l := by
  intro l
  induction l with
  | zero => intro _; exact ⟨by show -(15588936 * ((0 : Nat) : Int)) ≤ 0; omega, by show (0 : Int) ≤ 15588936 * ((0 : Nat) : Int); omega⟩
  | succ l ih =>
    intro h
    have h1 := ih (fun q a b => h q a (by omega))
    have h2 := gS_0 hb g (l : Int)
    have h3 := mbd (h l (by omega) (by omega)) (show -1732104 ≤ gS z.1 l ∧ gS z.1 l ≤ 1732104 by omega)
    show _ ≤ sumN (fun q => w q * gS z.1 q) l + w l * gS z.1 l ∧ sumN (fun q => w q * gS z.1 q) l + w l * gS z.1 l ≤ _
    omega
/-- the factors of a row: the profits before the first -/
def FacR (F : Int → Int) (p : Int) (w : Int → Int) : Prop := (0 ≤ p → p < F 1 ∧ ∀ q, 0 ≤ q → q < F 0 → w q = F (6 + 4 * p + q)) ∧ (¬ 0 ≤ p → ∀ q, 0 ≤ q → q < F 0 → w q = F (2 + q))
theorem FacR_9 {F : Int → Int} {p : Int} {w : Int → Int} (g : GdP F) (h : FacR F p w) {q : Int} (h0 : 0 ≤ q) (h1 : q < F 0) : -9 ≤ w q ∧ w q ≤ 9 := by
  have g0 := g.1; have g1 := g.2.1
  by_cases hp : 0 ≤ p
  · obtain ⟨a, b⟩ := h.1 hp
    rw [b q h0 h1]
    exact g.2.2.2.1 p q hp (by omega) h0 (by omega)
  · rw [h.2 hp q h0 h1]
    exact g.2.2.1 q h0 (by omega)
theorem sol_32 {T : Option (Int × W0) → Prop} {κ : Int → Int → Int → W0 → Option (Int × W0)} {w : Int → Int} {p : Int} (hw : FacR z.1 p w) (hp : -1 ≤ p ∧ p < 4) (hA : SOK d z S) (hL : LI K z) (hκ : ∀ c1, S c1 → T (κ 1 (nu (sumN (fun q => w q * gS z.1 q) (z.1 0).toNat) (dF z.1)) (de (sumN (fun q => w q * gS z.1 q) (z.1 0).toNat) (dF z.1)) c1)) : ∀ (k fuel l : Nat) (c : W0), l + k = (z.1 0).toNat → k + 1 ≤ fuel → S c → T (f_L_isSolutionSo_32 d (z.1 0) p κ fuel 1 (nu (sumN (fun q => w q * gS z.1 q) l) (dF z.1)) (de (sumN (fun q => w q * gS z.1 q) l) (dF z.1)) l c) := by
  have g := hL.1.1
  have g0 := g.1; have g1 := g.2.1
  have hb := hL.1.2.1
  have hD := dz_b hL
  intro k
  induction k with
  | zero =>
    intro fuel l c hl hf hS
    obtain ⟨f, rfl⟩ : ∃ f, fuel = f + 1 := ⟨fuel - 1, by omega⟩
    obtain rfl : l = (z.1 0).toNat := by omega
    rw [f_L_isSolutionSo_32_s]
    unfold b_L_isSolutionSo_32
    refine st_gd ⟨by omega, by omega⟩ ?_
    refine st_p (by omega) ?_
    exact hκ c hS
  | succ k ih =>
    intro fuel l c hl hf hS
    obtain ⟨f, rfl⟩ : ∃ f, fuel = f + 1 := ⟨fuel - 1, by omega⟩
    have hq : 0 ≤ (l : Int) ∧ (l : Int) < z.1 0 + z.1 1 := ⟨by omega, by omega⟩
    have hw9 := FacR_9 g hw (q := l) (by omega) (by omega)
    have hX := sumN_b g hb l (w := w) (fun q a b => FacR_9 g hw a (by omega))
    have hG := gS_0 hb g (l : Int)
    obtain ⟨hn, hd⟩ := giv hA hL hq
    obtain ⟨gg, e1, e2, e3, e4, e5, e6, e7⟩ := frL hD (X := sumN (fun q => w q * gS z.1 q) l) (by omega) hG hw9
    obtain ⟨n1, n2, n3, n4, n5⟩ := nu_64 (n := gS z.1 l) (by omega) hD
    have hnn := (nu_s (n := gS z.1 l) hD.1).2.1
    have hgo : ∀ c1, S c1 → T ((fun (v2 : Int) (c3 : W0) =>
        cn (f_X8_givenDenominator d l c3) fun v4 c5 =>
        gd (R32 v2) <|
        cn (f_X8_givenNumerator d l c5) fun v6 c7 =>
        cv (f_L_divisor ((nu (sumN (fun q => w q * gS z.1 q) l) (dF z.1) * v4) + ((v2 * v6) * de (sumN (fun q => w q * gS z.1 q) l) (dF z.1))) (de (sumN (fun q => w q * gS z.1 q) l) (dF z.1) * v4)) fun v8 =>
        gd (¬ v8 = 0 ∧ R64 ((nu (sumN (fun q => w q * gS z.1 q) l) (dF z.1) * v4) + ((v2 * v6) * de (sumN (fun q => w q * gS z.1 q) l) (dF z.1))) ∧ R64 v8) <|
        gd (¬ v8 = 0 ∧ R64 (de (sumN (fun q => w q * gS z.1 q) l) (dF z.1) * v4) ∧ R64 v8) <|
        gd (R32 1) <|
        bq ((1 : Int) = 0) (
          f_L_isSolutionSo_32 d (z.1 0) p κ f 0 (Int.tdiv ((nu (sumN (fun q => w q * gS z.1 q) l) (dF z.1) * v4) + ((v2 * v6) * de (sumN (fun q => w q * gS z.1 q) l) (dF z.1))) v8) (Int.tdiv (de (sumN (fun q => w q * gS z.1 q) l) (dF z.1) * v4) v8) (l + 1) c7) (
          cn (f_X8_givenNumerator d l c7) fun v9 c10 =>
          gd (R64 v9) <|
          bq (v9 < 0) (
            f_L_isSolutionSo_32 d (z.1 0) p κ f 0 (Int.tdiv ((nu (sumN (fun q => w q * gS z.1 q) l) (dF z.1) * v4) + ((v2 * v6) * de (sumN (fun q => w q * gS z.1 q) l) (dF z.1))) v8) (Int.tdiv (de (sumN (fun q => w q * gS z.1 q) l) (dF z.1) * v4) v8) (l + 1) c10) (
            gd (R64 v4) <|
            bq (v4 ≤ 0) (
              f_L_isSolutionSo_32 d (z.1 0) p κ f 0 (Int.tdiv ((nu (sumN (fun q => w q * gS z.1 q) l) (dF z.1) * v4) + ((v2 * v6) * de (sumN (fun q => w q * gS z.1 q) l) (dF z.1))) v8) (Int.tdiv (de (sumN (fun q => w q * gS z.1 q) l) (dF z.1) * v4) v8) (l + 1) c10) (
              cn (f_X8_givenNumerator d l c10) fun v11 c12 =>
              cv (f_L_divisor v11 v4) fun v13 =>
              gd (R64 v13) <|
              bq (v13 = 1) (
                f_L_isSolutionSo_32 d (z.1 0) p κ f 1 (Int.tdiv ((nu (sumN (fun q => w q * gS z.1 q) l) (dF z.1) * v4) + ((v2 * v6) * de (sumN (fun q => w q * gS z.1 q) l) (dF z.1))) v8) (Int.tdiv (de (sumN (fun q => w q * gS z.1 q) l) (dF z.1) * v4) v8) (l + 1) c12) (
                f_L_isSolutionSo_32 d (z.1 0) p κ f 0 (Int.tdiv ((nu (sumN (fun q => w q * gS z.1 q) l) (dF z.1) * v4) + ((v2 * v6) * de (sumN (fun q => w q * gS z.1 q) l) (dF z.1))) v8) (Int.tdiv (de (sumN (fun q => w q * gS z.1 q) l) (dF z.1) * v4) v8) (l + 1) c12))))) (w l) c1) := fun c1 hS => by
      refine st_cn hd hS (fun c2 hS => ?_)
      refine st_gd ⟨by omega, by omega⟩ ?_
      refine st_cn hn hS (fun c3 hS => ?_)
      refine st_cv e1 ?_
      refine st_gd ⟨e2, e3, e4⟩ ?_
      refine st_gd ⟨e2, e5, e4⟩ ?_
      refine st_gd (by decide) ?_
      refine st_n (by decide) ?_
      refine st_cn hn hS (fun c4 hS => ?_)
      refine st_gd n1 ?_
      refine st_n (fun q => absurd (hnn.mp q) (by omega)) ?_
      refine st_gd n2 ?_
      refine st_n (by omega) ?_
      refine st_cn hn hS (fun c5 hS => ?_)
      refine st_cv (frG hD (by omega)) ?_
      refine st_gd (by decide) ?_
      refine st_p rfl ?_
      rw [e6, e7]
      exact ih f (l + 1) c5 (by omega) (by omega) hS
    rw [f_L_isSolutionSo_32_s]
    unfold b_L_isSolutionSo_32
    refine st_gd ⟨by omega, by omega⟩ ?_
    refine st_n (by omega) ?_
    refine st_gd ⟨by omega, by omega⟩ ?_
    refine st_j ?_
    by_cases h7 : 0 ≤ p
    · obtain ⟨a, b⟩ := hw.1 h7
      have hc := hA.n ((c8_coefficientOf hL (p := p) (q := l) (by omega) (by omega)).1 ⟨⟨h7, a⟩, by omega, by omega⟩)
      rw [← b l (by omega) (by omega)] at hc
      refine st_p h7 ?_
      exact st_cn hc hS (fun c1 hS => hgo c1 hS)
    · have b := hw.2 h7
      have hc := hA.n ((c8_profitOf hL (p := l) (by omega)).1 ⟨by omega, by omega⟩)
      rw [← b l (by omega) (by omega)] at hc
      refine st_n h7 ?_
      exact st_cn hc hS (fun c1 hS => hgo c1 hS)
theorem slk_e {X G D b : Int} (hD : 0 < D) (h : X + G = D * b) : (b * de X D - nu X D) * de G D = nu G D * de X D := by
  obtain ⟨x1, x2, -⟩ := nu_e (n := X) (show D ≠ 0 by omega)
  obtain ⟨a1, a2, -⟩ := nu_e (n := G) (show D ≠ 0 by omega)
  generalize nu X D = x at *
  generalize de X D = y at *
  generalize nu G D = a at *
  generalize de G D = v at *
  refine Int.eq_of_mul_eq_mul_right (a := D) (by omega) ?_
  have e1 : (b * y - x) * v * D = (D * b - X) * (y * v) := by
    rw [Int.sub_mul, Int.sub_mul, Int.sub_mul, show x * v * D = x * D * v by rw [Int.mul_assoc, Int.mul_comm v D, ← Int.mul_assoc], x1]
    simp only [Int.mul_assoc, Int.mul_comm, Int.mul_left_comm]
  have e2 : a * y * D = G * (y * v) := by
    rw [show a * y * D = a * D * y by rw [Int.mul_assoc, Int.mul_comm y D, ← Int.mul_assoc], a1]
    simp only [Int.mul_assoc, Int.mul_comm, Int.mul_left_comm]
  rw [e1, e2, show D * b - X = G by omega]
theorem sol_15 {T : Option (Int × W0) → Prop} {κ : Int → W0 → Option (Int × W0)} (hA : SOK d z S) (hL : LI K z) (hκ : ∀ c1, S c1 → T (κ 1 c1)) : ∀ (k fuel : Nat) (l : Int) (c : W0), l + k = z.1 1 → -1 ≤ l → k + 1 ≤ fuel → S c → T (f_L_isSolutionSo_15 d (z.1 0) κ fuel 1 l c) := by
  have g := hL.1.1
  have g0 := g.1; have g1 := g.2.1
  have hb := hL.1.2.1
  have hD := dz_b hL
  intro k
  induction k with
  | zero =>
    intro fuel l c hl h0 hf hS
    obtain ⟨f, rfl⟩ : ∃ f, fuel = f + 1 := ⟨fuel - 1, by omega⟩
    rw [f_L_isSolutionSo_15_s]
    unfold b_L_isSolutionSo_15
    refine st_cp (hA.p (fun c => c8_constraints)) hS ?_
    refine st_gd ⟨by omega, by omega⟩ ?_
    refine st_p (by omega) ?_
    exact hκ c hS
  | succ k ih =>
    intro fuel l c hl h0 hf hS
    obtain ⟨f, rfl⟩ : ∃ f, fuel = f + 1 := ⟨fuel - 1, by omega⟩
    rw [f_L_isSolutionSo_15_s]
    unfold b_L_isSolutionSo_15
    refine st_cp (hA.p (fun c => c8_constraints)) hS ?_
    refine st_gd ⟨by omega, by omega⟩ ?_
    refine st_n (by omega) ?_
    have hz := nu_0 (D := dF z.1) (by omega)
    by_cases h7 : 0 ≤ l
    · have hw : FacR z.1 l (fun q => z.1 (6 + 4 * l + q)) := ⟨fun _ => ⟨by omega, fun q _ _ => rfl⟩, fun h => absurd h7 h⟩
      have hX := sumN_b g hb (z.1 0).toNat (w := fun q => z.1 (6 + 4 * l + q)) (fun q a b => FacR_9 g hw a (by omega))
      have hG := gS_0 hb g (z.1 0 + l)
      have hc := con_e g hb.1 (c := l) ⟨h7, by omega⟩
      have hbd := g.2.2.2.2 l h7 (by omega)
      obtain ⟨hn, hd⟩ := giv hA hL (q := z.1 0 + l) ⟨by omega, by omega⟩
      obtain ⟨m1, m2, m3, m4, m5⟩ := nu_64 (n := sumN (fun q => z.1 (6 + 4 * l + q) * gS z.1 q) (z.1 0).toNat) (by omega) hD
      obtain ⟨n1, n2, n3, n4, n5⟩ := nu_64 (n := gS z.1 (z.1 0 + l)) (by omega) hD
      have hnn := (nu_s (n := gS z.1 (z.1 0 + l)) hD.1).2.1
      have hs := slk_e hD.1 hc
      have a1 := mbd (show -99 ≤ z.1 (22 + l) ∧ z.1 (22 + l) ≤ 99 by omega) (show -157464 ≤ de (sumN (fun q => z.1 (6 + 4 * l + q) * gS z.1 q) (z.1 0).toNat) (dF z.1) ∧ de (sumN (fun q => z.1 (6 + 4 * l + q) * gS z.1 q) (z.1 0).toNat) (dF z.1) ≤ 157464 by omega)
      have a2 := mbd n5 (show -157464 ≤ de (sumN (fun q => z.1 (6 + 4 * l + q) * gS z.1 q) (z.1 0).toNat) (dF z.1) ∧ de (sumN (fun q => z.1 (6 + 4 * l + q) * gS z.1 q) (z.1 0).toNat) (dF z.1) ≤ 157464 by omega)
      have e := sol_32 (T := T) (κ := fun v2 v3 v4 c5 =>
        gd (R32 v2) <|
        bq (v2 = 0) (
          f_L_isSolutionSo_15 d (z.1 0) κ f 0 (l + 1) c5) (
          gd (R32 l) <|
          jn (fun (c7 : W0) =>
              f_L_isSolutionSo_15 d (z.1 0) κ f 1 (l + 1) c7) fun k6 =>
          bq (0 ≤ l) (
            cn (f_X8_boundOf d l c5) fun v8 c9 =>
            gd (R32 v8) <|
            cn (f_X8_givenDenominator d (z.1 0 + l) c9) fun v10 c11 =>
            cn (f_X8_givenNumerator d (z.1 0 + l) c11) fun v12 c13 =>
            gd (R64 (((v8 * v4) - v3) * v10) ∧ R64 (v12 * v4)) <|
            bq ((((v8 * v4) - v3) * v10) = (v12 * v4)) (
              cn (f_X8_givenNumerator d (z.1 0 + l) c13) fun v14 c15 =>
              gd (R64 v14) <|
              bq (v14 < 0) (
                f_L_isSolutionSo_15 d (z.1 0) κ f 0 (l + 1) c15) (
                k6 c15)) (
              f_L_isSolutionSo_15 d (z.1 0) κ f 0 (l + 1) c13)) (
            cv (f_X8_valueNumerator d c5) fun v16 =>
            gd (R64 v3 ∧ R64 v16) <|
            bq (v3 = v16) (
              cv (f_X8_valueDenominator d c5) fun v17 =>
              gd (R64 v4 ∧ R64 v17) <|
              bq (v4 = v17) (
                k6 c5) (
                f_L_isSolutionSo_15 d (z.1 0) κ f 0 (l + 1) c5)) (
              f_L_isSolutionSo_15 d (z.1 0) κ f 0 (l + 1) c5)))) hw (by omega) hA hL (fun c1 hS => by
        refine st_gd (by decide) ?_
        refine st_n (by decide) ?_
        refine st_gd ⟨by omega, by omega⟩ ?_
        refine st_j ?_
        refine st_p h7 ?_
        refine st_cn (hA.n ((c8_boundOf hL (by omega)).1 ⟨h7, by omega⟩)) hS (fun c2 hS => ?_)
        refine st_gd ⟨by omega, by omega⟩ ?_
        refine st_cn hd hS (fun c3 hS => ?_)
        refine st_cn hn hS (fun c4 hS => ?_)
        refine st_gd ⟨by rw [hs]; omega, by omega⟩ ?_
        refine st_p hs ?_
        refine st_cn hn hS (fun c5 hS => ?_)
        refine st_gd n1 ?_
        refine st_n (fun q => absurd (hnn.mp q) (by omega)) ?_
        exact ih f (l + 1) c5 (by omega) (by omega) (by omega) hS) (z.1 0).toNat LF 0 c (by omega) (by rw [LF_g]; omega) hS
      rw [show sumN (fun q => z.1 (6 + 4 * l + q) * gS z.1 q) 0 = 0 from rfl, hz.1, hz.2] at e
      exact e
    · obtain rfl : l = -1 := by omega
      have hw : FacR z.1 (-1) (fun q => z.1 (2 + q)) := ⟨fun h => absurd h (by decide), fun _ q _ _ => rfl⟩
      have hX := sumN_b g hb (z.1 0).toNat (w := fun q => z.1 (2 + q)) (fun q a b => FacR_9 g hw a (by omega))
      have hv := val_e g hb.1
      obtain ⟨m1, m2, m3, m4, m5⟩ := nu_64 (n := sumN (fun q => z.1 (2 + q) * gS z.1 q) (z.1 0).toNat) (by omega) hD
      have e := sol_32 (T := T) (κ := fun v2 v3 v4 c5 =>
        gd (R32 v2) <|
        bq (v2 = 0) (
          f_L_isSolutionSo_15 d (z.1 0) κ f 0 (-1 + 1) c5) (
          gd (R32 (-1)) <|
          jn (fun (c7 : W0) =>
              f_L_isSolutionSo_15 d (z.1 0) κ f 1 (-1 + 1) c7) fun k6 =>
          bq (0 ≤ (-1 : Int)) (
            cn (f_X8_boundOf d (-1) c5) fun v8 c9 =>
            gd (R32 v8) <|
            cn (f_X8_givenDenominator d (z.1 0 + -1) c9) fun v10 c11 =>
            cn (f_X8_givenNumerator d (z.1 0 + -1) c11) fun v12 c13 =>
            gd (R64 (((v8 * v4) - v3) * v10) ∧ R64 (v12 * v4)) <|
            bq ((((v8 * v4) - v3) * v10) = (v12 * v4)) (
              cn (f_X8_givenNumerator d (z.1 0 + -1) c13) fun v14 c15 =>
              gd (R64 v14) <|
              bq (v14 < 0) (
                f_L_isSolutionSo_15 d (z.1 0) κ f 0 (-1 + 1) c15) (
                k6 c15)) (
              f_L_isSolutionSo_15 d (z.1 0) κ f 0 (-1 + 1) c13)) (
            cv (f_X8_valueNumerator d c5) fun v16 =>
            gd (R64 v3 ∧ R64 v16) <|
            bq (v3 = v16) (
              cv (f_X8_valueDenominator d c5) fun v17 =>
              gd (R64 v4 ∧ R64 v17) <|
              bq (v4 = v17) (
                k6 c5) (
                f_L_isSolutionSo_15 d (z.1 0) κ f 0 (-1 + 1) c5)) (
              f_L_isSolutionSo_15 d (z.1 0) κ f 0 (-1 + 1) c5)))) hw (by omega) hA hL (fun c1 hS => by
        refine st_gd (by decide) ?_
        refine st_n (by decide) ?_
        refine st_gd (by decide) ?_
        refine st_j ?_
        refine st_n (by decide) ?_
        refine st_cp (hA.p (fun c hC => (c8_value hL hC).1)) hS ?_
        refine st_gd ⟨m1, by rw [← hv]; exact m1⟩ ?_
        refine st_p (by rw [hv]) ?_
        refine st_cp (hA.p (fun c hC => (c8_value hL hC).2)) hS ?_
        refine st_gd ⟨m2, by rw [← hv]; exact m2⟩ ?_
        refine st_p (by rw [hv]) ?_
        exact ih f (-1 + 1) c1 (by omega) (by omega) (by omega) hS) (z.1 0).toNat LF 0 c (by omega) (by rw [LF_g]; omega) hS
      rw [show sumN (fun q => z.1 (2 + q) * gS z.1 q) 0 = 0 from rfl, hz.1, hz.2] at e
      exact e
theorem L_sol (hA : SOK d z S) (hL : LI K z) : ClS S (f_L_isSolutionSo d) 1 := fun c hS => st_end fun T hT => by
  have g := hL.1.1
  have g0 := g.1; have g1 := g.2.1
  have hb := hL.1.2.1
  have hD := dz_b hL
  have hr := rF_b9 g hb.1 (q := z.1 0 + z.1 1) ⟨by omega, by omega⟩
  have hr0 := hb.2.2.2
  obtain ⟨m1, m2, m3, m4, m5⟩ := nu_64 (n := -rF z.1 (z.1 0 + z.1 1)) (by omega) hD
  have hnn := (nu_s (n := -rF z.1 (z.1 0 + z.1 1)) hD.1).2.1
  have hn0 : 0 ≤ nu (-rF z.1 (z.1 0 + z.1 1)) (dF z.1) := by
    by_cases h : nu (-rF z.1 (z.1 0 + z.1 1)) (dF z.1) < 0
    · exact absurd (hnn.mp h) (by omega)
    · omega
  have hnl := nu_n (n := -rF z.1 (z.1 0 + z.1 1)) (d := dF z.1)
  obtain ⟨v1, v2, v3, v4⟩ := vd_s (n := nu (-rF z.1 (z.1 0 + z.1 1)) (dF z.1)) (d := de (-rF z.1 (z.1 0 + z.1 1)) (dF z.1)) ⟨hn0, by omega⟩ ⟨m3, m4⟩
  have hval : ∀ c, CI d z c → f_X8_value d c = some (vdZ (nu (-rF z.1 (z.1 0 + z.1 1)) (dF z.1)) (de (-rF z.1 (z.1 0 + z.1 1)) (dF z.1))) := fun c hC => by
    obtain ⟨w1, w2⟩ := c8_value hL hC
    unfold f_X8_value
    rw [w1, cv_s, w2, cv_s]
    exact gd_t v1
  unfold f_L_isSolutionSo
  refine st_cp (hA.p (fun c => c8_variables)) hS ?_
  refine sol_15 hA hL (fun c1 hS => ?_) (z.1 1 + 1).toNat LF (-1) c (by omega) (by omega) (by rw [LF_g]; omega) hS
  refine st_gd (by decide) ?_
  refine st_n (by decide) ?_
  refine st_cv (hval c1 (hA.1 c1 hS)) ?_
  refine st_cp (hA.p (fun c hC => (c8_value hL hC).1)) hS ?_
  refine st_gd (by rw [v4]; exact v3) ?_
  refine st_cp (hA.p (fun c hC => (c8_value hL hC).2)) hS ?_
  refine st_gd (by rw [v4]; exact v1) ?_
  refine st_p (by
    rw [v4]
    show Op.cmpValue (FP.dcmp (vdZ (nu (-rF z.1 (z.1 0 + z.1 1)) (dF z.1)) (de (-rF z.1 (z.1 0 + z.1 1)) (dF z.1))) (vdZ (nu (-rF z.1 (z.1 0 + z.1 1)) (dF z.1)) (de (-rF z.1 (z.1 0 + z.1 1)) (dF z.1)))) .l = 0
    rw [v2]
    rfl) ?_
  refine st_cp (hA.p (fun c hC => (c8_value hL hC).1)) hS ?_
  refine st_gd m1 ?_
  refine st_n (by omega) ?_
  exact hT c1 hS
end
end TB
