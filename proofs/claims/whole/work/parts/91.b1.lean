section DI
/-! the digest -/
def mx (h v : Int) : Int := 31 * h + v
def mf (h n e : Int) : Int := mx (mx h n) e
def fo (g : Int → Int → Int) : Nat → Int → Int → Int
  | 0, _, h => h
  | k + 1, l, h => fo g k (l + 1) (g l h)
noncomputable def ryV (F : Int → Int) : Int := Classical.epsilon (fstP (rayF F) (F 0 + F 1))
noncomputable def nmV (F : Int → Int) (q : Int) : Int := Classical.epsilon (fstP (fun r => F (27 + r) = q) (F 1))
noncomputable def leV (F : Int → Int) (p : Int) : Int := Classical.epsilon (LeB F p)
noncomputable def grV (F : Int → Int) (p : Int) : Int := Classical.epsilon (GrB F p)
noncomputable def dg1 (F : Int → Int) (h : Int) : Int := mx (mx (mx (mx (mx (mx (mx (mx h (F 0)) (F 1)) (F 26)) (pick (bestF F) 1 0)) (if ryV F < 0 then 0 else 1)) (F 31)) (F 32)) (F 33)
def wN (F : Int → Int) : Int := nu (-rF F (F 0 + F 1)) (dF F)
def wE (F : Int → Int) : Int := de (-rF F (F 0 + F 1)) (dF F)
noncomputable def dg2 (F : Int → Int) (h : Int) : Int := mx (mx (mx (mx (mf (mf h (wN F) (wE F)) (nu (duS F (F 1).toNat) (dF F)) (de (duS F (F 1).toNat) (dF F))) (svS F (2 ^ NF F)).1) (svS F (2 ^ NF F)).2.1) (svS F (2 ^ NF F)).2.2.2.2.1) (svS F (2 ^ NF F)).2.2.2.2.2
def gP (F : Int → Int) (l h : Int) : Int := mx h (F (2 + l))
def gK (F : Int → Int) (r l h : Int) : Int := mx h (F (6 + 4 * r + l))
def duN (F : Int → Int) (r : Int) : Int := nu (-rF F (F 0 + r)) (dF F)
def duE (F : Int → Int) (r : Int) : Int := de (-rF F (F 0 + r)) (dF F)
noncomputable def gC (F : Int → Int) (r h : Int) : Int := mx (mx (mf (mf (mx (fo (gK F r) (F 0).toNat 0 h) (F (22 + r))) (duN F r) (duE F r)) (duN F r) (duE F r)) (leV F r)) (grV F r)
noncomputable def gQ (F : Int → Int) (q h : Int) : Int := mf (mf (mx h (if nmV F q < 0 then 0 else 1)) (nu (rF F q) (dF F)) (de (rF F q) (dF F))) (nu (gvF F (nmV F q)) (dF F)) (de (gvF F (nmV F q)) (dF F))
def gE (F : Int → Int) (r q h : Int) : Int := mf h (nu (tF F r q) (dF F)) (de (tF F r q) (dF F))
def gR (F : Int → Int) (r h : Int) : Int := fo (gE F r) (NF F) 0 (mx h (F (27 + r)))
noncomputable def dg7 (F : Int → Int) (h : Int) : Int := if ryV F < 0 then bq (bestF F) h (mx (mx h (chV F)) (lrV F (chV F))) else mx h (ryV F)
def btP (F : Int → Int) (b : Int) : Prop := f_X8_bitsOf (vdZ (wN F) (wE F)) = some b ∧ f_X9_bitsOf (vdZ (wN F) (wE F)) = some b
noncomputable def btV (F : Int → Int) : Int := Classical.epsilon (btP F)
def gBu (B : Int → Int) (l h : Int) : Int := mx h (B l)
noncomputable def dgZ (z : St) : Int := fo (gBu z.2.2.2.2.2.2) z.2.2.2.2.2.1.toNat 0 (mx (mx (dg7 z.1 (fo (gR z.1) (z.1 1).toNat 0 (fo (gQ z.1) (NF z.1) 0 (fo (gC z.1) (z.1 1).toNat 0 (fo (gP z.1) (z.1 0).toNat 0 (mx (mx (dg2 z.1 (dg1 z.1 4339)) (slF 40 z.1).1) z.2.1)))))) (btV z.1)) z.2.2.2.2.2.1)
theorem fo_s {g : Int → Int → Int} {k : Nat} {l h : Int} : fo g (k + 1) l h = fo g k (l + 1) (g l h) := rfl
section
variable {d m : Nat} {z : St} {K : Int} {c : W0} {h : Int}
theorem ry_e (hL : LI K z) : fstP (rayF z.1) (z.1 0 + z.1 1) (ryV z.1) := Classical.epsilon_spec (ray_ex hL)
theorem nmq_e (hL : LI K z) (q : Int) : fstP (fun r => z.1 (27 + r) = q) (z.1 1) (nmV z.1 q) := Classical.epsilon_spec (gv_ex hL (q := q))
theorem le_e (hL : LI K z) {p : Int} (hp : 0 ≤ p ∧ p < z.1 1) : LeB z.1 p (leV z.1 p) := Classical.epsilon_spec (le_ex hL.1.1 hL.1.2.1 hp)
theorem gr_e (hL : LI K z) {p : Int} (hp : 0 ≤ p ∧ p < z.1 1) : GrB z.1 p (grV z.1 p) := Classical.epsilon_spec (gr_ex hL.1.1 hL.1.2.1 hp)
theorem wN_r (hL : LI K z) : (0 ≤ wN z.1 ∧ wN z.1 < 100000000) ∧ 0 < wE z.1 ∧ wE z.1 ≤ 157464 := by
  have g := hL.1.1; have g0 := g.1; have g1 := g.2.1
  have hd := hL.1.2.1.2.1
  have hr := hL.1.2.1.2.2.2
  have b := rF_b9 g hL.1.2.1.1 (q := z.1 0 + z.1 1) (by omega)
  have db := dF_b g hL.1.2.1.1
  have n1 := nu_n (n := -rF z.1 (z.1 0 + z.1 1)) (d := dF z.1)
  have n2 := de_n (n := -rF z.1 (z.1 0 + z.1 1)) (d := dF z.1)
  have n3 := (nu_e (n := -rF z.1 (z.1 0 + z.1 1)) (show dF z.1 ≠ 0 by omega)).2.1
  have n4 := (nu_s (n := -rF z.1 (z.1 0 + z.1 1)) hd).2.1
  unfold wN wE
  omega
theorem bt_e (hL : LI K z) : vf_n64 (vdZ (wN z.1) (wE z.1)) ∧ FP.dcmp (vdZ (wN z.1) (wE z.1)) (vdZ (wN z.1) (wE z.1)) = some .eq ∧ btP z.1 (btV z.1) := by
  obtain ⟨h1, h2⟩ := wN_r hL
  obtain ⟨a1, a2, b, a3⟩ := vd_s h1 h2
  exact ⟨a1, a2, Classical.epsilon_spec (p := btP z.1) ⟨b, a3⟩⟩
theorem fstP_r {P : Int → Prop} {n v : Int} (hn : 0 ≤ n) (h : fstP P n v) : -1 ≤ v ∧ (v < n ∨ v = -1) ∧ (v < 0 → v = -1) := by
  rcases h with ⟨h, -⟩ | ⟨h1, h2, -⟩ <;> omega
/-! the class -/
theorem mx8 {a b : Int} : f_X8_mix a b = some (mx a b) := rfl
theorem mt8 {a v : Int} (hv : v = 0 ∨ v = 1) : f_X8_mixTruth a v = some (mx a v) := by
  unfold f_X8_mixTruth
  rw [gd_t (by omega)]
  rcases hv with rfl | rfl
  · rw [bq_p rfl, mx8, cv_s]
  · rw [bq_n (by omega), mx8, cv_s]
theorem mf8 {a n e D x y : Int} (h1 : f_X8_lowNumerator n D = some x) (h2 : f_X8_lowDenominator n D = some y) : f_X8_mixFraction a n D = some (mf a x y) := by
  unfold f_X8_mixFraction
  rw [h1, cv_s, mx8, cv_s, h2, cv_s, mx8, cv_s]
  rfl
theorem pick01 {P : Prop} : pick P 1 0 = 0 ∨ pick P 1 0 = 1 := by
  by_cases h : P
  · rw [pick_t h]; exact Or.inr rfl
  · rw [pick_f h]; exact Or.inl rfl
theorem if01 {v : Int} : (if v < 0 then (0 : Int) else 1) = 0 ∨ (if v < 0 then (0 : Int) else 1) = 1 := by split <;> omega
theorem counts8 (hL : LI K z) (hK : K ≤ 1000000) (hC : CI d z c) : f_X8_mixCounts d h c = some (dg1 z.1 h) := by
  have g := hL.1; have g0 := g.1.1; have g1 := g.1.2.1
  obtain ⟨-, -, g26, g31, g32, g33⟩ := g
  have e0 : c (d + 2) 0 = z.1 0 := hC.1.1.1
  have e1 : c (d + 2) 1 = z.1 1 := hC.1.1.2.1
  obtain ⟨-, -, e2, e3, e4, e5⟩ := hC.1
  unfold f_X8_mixCounts
  rw [e0, gd_t (by omega), mx8, cv_s, e1, gd_t (by omega), mx8, cv_s, e2, gd_t (by omega), mx8, cv_s, c8_isOptimal hL hC, cv_s, mt8 pick01, cv_s, c8_hasRay hL (ry_e hL) hC, cv_s, mt8 if01, cv_s, e3, gd_t (by omega), mx8, cv_s, e4, gd_t (by omega), mx8, cv_s, e5, gd_t (by omega), mx8, cv_s]
  rfl
theorem values8 (hL : LI K z) (hC : CI d z c) : ∃ c1, f_X8_mixValues d h c = some (dg2 z.1 h, c1) ∧ FrD d c c1 ∧ CI d z c1 := by
  have g := hL.1.1; have g0 := g.1; have g1 := g.2.1
  have hN := hL.1.2.1.1
  have b1 := rF_b9 g hN (q := z.1 0 + z.1 1) (by omega)
  have b2 := duS_b g hN (z.1 1).toNat (by omega)
  obtain ⟨l1, l2⟩ := lw8 hL hC (n := -rF z.1 (z.1 0 + z.1 1)) (by omega)
  obtain ⟨l3, l4⟩ := lw8 hL hC (n := duS z.1 (z.1 1).toNat) (by omega)
  obtain ⟨c1, e1, hF, hR⟩ := look8 (v := d + 45) (p := d + 2) (by omega) g hC.1.1
  have hsv := svS_1 g
  have hsg := svS_g g (2 ^ NF z.1)
  have h9 := NF_e g
  have hsn := svS_n g (2 ^ NF z.1) (Nat.le_refl _)
  have hch := chN_m (m := z.1 1) (u := 2 ^ NF z.1) (256 - 2 ^ NF z.1)
  have h256 : 2 ^ NF z.1 ≤ 256 := tw_d ⟨NF z.1, by omega⟩
  rw [show 2 ^ NF z.1 + (256 - 2 ^ NF z.1) = 256 by omega] at hch
  have h70 : chN ((z.1 1).toNat : Int) 256 ≤ 70 := ch_d ⟨(z.1 1).toNat, by omega⟩
  rw [show (((z.1 1).toNat : Nat) : Int) = z.1 1 by omega] at h70
  have hs0 := hsg.1; have hs1 := hsg.2.1
  obtain ⟨r4, r5⟩ := hR.2.2.2 (by omega)
  have hw := worth8 (t := d + 5) hC.1.2.1 g
  unfold f_X8_mixValues
  rw [hw, cv_s, mf8 (e := 0) l1 l2, cv_s, dw8 hL hC, cv_s, mf8 (e := 0) l3 l4, cv_s, e1, cl_s, hR.1, gd_t (by omega), mx8, cv_s, hR.2.1, gd_t (by omega), mx8, cv_s, r4, mx8, cv_s, r5, mx8, cv_s]
  exact ⟨c1, rfl, CI_s hC hF⟩
theorem least8 (hL : LI K z) (hC : CI d z c) {p : Int} (hp : 0 ≤ p ∧ p < z.1 1) : f_X8_leastBound d p c = some (0, leV z.1 p, c) := by
  have g := hL.1.1; have g0 := g.1; have g1 := g.2.1
  have b := g.2.2.2.2 p hp.1 (by omega)
  have e0 : c (d + 1 + 1) 0 = z.1 0 := hC.1.1.1
  obtain ⟨R, eR, hR, hx⟩ := room8 hC.1.2.1 g hL.1.2.1 (q := z.1 0 + p) (e := 1) (by omega) (Or.inl rfl)
  unfold f_X8_leastBound
  rw [(rqC8 hC.1.1 g (by omega) _).1 hp]
  try dsimp only
  rw [bd8 hC.1.1 g hp, cv_s]
  unfold f_X4_roomToFall
  rw [e0, eR, cv_s, cv_s, gd_t (by omega), LeB_u (fall8 hL hp hR hx) (le_e hL hp)]
theorem great8 (hL : LI K z) (hC : CI d z c) {p : Int} (hp : 0 ≤ p ∧ p < z.1 1) : f_X8_greatestBound d p c = some (0, grV z.1 p, c) := by
  have g := hL.1.1; have g0 := g.1; have g1 := g.2.1
  have b := g.2.2.2.2 p hp.1 (by omega)
  have e0 : c (d + 1 + 1) 0 = z.1 0 := hC.1.1.1
  obtain ⟨R, eR, hR, hx⟩ := room8 hC.1.2.1 g hL.1.2.1 (q := z.1 0 + p) (e := -1) (by omega) (Or.inr rfl)
  unfold f_X8_greatestBound
  rw [(rqC8 hC.1.1 g (by omega) _).1 hp]
  try dsimp only
  rw [bd8 hC.1.1 g hp, cv_s]
  unfold f_X4_roomToRise
  rw [e0, eR, cv_s, cv_s, gd_t (by omega), GrB_u (rise8 hL hp hR hx) (gr_e hL hp)]
theorem mixP5 (hL : LI K z) (hC : CI d z c) (κ : Int → Option (Int × W0)) : ∀ (k fuel : Nat) (l h : Int), l + k = z.1 0 → 0 ≤ l → k + 1 ≤ fuel → f_X8_mixProblem_5 d c κ fuel h l = κ (fo (gP z.1) k l h) := by
  have g := hL.1.1; have g0 := g.1
  have e0 : c (d + 2) 0 = z.1 0 := hC.1.1.1
  intro k
  induction k with
  | zero =>
    intro fuel l h hl h0 hf
    obtain ⟨f, rfl⟩ : ∃ f, fuel = f + 1 := ⟨fuel - 1, by omega⟩
    rw [f_X8_mixProblem_5_s]
    unfold b_X8_mixProblem_5
    rw [e0, gd_t (by omega), bq_p (by omega)]
    rfl
  | succ k ih =>
    intro fuel l h hl h0 hf
    obtain ⟨f, rfl⟩ : ∃ f, fuel = f + 1 := ⟨fuel - 1, by omega⟩
    have hv := g.2.2.1 l h0 (by omega)
    have ep : f_X2_profit (d + 2) l c = some (z.1 (2 + l)) := by
      unfold f_X2_profit
      rw [gd_t (by omega)]
      exact congrArg some (hC.1.1.2.2.2.1 l h0 (by omega))
    rw [f_X8_mixProblem_5_s]
    unfold b_X8_mixProblem_5
    rw [e0, gd_t (by omega), bq_n (by omega), ep, cv_s, gd_t (by omega), mx8, cv_s, ih f (l + 1) _ (by omega) (by omega) (by omega)]
    rfl
theorem mixP77 (hL : LI K z) (hC : CI d z c) {r : Int} (hr : 0 ≤ r ∧ r < z.1 1) (κ : Int → Option (Int × W0)) : ∀ (k fuel : Nat) (l h : Int), l + k = z.1 0 → 0 ≤ l → k + 1 ≤ fuel → f_X8_mixProblem_77 d r c κ fuel h l = κ (fo (gK z.1 r) k l h) := by
  have g := hL.1.1; have g0 := g.1; have g1 := g.2.1
  have e0 : c (d + 2) 0 = z.1 0 := hC.1.1.1
  intro k
  induction k with
  | zero =>
    intro fuel l h hl h0 hf
    obtain ⟨f, rfl⟩ : ∃ f, fuel = f + 1 := ⟨fuel - 1, by omega⟩
    rw [f_X8_mixProblem_77_s]
    unfold b_X8_mixProblem_77
    rw [e0, gd_t (by omega), bq_p (by omega)]
    rfl
  | succ k ih =>
    intro fuel l h hl h0 hf
    obtain ⟨f, rfl⟩ : ∃ f, fuel = f + 1 := ⟨fuel - 1, by omega⟩
    have hv := g.2.2.2.1 r l hr.1 (by omega) h0 (by omega)
    have ep : f_X2_coefficient (d + 2) r l c = some (z.1 (6 + 4 * r + l)) := by
      unfold f_X2_coefficient
      rw [gd_t (by omega)]
      exact congrArg some (hC.1.1.2.2.1 r l hr.1 hr.2 h0 (by omega))
    rw [f_X8_mixProblem_77_s]
    unfold b_X8_mixProblem_77
    rw [e0, gd_t (by omega), bq_n (by omega), ep, cv_s, gd_t (by omega), mx8, cv_s, ih f (l + 1) _ (by omega) (by omega) (by omega)]
    rfl
theorem mixProblem8 (hL : LI K z) (hC : CI d z c) : ∃ c1, f_X8_mixProblem d h c = some (fo (gC z.1) (z.1 1).toNat 0 (fo (gP z.1) (z.1 0).toNat 0 h), c1) ∧ FrD d c c1 ∧ CI d z c1 := by
  have g := hL.1.1; have g0 := g.1; have g1 := g.2.1
  have hN := hL.1.2.1.1; have hd := hL.1.2.1.2.1
  obtain ⟨c3, C, s, e3, hF3, h30, hE, hQ⟩ := sd8 (d := d) hC.1.1 hC.1.2.1 g hN (by omega)
  have hC3 : CI d z c3 := CI_f2 hC (fun y a b _ => hF3 y (by unfold ES; omega))
  have H := dEq g hN
  have e1 : c3 (d + 2) 1 = z.1 1 := hC3.1.1.2.1
  have L : ∀ (k fuel : Nat) (l h : Int), l + k = z.1 1 → 0 ≤ l → k + 1 ≤ fuel → f_X8_mixProblem_59 d (fun v4 c5 => some (v4, c5)) fuel h l c3 = some (fo (gC z.1) k l h, c3) := by
    intro k
    induction k with
    | zero =>
      intro fuel l h hl h0 hf
      obtain ⟨f, rfl⟩ : ∃ f, fuel = f + 1 := ⟨fuel - 1, by omega⟩
      rw [f_X8_mixProblem_59_s]
      unfold b_X8_mixProblem_59
      rw [e1, gd_t (by omega), bq_p (by omega)]
      rfl
    | succ k ih =>
      intro fuel l h hl h0 hf
      obtain ⟨f, rfl⟩ : ∃ f, fuel = f + 1 := ⟨fuel - 1, by omega⟩
      have hl1 : 0 ≤ l ∧ l < z.1 1 := ⟨h0, by omega⟩
      have hb := g.2.2.2.2 l h0 (by omega)
      have b1 := eq_b H hE (by omega) (r := l) (q := z.1 1) hl1 ⟨g1.1, by omega⟩
      have b2 := det_b (Elm_9 hE H.2.2.1 (by omega))
      have ha := d_ans g hE hl1
      rw [Aq_m] at b1
      have hx := hQ.2.2 l (z.1 1) hl1.1 hl1.2 g1.1 (by omega)
      rw [Aq_m] at hx
      have hnu := nu_u (n := tt C (dr z.1) (s l)) (d := det4 C) (n' := -rF z.1 (z.1 0 + l)) (d' := dF z.1) hE.2.1 (by omega) (by rw [Int.mul_comm, ha, Int.mul_comm])
      have eu : f_X0_unknown (d + 42) l c3 = some (tt C (dr z.1) (s l)) := by
        unfold f_X0_unknown
        rw [h30, gd_t (by omega)]
        exact congrArg some hx
      have q1 : f_X8_lowNumerator (tt C (dr z.1) (s l)) (c3 (d + 42) 1) = some (duN z.1 l) := by
        rw [hQ.2.1, lowN (by omega) (by omega) hE.2.1, hnu.1]; rfl
      have q2 : f_X8_lowDenominator (tt C (dr z.1) (s l)) (c3 (d + 42) 1) = some (duE z.1 l) := by
        rw [hQ.2.1, lowD (by omega) (by omega) hE.2.1, hnu.2]; rfl
      have rb := rF_b g hN (q := z.1 0 + l) (by omega)
      obtain ⟨l3, l4⟩ := lw8 hL hC3 (n := -rF z.1 (z.1 0 + l)) (by omega)
      have w1 := (le_e hL hl1).1; have w2 := (gr_e hL hl1).1
      have ebd : f_X2_bound (d + 2) l c3 = some (z.1 (22 + l)) := bd8 (p := d + 2) hC3.1.1 g hl1
      rw [f_X8_mixProblem_59_s]
      unfold b_X8_mixProblem_59
      rw [e1, gd_t (by omega), bq_n (by omega), mixP77 hL hC3 hl1 _ (z.1 0).toNat LF 0 h (by omega) (by omega) (by rw [LF_g]; omega)]
      try dsimp only
      rw [ebd, cv_s, gd_t (by omega), mx8, cv_s, dual8 hL hC3 hl1, cv_s, mf8 (e := 0) l3 l4, cv_s, eu, cv_s, mf8 (e := 0) q1 q2, cv_s, least8 hL hC3 hl1, cn_s, gd_t (by omega), mx8, cv_s, great8 hL hC3 hl1, cn_s, gd_t (by omega), mx8, cv_s, ih f (l + 1) _ (by omega) (by omega) (by omega)]
      rfl
  unfold f_X8_mixProblem
  rw [mixP5 hL hC _ (z.1 0).toNat LF 0 h (by omega) (by omega) (by rw [LF_g]; omega)]
  try dsimp only
  rw [e3, cl_s, L (z.1 1).toNat 5 0 _ (by omega) (by omega) (by omega)]
  exact ⟨c3, rfl, fun y hy => hF3 y (by unfold ES; omega), hC3⟩
theorem mixColumns8 (hL : LI K z) (hC : CI d z c) : f_X8_mixColumns d h c = some (fo (gQ z.1) (NF z.1) 0 h) := by
  have g := hL.1.1; have g0 := g.1; have g1 := g.2.1
  have hN := hL.1.2.1.1
  have h9 := NF_e g
  have hT : RepT (d + 5) z.1 c := hC.1.2.1
  have L : ∀ (k fuel : Nat) (l h : Int), l + k = z.1 0 + z.1 1 → 0 ≤ l → k + 1 ≤ fuel → f_X8_mixColumns_5 d c (fun v1 => some v1) fuel h l = some (fo (gQ z.1) k l h) := by
    intro k
    induction k with
    | zero =>
      intro fuel l h hl h0 hf
      obtain ⟨f, rfl⟩ : ∃ f, fuel = f + 1 := ⟨fuel - 1, by omega⟩
      rw [f_X8_mixColumns_5_s]
      unfold b_X8_mixColumns_5
      rw [hT.2.1, gd_t (by omega), bq_p (by omega)]
      rfl
    | succ k ih =>
      intro fuel l h hl h0 hf
      obtain ⟨f, rfl⟩ : ∃ f, fuel = f + 1 := ⟨fuel - 1, by omega⟩
      have hl1 : 0 ≤ l ∧ l < z.1 0 + z.1 1 := ⟨h0, by omega⟩
      obtain ⟨v, ev, hv⟩ := rowNaming8 hT g hN (z := l) (by omega)
      obtain ⟨v', ev', hv'⟩ := given8 hT g hN (z := l) (by omega)
      have u1 : v = nmV z.1 l := fstP_u hv (nmq_e hL l) (fun _ _ _ => Iff.rfl)
      have u2 : v' = nmV z.1 l := fstP_u hv' (nmq_e hL l) (fun _ _ _ => Iff.rfl)
      have hnr := fstP_r g1.1 (nmq_e hL l)
      rw [u1] at ev
      rw [u2] at ev'
      have rb := rF_b g hN hl1
      have gb := gv_b g hN (v := nmV z.1 l) (by omega)
      obtain ⟨l1, l2⟩ := lw8 hL hC (n := rF z.1 l) (by omega)
      obtain ⟨l3, l4⟩ := lw8 hL hC (n := gvF z.1 (nmV z.1 l)) (by omega)
      have er := reduced8 hT g hl1
      have eg : f_X6_given (d + 5) l c = some (gvF z.1 (nmV z.1 l)) := ev'
      have key : ∀ t : Int, (t = 0 ∨ t = 1) → t = (if nmV z.1 l < 0 then 0 else 1) → (cv (f_X8_mixTruth h t) fun v4 => cv (f_X6_reduced (d + 5) l c) fun v5 => cv (f_X8_mixFraction v4 v5 (c (d + 5) 2)) fun v6 => cv (f_X6_given (d + 5) l c) fun v7 => cv (f_X8_mixFraction v6 v7 (c (d + 5) 2)) fun v8 => f_X8_mixColumns_5 d c (fun v1 => some v1) f v8 (l + 1)) = some (fo (gQ z.1) (k + 1) l h) := fun t ht e => by
        rw [mt8 ht, cv_s, er, cv_s, mf8 (e := 0) l1 l2, cv_s, eg, cv_s, mf8 (e := 0) l3 l4, cv_s, ih f (l + 1) _ (by omega) (by omega) (by omega), fo_s, e]
        rfl
      rw [f_X8_mixColumns_5_s]
      unfold b_X8_mixColumns_5
      rw [hT.2.1, gd_t (by omega), bq_n (by omega), ev, cv_s, gd_t (by omega), jn_e]
      by_cases y : nmV z.1 l < 0
      · rw [bq_p y]
        exact key 0 (Or.inl rfl) (by rw [if_pos y])
      · rw [bq_n y]
        exact key 1 (Or.inr rfl) (by rw [if_neg y])
  unfold f_X8_mixColumns
  exact L (NF z.1) LF 0 h (by omega) (by omega) (by rw [LF_g]; omega)
theorem mixRows8 (hL : LI K z) (hC : CI d z c) : f_X8_mixRows d h c = some (fo (gR z.1) (z.1 1).toNat 0 h) := by
  have g := hL.1.1; have g0 := g.1; have g1 := g.2.1
  have hN := hL.1.2.1.1
  have h9 := NF_e g
  have hT : RepT (d + 5) z.1 c := hC.1.2.1
  have L2 : ∀ (r : Int) (κ : Int → Option Int), (0 ≤ r ∧ r < z.1 1) → ∀ (k fuel : Nat) (l h : Int), l + k = z.1 0 + z.1 1 → 0 ≤ l → k + 1 ≤ fuel → f_X8_mixRows_41 d r c κ fuel h l = κ (fo (gE z.1 r) k l h) := by
    intro r κ hr k
    induction k with
    | zero =>
      intro fuel l h hl h0 hf
      obtain ⟨f, rfl⟩ : ∃ f, fuel = f + 1 := ⟨fuel - 1, by omega⟩
      rw [f_X8_mixRows_41_s]
      unfold b_X8_mixRows_41
      rw [hT.2.1, gd_t (by omega), bq_p (by omega)]
      rfl
    | succ k ih =>
      intro fuel l h hl h0 hf
      obtain ⟨f, rfl⟩ : ∃ f, fuel = f + 1 := ⟨fuel - 1, by omega⟩
      have hl1 : 0 ≤ l ∧ l < z.1 0 + z.1 1 := ⟨h0, by omega⟩
      have tb := tF_b g hN (r := r) (q := l) (by omega) hl1
      obtain ⟨l1, l2⟩ := lw8 hL hC (n := tF z.1 r l) (by omega)
      rw [f_X8_mixRows_41_s]
      unfold b_X8_mixRows_41
      rw [hT.2.1, gd_t (by omega), bq_n (by omega), entry8 hT g hr hl1, cv_s, mf8 (e := 0) l1 l2, cv_s, ih f (l + 1) _ (by omega) (by omega) (by omega)]
      rfl
  have L : ∀ (k fuel : Nat) (l h : Int), l + k = z.1 1 → 0 ≤ l → k + 1 ≤ fuel → f_X8_mixRows_5 d c (fun v1 => some v1) fuel h l = some (fo (gR z.1) k l h) := by
    intro k
    induction k with
    | zero =>
      intro fuel l h hl h0 hf
      obtain ⟨f, rfl⟩ : ∃ f, fuel = f + 1 := ⟨fuel - 1, by omega⟩
      rw [f_X8_mixRows_5_s]
      unfold b_X8_mixRows_5
      rw [hT.1, gd_t (by omega), bq_p (by omega)]
      rfl
    | succ k ih =>
      intro fuel l h hl h0 hf
      obtain ⟨f, rfl⟩ : ∃ f, fuel = f + 1 := ⟨fuel - 1, by omega⟩
      have hl1 : 0 ≤ l ∧ l < z.1 1 := ⟨h0, by omega⟩
      have hn := hN l h0 hl1.2
      rw [f_X8_mixRows_5_s]
      unfold b_X8_mixRows_5
      rw [hT.1, gd_t (by omega), bq_n (by omega), namedBy8 hT g hl1, cv_s, gd_t (by omega), mx8, cv_s, L2 l _ hl1 (NF z.1) LF 0 _ (by omega) (by omega) (by rw [LF_g]; omega)]
      try dsimp only
      rw [ih f (l + 1) _ (by omega) (by omega) (by omega)]
      rfl
  unfold f_X8_mixRows
  exact L (z.1 1).toNat LF 0 h (by omega) (by omega) (by rw [LF_g]; omega)
theorem opn_i (hL : LI K z) (h1 : ryV z.1 < 0) (h2 : ¬ bestF z.1) : opn z.1 := by
  refine ⟨h2, ?_⟩
  rcases ry_e hL with ⟨-, h⟩ | ⟨h, -⟩
  · exact h
  · omega
theorem mixNext8 (hL : LI K z) (hC : CI d z c) : f_X8_mixNext d h c = some (dg7 z.1 h) := by
  have g := hL.1.1; have g0 := g.1; have g1 := g.2.1
  have hr := fstP_r (by omega) (ry_e hL)
  unfold f_X8_mixNext dg7
  rw [c8_hasRay hL (ry_e hL) hC, cv_s]
  by_cases y : ryV z.1 < 0
  · rw [if_pos y, if_pos y, gd_t (by omega), bq_p rfl, c8_isOptimal hL hC, cv_s]
    by_cases w : bestF z.1
    · rw [pick_t w, gd_t (by omega), bq_n (by omega), bq_p w]
    · have ho := opn_i hL y w
      have hch := lrI_r (pos := chP z.1) (bt := chB z.1) (j := z.1 0 + z.1 1) (by omega)
      have hcn := lrI_n (pos := chP z.1) (bt := chB z.1) (j := z.1 0 + z.1 1) (by omega)
      have hc1 : 0 ≤ chV z.1 ∧ chV z.1 < z.1 0 + z.1 1 := by
        rcases hch with e | e
        · exact absurd (hcn.mp (by omega)) w
        · exact ⟨e.1, e.2.1⟩
      have hlr := lrV_r g (chV z.1)
      rw [pick_f w, gd_t (by omega), bq_p rfl, chs8 hL hC ho, cv_s, gd_t (by omega), mx8, cv_s, leastRow8 (t := d + 5) hC.1.2.1 g hL.1.2.1.1 hc1, cv_s, gd_t (by omega), mx8, cv_s, bq_n w]
  · rw [if_neg y, if_neg y, gd_t (by omega), bq_n (by omega), open8 hL (ry_e hL) hC, cv_s, gd_t (by omega), mx8, cv_s]
theorem mixBuffer8 (hL : LI K z) (hC : CI d z c) : f_X8_mixBuffer d h c = some (fo (gBu z.2.2.2.2.2.2) z.2.2.2.2.2.1.toNat 0 (mx h z.2.2.2.2.2.1)) := by
  obtain ⟨t1, t2⟩ := Tx_z hL
  have e0 := hC.2.2.2.1; have e1 := hC.2.2.2.2
  have L : ∀ (k fuel : Nat) (l h : Int), l + k = z.2.2.2.2.2.1 → 0 ≤ l → k + 1 ≤ fuel → f_X8_mixBuffer_16 d c (fun v1 => some v1) fuel h l = some (fo (gBu z.2.2.2.2.2.2) k l h) := by
    intro k
    induction k with
    | zero =>
      intro fuel l h hl h0 hf
      obtain ⟨f, rfl⟩ : ∃ f, fuel = f + 1 := ⟨fuel - 1, by omega⟩
      rw [f_X8_mixBuffer_16_s]
      unfold b_X8_mixBuffer_16
      rw [e0, gd_t (by omega), bq_p (by omega)]
      rfl
    | succ k ih =>
      intro fuel l h hl h0 hf
      obtain ⟨f, rfl⟩ : ∃ f, fuel = f + 1 := ⟨fuel - 1, by omega⟩
      have hb := t2 l h0 (by omega)
      have ec : f_X7_codeAt (d + 29) l c = some (z.2.2.2.2.2.2 l) := by
        unfold f_X7_codeAt
        rw [gd_t (by omega)]
        exact congrArg some (e1 l h0 (by omega))
      rw [f_X8_mixBuffer_16_s]
      unfold b_X8_mixBuffer_16
      rw [e0, gd_t (by omega), bq_n (by omega), ec, cv_s, gd_t (by omega), mx8, cv_s, ih f (l + 1) _ (by omega) (by omega) (by omega)]
      rfl
  unfold f_X8_mixBuffer
  rw [e0, gd_t (by omega), mx8, cv_s]
  exact L z.2.2.2.2.2.1.toNat LF 0 _ (by omega) (by omega) (by rw [LF_g]; omega)
theorem c8_dvalue (hL : LI K z) (hC : CI d z c) : f_X8_value d c = some (vdZ (wN z.1) (wE z.1)) := by
  obtain ⟨v1, v2⟩ := c8_value hL hC
  have hb := (bt_e hL).1
  unfold f_X8_value
  rw [v1, cv_s, v2, cv_s]
  exact gd_t hb
theorem c8_digest (hL : LI K z) (hK : K ≤ 1000000) : ClI d z (f_X8_digest d) (dgZ z) z := by
  intro c hC
  have hsr := slF_r 40 z.1
  have hs := hL.2.1
  obtain ⟨c3, e3, hF3, hC3⟩ := values8 (h := dg1 z.1 4339) hL hC
  obtain ⟨c5, e5, hF5, hC5⟩ := c8_pivotsLeft hL c3 hC3
  have e10 : c5 d 10 = z.2.1 := hC5.2.1.2.1
  obtain ⟨c9, e9, hF9, hC9⟩ := mixProblem8 (h := mx (mx (dg2 z.1 (dg1 z.1 4339)) (slF 40 z.1).1) z.2.1) hL hC5
  have hbt := (bt_e hL).2.2
  unfold f_X8_digest
  rw [counts8 hL hK hC, cv_s, e3, cl_s, e5, cl_s, gd_t (by omega), mx8, cv_s, e10, gd_t (by omega), mx8, cv_s, e9, cl_s, mixColumns8 hL hC9, cv_s, mixRows8 hL hC9, cv_s, mixNext8 hL hC9, cv_s, c8_dvalue hL hC9, cv_s, hbt.1, cv_s, mx8, cv_s, mixBuffer8 hL hC9, cv_s]
  exact ⟨c9, rfl, (hF3.tr hF5).tr hF9, hC9⟩
end
end DI
