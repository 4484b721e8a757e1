section DM
/-! the reference's digest -/
def T27 (m : Nat) (c c' : W0) : Prop := (∀ q, q ≠ m → c' q = c q) ∧ ∀ i : Int, i ≠ 27 → c' m i = c m i
def DG (m : Nat) (z : St) (c0 : W0) (h : Int) (c : W0) : Prop := MI m z c ∧ c m 27 = h ∧ c m 0 = 0 ∧ FrM m c0 c
theorem jb01 {β : Type} {f : Int → β} {v : Int} (hv : v = 0 ∨ v = 1) : (jn f fun k => bq (v = 0) (k 0) (k 1)) = f v := by
  rw [jn_e]
  rcases hv with rfl | rfl
  · exact bq_p rfl
  · exact bq_n (by decide)
theorem jbn {β : Type} {f : Int → β} {v : Int} : (jn f fun k => bq (v < 0) (k 0) (k 1)) = f (if v < 0 then 0 else 1) := by
  rw [jn_e]
  by_cases y : v < 0
  · rw [bq_p y, if_pos y]
  · rw [bq_n y, if_neg y]
theorem el9 {G : Option (Int × W0) → Prop} {o : Option (Int × W0)} {κ : W0 → Option (Int × W0)} {P : W0 → Prop} (h : ∃ c', o = κ c' ∧ P c') (k : ∀ c', P c' → G (κ c')) : G o := by
  obtain ⟨c', e, p⟩ := h
  rw [e]
  exact k c' p
section
variable {m : Nat} {z : St} {K : Int} {c c0 : W0} {h : Int}
theorem T27.rf : T27 m c c := ⟨fun _ _ => rfl, fun _ _ => rfl⟩
theorem DG_F (h1 : DG m z c0 h c) : c (m + 1) = z.1 := h1.1.1
theorem DG_q {c1 : W0} (h1 : DG m z c0 h c) (hQ : Qs m (P7 m) c c1) : DG m z c0 h c1 := by
  obtain ⟨a1, a2, a3, a4⟩ := h1
  obtain ⟨b1, b2⟩ := MI_q0 a1 (Q0.q hQ (fun _ e => e))
  exact ⟨b1, (hQ.2 27 (by decide) (by decide)).trans a2, (hQ.2 0 (by decide) (by decide)).trans a3, a4.tr b2⟩
theorem DG_f {c1 : W0} (h1 : DG m z c0 h c) (hQ : Fq m c c1) : DG m z c0 h c1 := by
  obtain ⟨a1, a2, a3, a4⟩ := h1
  exact ⟨MI_q a1 hQ, (hQ.2 27 (by decide)).trans a2, (hQ.2 0 (by decide)).trans a3, fun q a => (hQ.1 q (by omega) (by omega)).trans (a4 q a)⟩
theorem tk9 {v : Int} (h1 : DG m z c0 h c) : ∃ c', f_X9_takesIn m v c = some (0, c') ∧ DG m z c0 (mx h v) c' ∧ T27 m c c' := by
  obtain ⟨a1, a2, a3, a4⟩ := h1
  unfold f_X9_takesIn
  dsimp only [sto]
  have hT : T27 m c (upc c m (updZ (c m) 27 (31 * c m 27 + v))) := ⟨fun q a => upc_n a, fun i a => by rw [upc_s, updZ_n a]⟩
  refine ⟨_, rfl, ⟨MI_sc a1 (hT.1 _ (by omega)) (hT.1 _ (by omega)) (hT.1 _ (by omega)) (hT.1 _ (by omega)) (hT.2 4 (by decide)) (hT.2 6 (by decide)) (hT.2 8 (by decide)), by rw [upc_s, updZ_s, a2]; rfl, (hT.2 0 (by decide)).trans a3, fun q a => (hT.1 q (by omega)).trans (a4 q a)⟩, hT⟩
theorem tf9 {n e : Int} (h1 : DG m z c0 h c) (h16 : c m 16 = n) (h17 : c m 17 = e) : ∃ c', f_X9_takesFraction m c = some (0, c') ∧ DG m z c0 (mf h n e) c' ∧ T27 m c c' := by
  obtain ⟨c1, e1, d1, t1⟩ := tk9 (v := n) h1
  obtain ⟨c2, e2, d2, t2⟩ := tk9 (v := e) d1
  unfold f_X9_takesFraction
  rw [h16, e1, cl_s, t1.2 17 (by decide), h17, e2, cl_s]
  exact ⟨c2, rfl, d2, fun q a => (t2.1 q a).trans (t1.1 q a), fun i a => (t2.2 i a).trans (t1.2 i a)⟩
theorem Laid27 {F : Int → Int} {c1 : W0} (hL : Laid m F c) (t : T27 m c c1) : Laid m F c1 := by
  obtain ⟨h1, h2, h3⟩ := hL
  refine ⟨by rw [t.1 _ (by omega)]; exact h1, fun r a b => by rw [t.1 _ (by omega)]; exact h2 r a b, fun r q a b a2 b2 => by rw [t.1 _ (by omega), t.1 _ (by omega)]; exact h3 r q a b a2 b2⟩
theorem left9 (hL : LI K z) (h1 : DG m z c0 h c) : ∃ c', f_X9_leftPivots m c = some ((slF 40 z.1).1, c') ∧ DG m z c0 h c' := by
  have hM := h1.1
  obtain ⟨c2, e2, hF2, h2⟩ := aside9 (m := m) (c := c)
  have k2 : c2 (m + 1) = z.1 := by rw [hF2 _ (by omega)]; exact hM.1
  obtain ⟨c3, e3, hQ3, hLd⟩ := solves9 hL.1 k2
  obtain ⟨c4, e4, hF4, h4⟩ := back9 (m := m) (c := c3)
  have h41 : c4 (m + 1) = z.1 := by
    rw [h4, hLd.1]
    funext i
    unfold ov34
    by_cases h : 0 ≤ i ∧ i < 34
    · rw [if_pos h, hQ3.1 (m + 2) (by omega) (by unfold P8 P7; omega), h2 i h.1 h.2, hM.1]
    · rw [if_neg h]
      exact slF_o 40 hL.1 i (by omega)
  have hi : ∀ i, i ≠ 16 → i ≠ 17 → c4 m i = c m i := fun i a b => by
    rw [hF4 m (by omega), hQ3.2 i a b, hF2 m (by omega)]
  obtain ⟨a, b⟩ := bk9 (c5 := c4) hM h41 (fun q x y w => by rw [hF4 q (by unfold P8 at y; omega), hQ3.1 q x y, hF2 q (by omega)]) (fun i _ y w => hi i y w)
  unfold f_X9_leftPivots
  rw [e2, cl_s, e3, cl_s, e4, cl_s]
  exact ⟨c4, rfl, a, (hi 27 (by decide) (by decide)).trans h1.2.1, (hi 0 (by decide) (by decide)).trans h1.2.2.1, h1.2.2.2.tr b⟩
theorem d209 (hL : LI K z) {x y : Int} {w : UInt64} (κ : W0 → Option (Int × W0)) : ∀ (k fuel : Nat) (l h : Int) (c : W0), l + k = z.1 0 → 0 ≤ l → k + 1 ≤ fuel → DG m z c0 h c → ∃ c', f_X9_digest_209 m x y w κ fuel l c = κ c' ∧ DG m z c0 (fo (gP z.1) k l h) c' := by
  have g := hL.1.1; have g0 := g.1
  intro k
  induction k with
  | zero =>
    intro fuel l h c hl h0 hf hD
    obtain ⟨f, rfl⟩ : ∃ f, fuel = f + 1 := ⟨fuel - 1, by omega⟩
    rw [f_X9_digest_209_s]
    unfold b_X9_digest_209
    rw [DG_F hD, gd_t (by omega), bq_p (by omega)]
    exact ⟨c, rfl, hD⟩
  | succ k ih =>
    intro fuel l h c hl h0 hf hD
    obtain ⟨f, rfl⟩ : ∃ f, fuel = f + 1 := ⟨fuel - 1, by omega⟩
    have hv := g.2.2.1 l h0 (by omega)
    obtain ⟨c1, e1, d1, -⟩ := tk9 (v := z.1 (2 + l)) hD
    rw [f_X9_digest_209_s]
    unfold b_X9_digest_209
    rw [DG_F hD, gd_t (by omega), bq_n (by omega), gd_t (by omega), gd_t (by omega), e1, cl_s]
    exact ih f (l + 1) _ c1 (by omega) (by omega) (by omega) d1
theorem con9 (hL : LI K z) {r : Int} (hr : 0 ≤ r ∧ r < z.1 1) (hD : DG m z c0 h c) : ∃ c', f_X9_takesConstraint m r c = some (0, c') ∧ DG m z c0 (gC z.1 r h) c' := by
  have g := hL.1.1; have g0 := g.1; have g1 := g.2.1
  have L : ∀ (κ : W0 → Option (Int × W0)) (k fuel : Nat) (l h : Int) (c : W0), l + k = z.1 0 → 0 ≤ l → k + 1 ≤ fuel → DG m z c0 h c → ∃ c', f_X9_takesConstraint_2 m r κ fuel l c = κ c' ∧ DG m z c0 (fo (gK z.1 r) k l h) c' := by
    intro κ k
    induction k with
    | zero =>
      intro fuel l h c hl h0 hf hD
      obtain ⟨f, rfl⟩ : ∃ f, fuel = f + 1 := ⟨fuel - 1, by omega⟩
      rw [f_X9_takesConstraint_2_s]
      unfold b_X9_takesConstraint_2
      rw [DG_F hD, gd_t (by omega), bq_p (by omega)]
      exact ⟨c, rfl, hD⟩
    | succ k ih =>
      intro fuel l h c hl h0 hf hD
      obtain ⟨f, rfl⟩ : ∃ f, fuel = f + 1 := ⟨fuel - 1, by omega⟩
      have hv := g.2.2.2.1 r l hr.1 (by omega) h0 (by omega)
      obtain ⟨c1, e1, d1, -⟩ := tk9 (v := z.1 (6 + 4 * r + l)) hD
      rw [f_X9_takesConstraint_2_s]
      unfold b_X9_takesConstraint_2
      rw [DG_F hD, gd_t (by omega), bq_n (by omega), gd_t (by omega), gd_t (by omega), e1, cl_s]
      exact ih f (l + 1) _ c1 (by omega) (by omega) (by omega) d1
  obtain ⟨c1, e1, d1⟩ := L (fun c1 =>
      gd (0 ≤ (22 + r) ∧ (22 + r) < 34) <|
      gd (R32 (c1 (m + 1) (22 + r))) <|
      cl (f_X9_takesIn m (c1 (m + 1) (22 + r)) c1) fun _ c2 =>
      cl (f_X9_dualOf m r c2) fun _ c4 =>
      cl (f_X9_takesFraction m c4) fun _ c6 =>
      cl (f_X9_takesFraction m c6) fun _ c8 =>
      cl (f_X9_outer m r 1 c8) fun v10 c11 =>
      gd (R32 v10) <|
      cl (f_X9_takesIn m v10 c11) fun _ c12 =>
      cl (f_X9_outer m r 0 c12) fun v14 c15 =>
      gd (R32 v14) <|
      cl (f_X9_takesIn m v14 c15) fun _ c16 =>
      some (0, c16)) (z.1 0).toNat LF 0 h c (by omega) (by omega) (by rw [LF_g]; omega) hD
  have hb := g.2.2.2.2 r hr.1 (by omega)
  obtain ⟨c2, e2, d2, -⟩ := tk9 (v := z.1 (22 + r)) d1
  obtain ⟨c4, e4, hQ4, h16, h17⟩ := dualOf9 hL hr c2 (DG_F d2)
  have d4 := DG_q d2 hQ4
  obtain ⟨c6, e6, d6, t6⟩ := tf9 (n := duN z.1 r) (e := duE z.1 r) d4 h16 h17
  obtain ⟨c8, e8, d8, -⟩ := tf9 (n := duN z.1 r) (e := duE z.1 r) d6 ((t6.2 16 (by decide)).trans h16) ((t6.2 17 (by decide)).trans h17)
  obtain ⟨A, c11, e11, hQ11, hA⟩ := outer9 hL (DG_F d8) hr (e := 1) (Or.inr rfl)
  have hA2 : A = leV z.1 r := by
    rcases hA with ⟨-, y⟩ | ⟨y, -⟩
    · exact LeB_u y (le_e hL hr)
    · omega
  have w1 := (le_e hL hr).1; have w2 := (gr_e hL hr).1
  have d11 := DG_q d8 hQ11
  obtain ⟨c12, e12, d12, -⟩ := tk9 (v := leV z.1 r) d11
  obtain ⟨A', c15, e15, hQ15, hA'⟩ := outer9 hL (DG_F d12) hr (e := 0) (Or.inl rfl)
  have hA3 : A' = grV z.1 r := by
    rcases hA' with ⟨y, -⟩ | ⟨-, y⟩
    · omega
    · exact GrB_u y (gr_e hL hr)
  have d15 := DG_q d12 hQ15
  obtain ⟨c16, e16, d16, -⟩ := tk9 (v := grV z.1 r) d15
  rw [hA2] at e11
  rw [hA3] at e15
  unfold f_X9_takesConstraint
  rw [e1]
  try dsimp only
  rw [DG_F d1, gd_t (by omega), gd_t (by omega), e2, cl_s, e4, cl_s, e6, cl_s, e8, cl_s, e11, cl_s, gd_t (by omega), e12, cl_s, e15, cl_s, gd_t (by omega), e16, cl_s]
  exact ⟨c16, rfl, d16⟩
theorem d243 (hL : LI K z) {x y : Int} {w : UInt64} (κ : W0 → Option (Int × W0)) : ∀ (k fuel : Nat) (l h : Int) (c : W0), l + k = z.1 1 → 0 ≤ l → k + 1 ≤ fuel → DG m z c0 h c → ∃ c', f_X9_digest_243 m x y w κ fuel l c = κ c' ∧ DG m z c0 (fo (gC z.1) k l h) c' := by
  have g := hL.1.1; have g1 := g.2.1
  intro k
  induction k with
  | zero =>
    intro fuel l h c hl h0 hf hD
    obtain ⟨f, rfl⟩ : ∃ f, fuel = f + 1 := ⟨fuel - 1, by omega⟩
    rw [f_X9_digest_243_s]
    unfold b_X9_digest_243
    rw [DG_F hD, gd_t (by omega), bq_p (by omega)]
    exact ⟨c, rfl, hD⟩
  | succ k ih =>
    intro fuel l h c hl h0 hf hD
    obtain ⟨f, rfl⟩ : ∃ f, fuel = f + 1 := ⟨fuel - 1, by omega⟩
    obtain ⟨c1, e1, d1⟩ := con9 hL (r := l) ⟨h0, by omega⟩ hD
    rw [f_X9_digest_243_s]
    unfold b_X9_digest_243
    rw [DG_F hD, gd_t (by omega), bq_n (by omega), e1, cl_s]
    exact ih f (l + 1) _ c1 (by omega) (by omega) (by omega) d1
theorem d269 (hL : LI K z) {x y : Int} {w : UInt64} (κ : W0 → Option (Int × W0)) : ∀ (k fuel : Nat) (l h : Int) (c : W0), l + k = z.1 0 + z.1 1 → 0 ≤ l → k + 1 ≤ fuel → DG m z c0 h c → ∃ c', f_X9_digest_269 m x y w κ fuel l c = κ c' ∧ DG m z c0 (fo (gQ z.1) k l h) c' := by
  have g := hL.1.1; have g0 := g.1; have g1 := g.2.1
  intro k
  induction k with
  | zero =>
    intro fuel l h c hl h0 hf hD
    obtain ⟨f, rfl⟩ : ∃ f, fuel = f + 1 := ⟨fuel - 1, by omega⟩
    rw [f_X9_digest_269_s]
    unfold b_X9_digest_269 f_X9_columns
    rw [DG_F hD, cv_s, gd_t (by omega), bq_p (by omega)]
    exact ⟨c, rfl, hD⟩
  | succ k ih =>
    intro fuel l h c hl h0 hf hD
    obtain ⟨f, rfl⟩ : ∃ f, fuel = f + 1 := ⟨fuel - 1, by omega⟩
    have hl1 : 0 ≤ l ∧ l < z.1 0 + z.1 1 := ⟨h0, by omega⟩
    obtain ⟨b, eb, hb⟩ := isIn9 (m := m) (q := l) (DG_F hD) g hL.1.2.1.1 (by omega)
    have hnm := fst_nmd (nmq_e hL l)
    have hb2 : b = if nmV z.1 l < 0 then 0 else 1 := by
      rcases hnm with ⟨n1, -, n2⟩ | ⟨n1, -, -, n2⟩
      · rw [if_pos n1]
        rcases hb with ⟨-, y⟩ | ⟨y, -⟩
        · exact absurd y n2
        · exact y
      · rw [if_neg (by omega)]
        rcases hb with ⟨y, -⟩ | ⟨-, y⟩
        · exact y
        · exact absurd n2 y
    have hb1 : b = 0 ∨ b = 1 := hb.elim (fun y => Or.inr y.1) (fun y => Or.inl y.1)
    obtain ⟨c5, e5, d5, -⟩ := tk9 (v := b) hD
    obtain ⟨c7, e7, hQ7, h16, h17⟩ := reducedOf9 hL hl1 c5 (DG_F d5)
    obtain ⟨c9, e9, d9, -⟩ := tf9 (DG_q d5 hQ7) h16 h17
    obtain ⟨c11, e11, hQ11, i16, i17⟩ := givenTo9 hL (p := l) (by omega) (nmq_e hL l) c9 (DG_F d9)
    obtain ⟨c13, e13, d13, -⟩ := tf9 (DG_q d9 hQ11) i16 i17
    rw [f_X9_digest_269_s]
    unfold b_X9_digest_269 f_X9_columns
    rw [DG_F hD, cv_s, gd_t (by omega), bq_n (by omega), eb, cv_s, gd_t (by omega), jb01 hb1, e5, cl_s, e7, cl_s, e9, cl_s, e11, cl_s, e13, cl_s]
    rw [hb2] at d13
    exact ih f (l + 1) _ c13 (by omega) (by omega) (by omega) d13
theorem d355 (hL : LI K z) {x y r : Int} {w : UInt64} (hr : 0 ≤ r ∧ r < z.1 1) (κ : W0 → Option (Int × W0)) : ∀ (k fuel : Nat) (l h : Int) (c : W0), l + k = z.1 0 + z.1 1 → 0 ≤ l → k + 1 ≤ fuel → DG m z c0 h c → Laid m z.1 c → ∃ c', f_X9_digest_355 m x y w r κ fuel l c = κ c' ∧ DG m z c0 (fo (gE z.1 r) k l h) c' ∧ Laid m z.1 c' := by
  have g := hL.1.1; have g0 := g.1; have g1 := g.2.1
  intro k
  induction k with
  | zero =>
    intro fuel l h c hl h0 hf hD hLd
    obtain ⟨f, rfl⟩ : ∃ f, fuel = f + 1 := ⟨fuel - 1, by omega⟩
    rw [f_X9_digest_355_s]
    unfold b_X9_digest_355 f_X9_columns
    rw [DG_F hD, cv_s, gd_t (by omega), bq_p (by omega)]
    exact ⟨c, rfl, hD, hLd⟩
  | succ k ih =>
    intro fuel l h c hl h0 hf hD hLd
    obtain ⟨f, rfl⟩ : ∃ f, fuel = f + 1 := ⟨fuel - 1, by omega⟩
    obtain ⟨q1, q2⟩ := hLd.2.2 r l hr.1 hr.2 h0 (by omega)
    rw [tQ_c g (by omega)] at q1 q2
    obtain ⟨c2, e2, d2, t2⟩ := tk9 (v := nu (tF z.1 r l) (dF z.1)) hD
    have hL2 := Laid27 hLd t2
    obtain ⟨c4, e4, d4, t4⟩ := tk9 (v := de (tF z.1 r l) (dF z.1)) d2
    rw [f_X9_digest_355_s]
    unfold b_X9_digest_355 f_X9_columns
    rw [DG_F hD, cv_s, gd_t (by omega), bq_n (by omega), gd_t (by omega), q1, e2, cl_s, gd_t (by omega), t2.1 _ (by omega), q2, e4, cl_s]
    exact ih f (l + 1) _ c4 (by omega) (by omega) (by omega) d4 (Laid27 hL2 t4)
theorem d329 (hL : LI K z) {x y : Int} {w : UInt64} (κ : W0 → Option (Int × W0)) : ∀ (k fuel : Nat) (l h : Int) (c : W0), l + k = z.1 1 → 0 ≤ l → k + 1 ≤ fuel → DG m z c0 h c → Laid m z.1 c → ∃ c', f_X9_digest_329 m x y w κ fuel l c = κ c' ∧ DG m z c0 (fo (gR z.1) k l h) c' ∧ Laid m z.1 c' := by
  have g := hL.1.1; have g0 := g.1; have g1 := g.2.1
  have hN := hL.1.2.1.1
  have h9 := NF_e g
  intro k
  induction k with
  | zero =>
    intro fuel l h c hl h0 hf hD hLd
    obtain ⟨f, rfl⟩ : ∃ f, fuel = f + 1 := ⟨fuel - 1, by omega⟩
    rw [f_X9_digest_329_s]
    unfold b_X9_digest_329
    rw [DG_F hD, gd_t (by omega), bq_p (by omega)]
    exact ⟨c, rfl, hD, hLd⟩
  | succ k ih =>
    intro fuel l h c hl h0 hf hD hLd
    obtain ⟨f, rfl⟩ : ∃ f, fuel = f + 1 := ⟨fuel - 1, by omega⟩
    have hn := hN l h0 (by omega)
    have q1 := hLd.2.1 l h0 (by omega)
    obtain ⟨c2, e2, d2, t2⟩ := tk9 (v := z.1 (27 + l)) hD
    obtain ⟨c4, e4, d4, hL4⟩ := d355 hL (m := m) (c0 := c0) (x := x) (y := y) (w := w) (r := l) ⟨h0, by omega⟩ (fun c3 => f_X9_digest_329 m x y w κ f (l + 1) c3) (NF z.1) LF 0 _ c2 (by omega) (by omega) (by rw [LF_g]; omega) d2 (Laid27 hLd t2)
    rw [f_X9_digest_329_s]
    unfold b_X9_digest_329
    rw [DG_F hD, gd_t (by omega), bq_n (by omega), gd_t (by omega), q1, gd_t (by omega), e2, cl_s, e4]
    exact ih f (l + 1) _ c4 (by omega) (by omega) (by omega) d4 hL4
theorem d471 (hL : LI K z) (κ : W0 → Option (Int × W0)) : ∀ (k fuel : Nat) (l h : Int) (c : W0), l + k = z.2.2.2.2.2.1 → 0 ≤ l → k + 1 ≤ fuel → DG m z c0 h c → ∃ c', f_X9_digest_471 m κ fuel l c = κ c' ∧ DG m z c0 (fo (gBu z.2.2.2.2.2.2) k l h) c' := by
  obtain ⟨t1, t2⟩ := Tx_z hL
  intro k
  induction k with
  | zero =>
    intro fuel l h c hl h0 hf hD
    obtain ⟨f, rfl⟩ : ∃ f, fuel = f + 1 := ⟨fuel - 1, by omega⟩
    rw [f_X9_digest_471_s]
    unfold b_X9_digest_471
    rw [hD.1.2.2.2.1, gd_t (by omega), bq_p (by omega)]
    exact ⟨c, rfl, hD⟩
  | succ k ih =>
    intro fuel l h c hl h0 hf hD
    obtain ⟨f, rfl⟩ : ∃ f, fuel = f + 1 := ⟨fuel - 1, by omega⟩
    have hb := t2 l h0 (by omega)
    have hB := hD.1.2.2.2.2 l h0 (by omega)
    obtain ⟨c1, e1, d1, -⟩ := tk9 (v := z.2.2.2.2.2.2 l) hD
    rw [f_X9_digest_471_s]
    unfold b_X9_digest_471
    rw [hD.1.2.2.2.1, gd_t (by omega), bq_n (by omega), gd_t (by omega), hB, gd_t (by omega), e1, cl_s]
    exact ih f (l + 1) _ c1 (by omega) (by omega) (by omega) d1
/-- what stands behind the rows -/
theorem dend9 (hL : LI K z) (hD : DG m z c0 h c) : ∃ c', (cv (f_X9_bitsOf (vdZ (wN z.1) (wE z.1))) fun v61 =>
                              cl (f_X9_takesIn m v61 c) fun _ c62 =>
                              gd (R32 (c62 m 8)) <|
                              cl (f_X9_takesIn m (c62 m 8) c62) fun _ c64 =>
                              f_X9_digest_471 m (fun c66 =>
                                  some ((c66 m 27), c66)) LF 0 c64) = some (fo (gBu z.2.2.2.2.2.2) z.2.2.2.2.2.1.toNat 0 (mx (mx h (btV z.1)) z.2.2.2.2.2.1), c') ∧ DG m z c0 (fo (gBu z.2.2.2.2.2.2) z.2.2.2.2.2.1.toNat 0 (mx (mx h (btV z.1)) z.2.2.2.2.2.1)) c' := by
  obtain ⟨t1, t2⟩ := Tx_z hL
  have hbt := (bt_e hL).2.2
  obtain ⟨c1, e1, d1, -⟩ := tk9 (v := btV z.1) hD
  obtain ⟨c2, e2, d2, -⟩ := tk9 (v := z.2.2.2.2.2.1) d1
  obtain ⟨c3, e3, d3⟩ := d471 hL (fun c66 => some ((c66 m 27), c66)) z.2.2.2.2.2.1.toNat LF 0 _ c2 (by omega) (by omega) (by rw [LF_g]; omega) d2
  rw [hbt.2, cv_s, e1, cl_s, d1.1.2.2.2.1, gd_t (by omega), e2, cl_s, e3, d3.2.1]
  exact ⟨c3, rfl, d3⟩
theorem m9_digest (hL : LI K z) (hK : K ≤ 1000000) : Mo m z (f_X9_digest m) 0 (dgZ z) z := by
  intro c hM
  have hG := hL.1
  have g := hG.1; have g0 := g.1; have g1 := g.2.1
  have hN := hG.2.1.1; have hd := hG.2.1.2.1
  obtain ⟨-, -, g26, g31, g32, g33⟩ := hG
  have h9 := NF_e g
  have hsr := slF_r 40 z.1
  have hs := hL.2.1
  have D2 : DG m z c 4339 (upc (upc c m (updZ (c m) 0 0)) m (updZ (upc c m (updZ (c m) 0 0) m) 27 4339)) := by
    have i : ∀ j : Int, j ≠ 0 → j ≠ 27 → upc (upc c m (updZ (c m) 0 0)) m (updZ (upc c m (updZ (c m) 0 0) m) 27 4339) m j = c m j := fun j a b => by rw [upc_s, updZ_n b, upc_s, updZ_n a]
    have q : ∀ j, j ≠ m → upc (upc c m (updZ (c m) 0 0)) m (updZ (upc c m (updZ (c m) 0 0) m) 27 4339) j = c j := fun j a => by rw [upc_n a, upc_n a]
    exact ⟨MI_sc hM (q _ (by omega)) (q _ (by omega)) (q _ (by omega)) (q _ (by omega)) (i 4 (by decide) (by decide)) (i 6 (by decide) (by decide)) (i 8 (by decide) (by decide)), by rw [upc_s, updZ_s], by rw [upc_s, updZ_n (by decide), upc_s, updZ_s], fun j a => q j (by omega)⟩
  unfold f_X9_digest
  rw [sto_e, sto_e]
  generalize upc (upc c m (updZ (c m) 0 0)) m (updZ (upc c m (updZ (c m) 0 0) m) 27 4339) = c2 at *
  obtain ⟨c3, e3, D3, -⟩ := tk9 (v := z.1 0) D2
  obtain ⟨c5, e5, D5, -⟩ := tk9 (v := z.1 1) D3
  obtain ⟨c7, e7, D7, -⟩ := tk9 (v := z.1 26) D5
  obtain ⟨c9, e9, hQ9, hLd9⟩ := lays9 hL (DG_F D7)
  have D9 := DG_q D7 hQ9
  obtain ⟨b, x1, y1, eb, hb⟩ := isBest9 hLd9 g hN hd
  have D12 := DG_q D9 (Qs.fs (th := m) (P := P7 m) (c := c9) (x := x1) (y := y1))
  have hLd12 := hLd9.fs (x := x1) (y := y1)
  obtain ⟨v, x2, y2, ev, hv⟩ := endless9 hLd12 g hN hd
  rw [fs_fs] at ev
  have D14 := DG_q D9 (Qs.fs (th := m) (P := P7 m) (c := c9) (x := x2) (y := y2))
  have hv2 : v = ryV z.1 := fstP_u hv (ry_e hL) (fun _ _ _ => Iff.rfl)
  have hvr := fstP_r (by omega) (ry_e hL)
  have hb2 : b = pick (bestF z.1) 1 0 := by
    rcases hb with ⟨y, w⟩ | ⟨y, w⟩
    · rw [pick_t w, y]
    · rw [pick_f w, y]
  have hb1 : b = 0 ∨ b = 1 := hb.elim (fun y => Or.inr y.1) (fun y => Or.inl y.1)
  generalize fs c9 m x2 y2 = c14 at *
  obtain ⟨c17, e17, D17, -⟩ := tk9 (v := b) D14
  obtain ⟨c21, e21, D21, -⟩ := tk9 (v := if v < 0 then 0 else 1) D17
  obtain ⟨c23, e23, D23, -⟩ := tk9 (v := z.1 31) D21
  obtain ⟨c25, e25, D25, -⟩ := tk9 (v := z.1 32) D23
  obtain ⟨c27, e27, D27, -⟩ := tk9 (v := z.1 33) D25
  rw [hb2, hv2] at D27
  have D27' : DG m z c (dg1 z.1 4339) c27 := D27
  obtain ⟨c29, e29, hQ29, h16, h17⟩ := valueNow9 hL c27 (DG_F D27)
  have h16' : c29 m 16 = wN z.1 := h16
  have h17' : c29 m 17 = wE z.1 := h17
  obtain ⟨c31, e31, D31, -⟩ := tf9 (DG_q D27' hQ29) h16' h17'
  obtain ⟨c33, e33, hQ33, i16, i17⟩ := dualValue9 hL c31 (DG_F D31)
  obtain ⟨c35, e35, D35, -⟩ := tf9 (DG_q D31 hQ33) i16 i17
  obtain ⟨c37, e37, hQ37, hR37⟩ := looks9 (DG_F D35) g
  have D37 := DG_f D35 hQ37
  have hsv := svS_1 g
  have hsg := svS_g g (2 ^ NF z.1)
  have hsn := svS_n g (2 ^ NF z.1) (Nat.le_refl _)
  have hch := chN_m (m := z.1 1) (u := 2 ^ NF z.1) (256 - 2 ^ NF z.1)
  have h256 : 2 ^ NF z.1 ≤ 256 := tw_d ⟨NF z.1, by omega⟩
  rw [show 2 ^ NF z.1 + (256 - 2 ^ NF z.1) = 256 by omega] at hch
  have h70 : chN ((z.1 1).toNat : Int) 256 ≤ 70 := ch_d ⟨(z.1 1).toNat, by omega⟩
  rw [show (((z.1 1).toNat : Nat) : Int) = z.1 1 by omega] at h70
  have hs0 := hsg.1; have hs1 := hsg.2.1
  obtain ⟨r3, r4, -, r56⟩ := hR37
  obtain ⟨r5, r6⟩ := r56 (by omega)
  obtain ⟨c39, e39, D39, t39⟩ := tk9 (v := (svS z.1 (2 ^ NF z.1)).1) D37
  obtain ⟨c41, e41, D41, t41⟩ := tk9 (v := (svS z.1 (2 ^ NF z.1)).2.1) D39
  obtain ⟨c43, e43, D43, t43⟩ := tk9 (v := (svS z.1 (2 ^ NF z.1)).2.2.2.2.1) D41
  obtain ⟨c45, e45, D45, -⟩ := tk9 (v := (svS z.1 (2 ^ NF z.1)).2.2.2.2.2) D43
  have s4 : c39 m 24 = (svS z.1 (2 ^ NF z.1)).2.1 := (t39.2 24 (by decide)).trans r4
  have s5 : c41 m 25 = (svS z.1 (2 ^ NF z.1)).2.2.2.2.1 := (t41.2 25 (by decide)).trans ((t39.2 25 (by decide)).trans r5)
  have s6 : c43 m 26 = (svS z.1 (2 ^ NF z.1)).2.2.2.2.2 := (t43.2 26 (by decide)).trans ((t41.2 26 (by decide)).trans ((t39.2 26 (by decide)).trans r6))
  have D45' : DG m z c (dg2 z.1 (dg1 z.1 4339)) c45 := D45
  obtain ⟨c48, e48, D48⟩ := left9 hL D45'
  obtain ⟨c49, e49, D49, -⟩ := tk9 (v := (slF 40 z.1).1) D48
  obtain ⟨c51, e51, D51, -⟩ := tk9 (v := z.2.1) D49
  have hvd : vf_n64 (FP.ddiv (FP.l2d (i64 (wN z.1))) (FP.l2d (i64 (wE z.1)))) := (bt_e hL).1
  have u49 : c49 m 4 = z.2.1 := D49.1.2.1.1
  rw [DG_F D2, gd_t (by omega), e3, cl_s, DG_F D3, gd_t (by omega), e5, cl_s, DG_F D5, gd_t (by omega), e7, cl_s, e9, cl_s, eb, cl_s, ev, cl_s, gd_t (by omega), jb01 hb1, e17, cl_s, gd_t (by omega), jbn, e21, cl_s, DG_F D21, gd_t (by omega), e23, cl_s, DG_F D23, gd_t (by omega), e25, cl_s, DG_F D25, gd_t (by omega), e27, cl_s, e29, cl_s, h16', h17', gd_t hvd, e31, cl_s, e33, cl_s, e35, cl_s, e37, cl_s, r3, gd_t (by omega), e39, cl_s, s4, gd_t (by omega), e41, cl_s, s5, e43, cl_s, s6, e45, cl_s, e48, cl_s, gd_t (by omega), e49, cl_s, u49, gd_t (by omega), e51, cl_s]
  refine el9 (G := fun o => ∃ c1, o = some (dgZ z, c1) ∧ FrM m c c1 ∧ MI m z c1 ∧ c1 m 0 = 0) (d209 hL _ (z.1 0).toNat LF 0 _ c51 (by omega) (by omega) (by rw [LF_g]; omega) D51) (fun c53 D53 => ?_)
  try dsimp only
  refine el9 (G := fun o => ∃ c1, o = some (dgZ z, c1) ∧ FrM m c c1 ∧ MI m z c1 ∧ c1 m 0 = 0) (d243 hL _ (z.1 1).toNat LF 0 _ c53 (by omega) (by omega) (by rw [LF_g]; omega) D53) (fun c54 D54 => ?_)
  try dsimp only
  refine el9 (G := fun o => ∃ c1, o = some (dgZ z, c1) ∧ FrM m c c1 ∧ MI m z c1 ∧ c1 m 0 = 0) (d269 hL _ (NF z.1) LF 0 _ c54 (by omega) (by omega) (by rw [LF_g]; omega) D54) (fun c55 D55 => ?_)
  try dsimp only
  obtain ⟨c56, e56, hQ56, hLd56⟩ := lays9 hL (DG_F D55)
  have D56 := DG_q D55 hQ56
  rw [e56, cl_s]
  refine el9 (G := fun o => ∃ c1, o = some (dgZ z, c1) ∧ FrM m c c1 ∧ MI m z c1 ∧ c1 m 0 = 0) (d329 hL _ (z.1 1).toNat LF 0 _ c56 (by omega) (by omega) (by rw [LF_g]; omega) D56 hLd56) (fun c58 D58 => ?_)
  try dsimp only
  obtain ⟨D58, hLd58⟩ := D58
  generalize hH : fo (gR z.1) (z.1 1).toNat 0 (fo (gQ z.1) (NF z.1) 0 (fo (gC z.1) (z.1 1).toNat 0 (fo (gP z.1) (z.1 0).toNat 0 (mx (mx (dg2 z.1 (dg1 z.1 4339)) (slF 40 z.1).1) z.2.1)))) = H at *
  have hdg : dgZ z = fo (gBu z.2.2.2.2.2.2) z.2.2.2.2.2.1.toNat 0 (mx (mx (dg7 z.1 H) (btV z.1)) z.2.2.2.2.2.1) := by
    unfold dgZ
    rw [hH]
  have fin : ∀ c60, DG m z c (dg7 z.1 H) c60 → ∃ c1, (cv (f_X9_bitsOf (FP.ddiv (FP.l2d (i64 (wN z.1))) (FP.l2d (i64 (wE z.1))))) fun v61 =>
                              cl (f_X9_takesIn m v61 c60) fun _ c62 =>
                              gd (R32 (c62 m 8)) <|
                              cl (f_X9_takesIn m (c62 m 8) c62) fun _ c64 =>
                              f_X9_digest_471 m (fun c66 =>
                                  some ((c66 m 27), c66)) LF 0 c64) = some (dgZ z, c1) ∧ FrM m c c1 ∧ MI m z c1 ∧ c1 m 0 = 0 := fun c60 D => by
    obtain ⟨c', e', D'⟩ := dend9 hL D
    rw [hdg]
    exact ⟨c', e', D'.2.2.2, D'.1, D'.2.2.1⟩
  rw [gd_t (by omega), jn_e]
  by_cases y : v < 0
  · rw [bq_p y, gd_t (by omega)]
    by_cases w : bestF z.1
    · rw [bq_n (by rw [hb2, pick_t w]; decide)]
      refine fin c58 ?_
      unfold dg7
      rw [if_pos (by omega), bq_p w]
      exact D58
    · have ho := opn_i hL (by omega) w
      have hch := lrI_r (pos := chP z.1) (bt := chB z.1) (j := z.1 0 + z.1 1) (by omega)
      have hcn := lrI_n (pos := chP z.1) (bt := chB z.1) (j := z.1 0 + z.1 1) (by omega)
      have hc1 : 0 ≤ chV z.1 ∧ chV z.1 < z.1 0 + z.1 1 := by
        rcases hch with e | e
        · exact absurd (hcn.mp (by omega)) w
        · exact ⟨e.1, e.2.1⟩
      have hlr := lrV_r g (chV z.1)
      obtain ⟨x3, y3, e67⟩ := bestColumn9 hLd58 g hL.1.2.1 g26 (opn_o g ho)
      have D68 := DG_q D58 (Qs.fs (th := m) (P := P7 m) (c := c58) (x := x3) (y := y3))
      have hLd68 := hLd58.fs (x := x3) (y := y3)
      generalize fs c58 m x3 y3 = c68 at *
      obtain ⟨c69, e69, D69, t69⟩ := tk9 (v := chV z.1) D68
      have e71 := leastRow9 (Laid27 hLd68 t69) g hN hd hc1
      obtain ⟨c72, e72, D72, -⟩ := tk9 (v := lrV z.1 (chV z.1)) D69
      rw [bq_p (by rw [hb2, pick_f w]), e67, cl_s, gd_t (by omega), e69, cl_s, e71, cv_s, gd_t (by omega), e72, cl_s]
      refine fin c72 ?_
      unfold dg7
      rw [if_pos (by omega), bq_n w]
      exact D72
  · obtain ⟨c74, e74, D74, -⟩ := tk9 (v := v) D58
    rw [bq_n y, gd_t (by omega), e74, cl_s]
    refine fin c74 ?_
    unfold dg7
    rw [if_neg (by omega), ← hv2]
    exact D74
end
end DM
