section BD
variable {d m : Nat} {z : St} {K : Int}
/-! another bound, the same basis -/
def FeB (F : Int → Int) (p v : Int) : Prop := ∀ r, 0 ≤ r → r < F 1 → 0 ≤ tF F r (F 0 + F 1) + (v - F (22 + p)) * tF F r (F 0 + p)
theorem FeB_b {F : Int → Int} (hb : GdB F) {p : Int} : FeB F p (F (22 + p)) := fun r a b => by
  have := hb.2.2.1 r a b
  rw [Int.sub_self, Int.zero_mul]
  omega
/-- the room to move, up to 99 -/
theorem room8 {t : Nat} {F : Int → Int} {c : W0} (hT : RepT t F c) (g : GdP F) (hb : GdB F) {q e : Int} (hq : 0 ≤ q ∧ q < F 0 + F 1) (he : e = 1 ∨ e = -1) : ∃ R, f_X6_room t q e c = some R ∧ (0 ≤ R ∧ R ≤ 99) ∧ ∀ x, 0 ≤ x → x ≤ 99 → (x ≤ R ↔ ∀ r, 0 ≤ r → r < F 1 → x * (e * tF F r q) ≤ tF F r (F 0 + F 1)) := by
  have g0 := g.1; have g1 := g.2.1
  have hN := hb.1
  have L : ∀ (k fuel : Nat) (v l : Int), l + k = F 1 → 0 ≤ l → k + 1 ≤ fuel → (0 ≤ v ∧ v ≤ 99) → (∀ x, 0 ≤ x → x ≤ 99 → (x ≤ v ↔ ∀ r, 0 ≤ r → r < l → x * (e * tF F r q) ≤ tF F r (F 0 + F 1))) → ∃ R, f_X6_room_7 t q e c (fun v1 => some v1) fuel v l = some R ∧ (0 ≤ R ∧ R ≤ 99) ∧ ∀ x, 0 ≤ x → x ≤ 99 → (x ≤ R ↔ ∀ r, 0 ≤ r → r < F 1 → x * (e * tF F r q) ≤ tF F r (F 0 + F 1)) := by
    intro k
    induction k with
    | zero =>
      intro fuel v l hl h0 hf hv hI
      obtain ⟨f, rfl⟩ : ∃ f, fuel = f + 1 := ⟨fuel - 1, by omega⟩
      obtain rfl : l = F 1 := by omega
      rw [f_X6_room_7_s]
      unfold b_X6_room_7
      rw [hT.1, gd_t (by omega), bq_p (by omega)]
      exact ⟨v, rfl, hv, hI⟩
    | succ k ih =>
      intro fuel v l hl h0 hf hv hI
      obtain ⟨f, rfl⟩ : ∃ f, fuel = f + 1 := ⟨fuel - 1, by omega⟩
      have bt := tF_b g hN (r := l) (q := q) (by omega) hq
      have bs := tF_b9 g hN (r := l) (q := F 0 + F 1) (by omega) (by omega)
      have hs := hb.2.2.1 l h0 (by omega)
      have be : -157464 ≤ e * tF F l q ∧ e * tF F l q ≤ 157464 := by
        rcases he with h | h <;> rw [h] <;> omega
      rw [f_X6_room_7_s]
      unfold b_X6_room_7
      rw [hT.1, gd_t (by omega), bq_n (by omega), gd_t (by omega), entry8 hT g ⟨h0, by omega⟩ hq, cv_s, gd_t (by omega)]
      by_cases hp : e * tF F l q ≤ 0
      · rw [bq_p hp]
        refine ih f v (l + 1) (by omega) (by omega) (by omega) hv (fun x a b => ⟨fun h r a2 b2 => ?_, fun h => (hI x a b).mpr (fun r a2 b2 => h r a2 (by omega))⟩)
        by_cases y : r = l
        · have h1 := Int.mul_nonneg a (show 0 ≤ -(e * tF F l q) by omega)
          rw [Int.mul_neg] at h1
          rw [y]
          omega
        · exact (hI x a b).mp h r a2 (by omega)
      · have td : Int.tdiv (tF F l (F 0 + F 1)) (e * tF F l q) = tF F l (F 0 + F 1) / (e * tF F l q) := Int.tdiv_eq_ediv_of_nonneg hs
        have q1 := Int.ediv_nonneg hs (show 0 ≤ e * tF F l q by omega)
        have q2 : tF F l (F 0 + F 1) / (e * tF F l q) ≤ tF F l (F 0 + F 1) := Int.ediv_le_self _ hs
        have hle : ∀ x : Int, x ≤ tF F l (F 0 + F 1) / (e * tF F l q) ↔ x * (e * tF F l q) ≤ tF F l (F 0 + F 1) := fun x => Int.le_ediv_iff_mul_le (by omega)
        rw [bq_n hp, side8 hT g ⟨h0, by omega⟩, cv_s, td, gd_t ⟨by omega, by omega, by omega⟩, gd_t ⟨by omega, by omega⟩]
        refine ih f _ (l + 1) (by omega) (by omega) (by omega) (by split <;> omega) (fun x a b => ⟨fun h r a2 b2 => ?_, fun h => ?_⟩)
        · by_cases y : r = l
          · rw [y]
            refine (hle x).mp ?_
            split at h <;> omega
          · refine (hI x a b).mp ?_ r a2 (by omega)
            split at h <;> omega
        · have h1 := (hI x a b).mpr (fun r a2 b2 => h r a2 (by omega))
          have h2 := (hle x).mpr (h l h0 (by omega))
          split <;> omega
  unfold f_X6_room
  exact L (F 1).toNat LF 99 0 (by omega) (by omega) (by rw [LF_g]; omega) (by omega) (fun x a b => ⟨fun _ r a2 b2 => by omega, fun _ => b⟩)
/-- the reference's test -/
theorem stays9 (hL : LI K z) {c : W0} (hLd : Laid m z.1 c) {p v : Int} (hp : 0 ≤ p ∧ p < z.1 1) (hv : 0 ≤ v ∧ v ≤ 99) : ∃ b c1, f_X9_staysFeasible m p v c = some (b, c1) ∧ Qs m (P7 m) c c1 ∧ Laid m z.1 c1 ∧ ((b = 1 ∧ FeB z.1 p v) ∨ (b = 0 ∧ ¬ FeB z.1 p v)) := by
  have g := hL.1.1; have hN := hL.1.2.1.1; have hd := hL.1.2.1.2.1
  have g0 := g.1; have g1 := g.2.1
  have hb := g.2.2.2.2 p hp.1 (by omega)
  have hD := dF_b g hN
  have L : ∀ (k fuel : Nat) (l3 l : Int) (c0 : W0), l + k = z.1 1 → 0 ≤ l → k + 1 ≤ fuel → Qs m (P7 m) c c0 → Laid m z.1 c0 → ((l3 = 1 ∧ ∀ r, 0 ≤ r → r < l → 0 ≤ tF z.1 r (z.1 0 + z.1 1) + (v - z.1 (22 + p)) * tF z.1 r (z.1 0 + p)) ∨ (l3 = 0 ∧ ¬ FeB z.1 p v)) → ∃ b c1, f_X9_staysFeasible_5 m p v (fun v1 c2 => gd (0 ≤ v1 ∧ v1 ≤ 1) <| some (v1, c2)) fuel l3 l c0 = some (b, c1) ∧ Qs m (P7 m) c c1 ∧ Laid m z.1 c1 ∧ ((b = 1 ∧ FeB z.1 p v) ∨ (b = 0 ∧ ¬ FeB z.1 p v)) := by
    intro k
    induction k with
    | zero =>
      intro fuel l3 l c0 hl h0 hf hQ hL0 hI
      obtain ⟨f, rfl⟩ : ∃ f, fuel = f + 1 := ⟨fuel - 1, by omega⟩
      obtain rfl : l = z.1 1 := by omega
      rw [f_X9_staysFeasible_5_s]
      unfold b_X9_staysFeasible_5
      rw [hL0.1, gd_t (by omega), bq_p (by omega)]
      try dsimp only
      rw [gd_t (by omega)]
      exact ⟨l3, c0, rfl, hQ, hL0, hI⟩
    | succ k ih =>
      intro fuel l3 l c0 hl h0 hf hQ hL0 hI
      obtain ⟨f, rfl⟩ : ∃ f, fuel = f + 1 := ⟨fuel - 1, by omega⟩
      have bs := tF_b9 g hN (r := l) (q := z.1 0 + z.1 1) (by omega) (by omega)
      have bt := tF_b g hN (r := l) (q := z.1 0 + p) (by omega) (by omega)
      obtain ⟨x1, x2, x3⟩ := fr_b hL (n := tF z.1 l (z.1 0 + z.1 1)) (by omega)
      obtain ⟨n1, n2⟩ := nu_nu (n := tF z.1 l (z.1 0 + z.1 1)) (e := dF z.1) (by omega)
      have h8 := (hL0.2.2 l 8 h0 (by omega) (by omega) (by omega)).2
      have hL1 := hL0.fs (x := nu (tF z.1 l (z.1 0 + z.1 1)) (dF z.1)) (y := de (tF z.1 l (z.1 0 + z.1 1)) (dF z.1))
      have hq := (hL1.2.2 l (z.1 0 + p) h0 (by omega) (by omega) (by omega)).2
      rw [tQ_c g (by omega), ← Int.add_assoc] at hq
      have hbd := mbd (x := v - z.1 (22 + p)) (y := tF z.1 l (z.1 0 + p)) (A := 99) (B := 157464) (by omega) bt
      have hns := nu_s (n := tF z.1 l (z.1 0 + z.1 1) + (v - z.1 (22 + p)) * tF z.1 l (z.1 0 + p)) hd
      have hnb := nu_n (n := tF z.1 l (z.1 0 + z.1 1) + (v - z.1 (22 + p)) * tF z.1 l (z.1 0 + p)) (d := dF z.1)
      rw [f_X9_staysFeasible_5_s]
      unfold b_X9_staysFeasible_5
      rw [hL0.1, gd_t (by omega), bq_n (by omega), entry9 hL0 g ⟨h0, by omega⟩ (by omega), cv_s, gd_t (by omega), show 9 * l + 9 - 1 = 9 * l + 8 by omega, h8, tQ_8, becs x1 x2 (by omega), cl_s, n1, n2, gd_t (by omega), hL1.1, gd_t (by omega), entry9 hL1 g ⟨h0, by omega⟩ (by omega), cv_s, tQ_c g (by omega), gd_t (by omega), hq, adds (X := tF z.1 l (z.1 0 + z.1 1)) (D := dF z.1) (by omega) (by omega) (by omega) (by omega) fs_o fs_u, cl_s, fs_o]
      have hQ2 : ∀ x y, Qs m (P7 m) c (fs (fs c0 m (nu (tF z.1 l (z.1 0 + z.1 1)) (dF z.1)) (de (tF z.1 l (z.1 0 + z.1 1)) (dF z.1))) m x y) := fun x y => (hQ.tr Qs.fs).tr Qs.fs
      rcases hI with ⟨rfl, h⟩ | ⟨rfl, h⟩
      · rw [gd_t (by omega), bq_n (by omega), gd_t (by omega)]
        by_cases y : tF z.1 l (z.1 0 + z.1 1) + (v - z.1 (22 + p)) * tF z.1 l (z.1 0 + p) < 0
        · rw [bq_p (hns.2.1.mpr y)]
          exact ih f 0 (l + 1) _ (by omega) (by omega) (by omega) (hQ2 _ _) hL1.fs (Or.inr ⟨rfl, fun w => by have := w l h0 (by omega); omega⟩)
        · rw [bq_n (fun w => y (hns.2.1.mp w))]
          refine ih f 1 (l + 1) _ (by omega) (by omega) (by omega) (hQ2 _ _) hL1.fs (Or.inl ⟨rfl, fun r a b => ?_⟩)
          by_cases w : r = l
          · rw [w]; omega
          · exact h r a (by omega)
      · rw [gd_t (by omega), bq_p rfl]
        exact ih f 0 (l + 1) _ (by omega) (by omega) (by omega) (hQ2 _ _) hL1.fs (Or.inr ⟨rfl, h⟩)
  unfold f_X9_staysFeasible
  exact L (z.1 1).toNat LF 1 0 c (by omega) (by omega) (by rw [LF_g]; omega) Qs.rf hLd (Or.inl ⟨rfl, fun r a b => by omega⟩)
/-- the least and the greatest bound -/
def LeB (F : Int → Int) (p A : Int) : Prop := (0 ≤ A ∧ A ≤ 99) ∧ FeB F p A ∧ ∀ v, 0 ≤ v → v < A → ¬ FeB F p v
def GrB (F : Int → Int) (p A : Int) : Prop := (0 ≤ A ∧ A ≤ 99) ∧ FeB F p A ∧ ∀ v, A < v → v ≤ 99 → ¬ FeB F p v
theorem LeB_u {F : Int → Int} {p A A' : Int} (h : LeB F p A) (h' : LeB F p A') : A = A' := by
  rcases Int.lt_trichotomy A A' with y | y | y
  · exact absurd h.2.1 (h'.2.2 A h.1.1 y)
  · exact y
  · exact absurd h'.2.1 (h.2.2 A' h'.1.1 y)
theorem GrB_u {F : Int → Int} {p A A' : Int} (h : GrB F p A) (h' : GrB F p A') : A = A' := by
  rcases Int.lt_trichotomy A A' with y | y | y
  · exact absurd h'.2.1 (h.2.2 A' y h'.1.2)
  · exact y
  · exact absurd h.2.1 (h'.2.2 A y h.1.2)
theorem outer9 (hL : LI K z) {c : W0} (hF : c (m + 1) = z.1) {p e : Int} (hp : 0 ≤ p ∧ p < z.1 1) (he : e = 0 ∨ e = 1) : ∃ A c1, f_X9_outer m p e c = some (A, c1) ∧ Qs m (P7 m) c c1 ∧ ((e = 1 ∧ LeB z.1 p A) ∨ (e = 0 ∧ GrB z.1 p A)) := by
  have g := hL.1.1
  have g0 := g.1; have g1 := g.2.1
  have hb := g.2.2.2.2 p hp.1 (by omega)
  have hFb := FeB_b hL.1.2.1 (p := p)
  obtain ⟨c1, e1, hQ1, hL1⟩ := lays9 (m := m) hL hF
  have L : ∀ (k fuel : Nat) (l3 l : Int) (c0 : W0), l + k = 100 → 0 ≤ l → k + 1 ≤ fuel → Qs m (P7 m) c c0 → Laid m z.1 c0 → ((e = 1 ∧ ((l3 = z.1 (22 + p) ∧ ∀ v, 100 - l ≤ v → v ≤ 99 → ¬ FeB z.1 p v) ∨ ((100 - l ≤ l3 ∧ l3 ≤ 99) ∧ FeB z.1 p l3 ∧ ∀ v, 100 - l ≤ v → v < l3 → ¬ FeB z.1 p v))) ∨ (e = 0 ∧ ((l3 = z.1 (22 + p) ∧ ∀ v, 0 ≤ v → v < l → ¬ FeB z.1 p v) ∨ ((0 ≤ l3 ∧ l3 < l) ∧ FeB z.1 p l3 ∧ ∀ v, l3 < v → v < l → ¬ FeB z.1 p v)))) → ∃ A c2, f_X9_outer_17 m p e (fun v3 c4 => some (v3, c4)) fuel l3 l c0 = some (A, c2) ∧ Qs m (P7 m) c c2 ∧ ((e = 1 ∧ LeB z.1 p A) ∨ (e = 0 ∧ GrB z.1 p A)) := by
    intro k
    induction k with
    | zero =>
      intro fuel l3 l c0 hl h0 hf hQ hL0 hI
      obtain ⟨f, rfl⟩ : ∃ f, fuel = f + 1 := ⟨fuel - 1, by omega⟩
      obtain rfl : l = 100 := by omega
      rw [f_X9_outer_17_s]
      unfold b_X9_outer_17
      rw [gd_t (by omega), bq_p (by omega)]
      refine ⟨l3, c0, rfl, hQ, ?_⟩
      rcases hI with ⟨h1, h2 | h2⟩ | ⟨h1, h2 | h2⟩
      · exact absurd hFb (h2.2 _ (by omega) (by omega))
      · exact Or.inl ⟨h1, ⟨by omega, h2.1.2⟩, h2.2.1, fun v a b => h2.2.2 v (by omega) b⟩
      · exact absurd hFb (h2.2 _ (by omega) (by omega))
      · exact Or.inr ⟨h1, ⟨h2.1.1, by omega⟩, h2.2.1, fun v a b => h2.2.2 v a (by omega)⟩
    | succ k ih =>
      intro fuel l3 l c0 hl h0 hf hQ hL0 hI
      obtain ⟨f, rfl⟩ : ∃ f, fuel = f + 1 := ⟨fuel - 1, by omega⟩
      rw [f_X9_outer_17_s]
      unfold b_X9_outer_17
      simp only [jn]
      rw [gd_t (by omega), bq_n (by omega), gd_t (by omega)]
      rcases hI with ⟨h1, hI⟩ | ⟨h1, hI⟩
      · obtain ⟨b, c2, e2, hQ2, hL2, hb2⟩ := stays9 (m := m) hL hL0 hp (v := 99 - l) (by omega)
        rw [bq_n (by omega), e2, cl_s]
        rcases hb2 with ⟨rfl, hb2⟩ | ⟨rfl, hb2⟩
        · rw [gd_t (by omega), bq_n (by omega)]
          exact ih f (99 - l) (l + 1) c2 (by omega) (by omega) (by omega) (hQ.tr hQ2) hL2 (Or.inl ⟨h1, Or.inr ⟨⟨by omega, by omega⟩, hb2, fun v a b => by omega⟩⟩)
        · rw [gd_t (by omega), bq_p rfl]
          refine ih f l3 (l + 1) c2 (by omega) (by omega) (by omega) (hQ.tr hQ2) hL2 (Or.inl ⟨h1, ?_⟩)
          rcases hI with ⟨h2, h3⟩ | ⟨h2, h3, h4⟩
          · refine Or.inl ⟨h2, fun v a b => ?_⟩
            by_cases y : v = 99 - l
            · rw [y]; exact hb2
            · exact h3 v (by omega) b
          · refine Or.inr ⟨⟨by omega, h2.2⟩, h3, fun v a b => ?_⟩
            by_cases y : v = 99 - l
            · rw [y]; exact hb2
            · exact h4 v (by omega) b
      · obtain ⟨b, c2, e2, hQ2, hL2, hb2⟩ := stays9 (m := m) hL hL0 hp (v := l) (by omega)
        rw [bq_p h1, e2, cl_s]
        rcases hb2 with ⟨rfl, hb2⟩ | ⟨rfl, hb2⟩
        · rw [gd_t (by omega), bq_n (by omega)]
          exact ih f l (l + 1) c2 (by omega) (by omega) (by omega) (hQ.tr hQ2) hL2 (Or.inr ⟨h1, Or.inr ⟨⟨by omega, by omega⟩, hb2, fun v a b => by omega⟩⟩)
        · rw [gd_t (by omega), bq_p rfl]
          refine ih f l3 (l + 1) c2 (by omega) (by omega) (by omega) (hQ.tr hQ2) hL2 (Or.inr ⟨h1, ?_⟩)
          rcases hI with ⟨h2, h3⟩ | ⟨h2, h3, h4⟩
          · refine Or.inl ⟨h2, fun v a b => ?_⟩
            by_cases y : v = l
            · rw [y]; exact hb2
            · exact h3 v a (by omega)
          · refine Or.inr ⟨⟨h2.1, by omega⟩, h3, fun v a b => ?_⟩
            by_cases y : v = l
            · rw [y]; exact hb2
            · exact h4 v a (by omega)
  unfold f_X9_outer
  rw [e1, cl_s, gd_t (by omega), hL1.1]
  refine L 100 LF _ 0 c1 (by omega) (by omega) (by rw [LF_g]; omega) hQ1 hL1 ?_
  rcases he with h | h
  · exact Or.inr ⟨h, Or.inl ⟨rfl, fun v a b => by omega⟩⟩
  · exact Or.inl ⟨h, Or.inl ⟨rfl, fun v a b => by omega⟩⟩
end BD
