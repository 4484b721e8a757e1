section BE
variable {d m : Nat} {z : St} {K : Int}
theorem le_ex {F : Int → Int} (g : GdP F) (hb : GdB F) {p : Int} (hp : 0 ≤ p ∧ p < F 1) : ∃ A, LeB F p A := by
  have g1 := g.2.1
  have b := g.2.2.2.2 p hp.1 (by omega)
  have h : ∀ n : Nat, (n : Int) ≤ 100 → (∃ A : Int, (0 ≤ A ∧ A < n) ∧ FeB F p A ∧ ∀ v : Int, 0 ≤ v → v < A → ¬ FeB F p v) ∨ ∀ v : Int, 0 ≤ v → v < n → ¬ FeB F p v := by
    intro n
    induction n with
    | zero => exact fun _ => Or.inr (fun v a b => by omega)
    | succ n ih =>
      intro hn
      rcases ih (by omega) with ⟨A, h1, h2⟩ | h1
      · exact Or.inl ⟨A, ⟨h1.1, by omega⟩, h2⟩
      · by_cases e : FeB F p n
        · exact Or.inl ⟨n, ⟨by omega, by omega⟩, e, fun v a b => h1 v a b⟩
        · refine Or.inr (fun v a b => ?_)
          by_cases y : v = n
          · rw [y]; exact e
          · exact h1 v a (by omega)
  rcases h 100 (by omega) with ⟨A, h1, h2⟩ | h1
  · exact ⟨A, ⟨h1.1, by omega⟩, h2⟩
  · exact absurd (FeB_b hb) (h1 _ b.1 (by omega))
theorem gr_ex {F : Int → Int} (g : GdP F) (hb : GdB F) {p : Int} (hp : 0 ≤ p ∧ p < F 1) : ∃ A, GrB F p A := by
  have g1 := g.2.1
  have b := g.2.2.2.2 p hp.1 (by omega)
  have h : ∀ n : Nat, (n : Int) ≤ 100 → (∃ A : Int, (100 - (n : Int) ≤ A ∧ A ≤ 99) ∧ FeB F p A ∧ ∀ v : Int, A < v → v ≤ 99 → ¬ FeB F p v) ∨ ∀ v : Int, 100 - (n : Int) ≤ v → v ≤ 99 → ¬ FeB F p v := by
    intro n
    induction n with
    | zero => exact fun _ => Or.inr (fun v a b => by omega)
    | succ n ih =>
      intro hn
      rcases ih (by omega) with ⟨A, h1, h2⟩ | h1
      · exact Or.inl ⟨A, ⟨by omega, h1.2⟩, h2⟩
      · by_cases e : FeB F p (99 - (n : Int))
        · exact Or.inl ⟨99 - (n : Int), ⟨by omega, by omega⟩, e, fun v a b => h1 v (by omega) b⟩
        · refine Or.inr (fun v a b => ?_)
          by_cases y : v = 99 - (n : Int)
          · rw [y]; exact e
          · exact h1 v (by omega) b
  rcases h 100 (by omega) with ⟨A, h1, h2⟩ | h1
  · exact ⟨A, ⟨by omega, h1.2⟩, h2⟩
  · exact absurd (FeB_b hb) (h1 _ (by omega) (by omega))
theorem fall8 (hL : LI K z) {p R : Int} (hp : 0 ≤ p ∧ p < z.1 1) (hR : 0 ≤ R ∧ R ≤ 99) (h : ∀ x, 0 ≤ x → x ≤ 99 → (x ≤ R ↔ ∀ r, 0 ≤ r → r < z.1 1 → x * (1 * tF z.1 r (z.1 0 + p)) ≤ tF z.1 r (z.1 0 + z.1 1))) : LeB z.1 p (if 0 < z.1 (22 + p) - R then z.1 (22 + p) - R else 0) := by
  have g := hL.1.1; have g1 := g.2.1
  have b := g.2.2.2.2 p hp.1 (by omega)
  have hF : ∀ v, 0 ≤ v → v ≤ z.1 (22 + p) → (FeB z.1 p v ↔ z.1 (22 + p) - v ≤ R) := fun v a b2 => by
    rw [h _ (by omega) (by omega)]
    refine ⟨fun y r x1 x2 => ?_, fun y r x1 x2 => ?_⟩
    · have := y r x1 x2
      rw [show v - z.1 (22 + p) = -(z.1 (22 + p) - v) by omega, Int.neg_mul] at this
      rw [Int.one_mul]
      omega
    · have := y r x1 x2
      rw [Int.one_mul] at this
      rw [show v - z.1 (22 + p) = -(z.1 (22 + p) - v) by omega, Int.neg_mul]
      omega
  by_cases y : 0 < z.1 (22 + p) - R
  · rw [if_pos y]
    exact ⟨by omega, (hF _ (by omega) (by omega)).mpr (by omega), fun v a b2 w => by have := (hF v a (by omega)).mp w; omega⟩
  · rw [if_neg y]
    exact ⟨by omega, (hF _ (by omega) (by omega)).mpr (by omega), fun v a b2 => by omega⟩
theorem rise8 (hL : LI K z) {p R : Int} (hp : 0 ≤ p ∧ p < z.1 1) (hR : 0 ≤ R ∧ R ≤ 99) (h : ∀ x, 0 ≤ x → x ≤ 99 → (x ≤ R ↔ ∀ r, 0 ≤ r → r < z.1 1 → x * (-1 * tF z.1 r (z.1 0 + p)) ≤ tF z.1 r (z.1 0 + z.1 1))) : GrB z.1 p (if z.1 (22 + p) + R < 99 then z.1 (22 + p) + R else 99) := by
  have g := hL.1.1; have g1 := g.2.1
  have b := g.2.2.2.2 p hp.1 (by omega)
  have hF : ∀ v, z.1 (22 + p) ≤ v → v ≤ 99 → (FeB z.1 p v ↔ v - z.1 (22 + p) ≤ R) := fun v a b2 => by
    rw [h _ (by omega) (by omega)]
    refine ⟨fun y r x1 x2 => ?_, fun y r x1 x2 => ?_⟩
    · have := y r x1 x2
      rw [Int.neg_mul, Int.one_mul, Int.mul_neg]
      omega
    · have := y r x1 x2
      rw [Int.neg_mul, Int.one_mul, Int.mul_neg] at this
      omega
  by_cases y : z.1 (22 + p) + R < 99
  · rw [if_pos y]
    exact ⟨by omega, (hF _ (by omega) (by omega)).mpr (by omega), fun v a b2 w => by have := (hF v (by omega) b2).mp w; omega⟩
  · rw [if_neg y]
    exact ⟨by omega, (hF _ (by omega) (by omega)).mpr (by omega), fun v a b2 => by omega⟩
theorem c8_leastBound (hL : LI K z) {p A : Int} (hp : R32 p) (hA : (0 ≤ p ∧ p < z.1 1) → LeB z.1 p A) : ((0 ≤ p ∧ p < z.1 1) → ClX d z (f_X8_leastBound d p) 0 A z) ∧ (¬ (0 ≤ p ∧ p < z.1 1) → ClX d z (f_X8_leastBound d p) 3 0 z) := by
  have g := hL.1.1; have g0 := g.1; have g1 := g.2.1
  refine ⟨fun h => ClX_v (fun c hC => ?_), fun h => ClX_v (fun c hC => ?_)⟩
  · have b := g.2.2.2.2 p h.1 (by omega)
    have e0 : c (d + 1 + 1) 0 = z.1 0 := hC.1.1.1
    obtain ⟨R, eR, hR, hx⟩ := room8 hC.1.2.1 g hL.1.2.1 (q := z.1 0 + p) (e := 1) (by omega) (Or.inl rfl)
    unfold f_X8_leastBound
    rw [(rqC8 hC.1.1 g hp _).1 h]
    try dsimp only
    rw [bd8 hC.1.1 g h, cv_s]
    unfold f_X4_roomToFall
    rw [e0, eR, cv_s, cv_s, gd_t (by omega), LeB_u (fall8 hL h hR hx) (hA h)]
  · unfold f_X8_leastBound
    rw [(rqC8 hC.1.1 g hp _).2 h]
theorem c8_greatestBound (hL : LI K z) {p A : Int} (hp : R32 p) (hA : (0 ≤ p ∧ p < z.1 1) → GrB z.1 p A) : ((0 ≤ p ∧ p < z.1 1) → ClX d z (f_X8_greatestBound d p) 0 A z) ∧ (¬ (0 ≤ p ∧ p < z.1 1) → ClX d z (f_X8_greatestBound d p) 3 0 z) := by
  have g := hL.1.1; have g0 := g.1; have g1 := g.2.1
  refine ⟨fun h => ClX_v (fun c hC => ?_), fun h => ClX_v (fun c hC => ?_)⟩
  · have b := g.2.2.2.2 p h.1 (by omega)
    have e0 : c (d + 1 + 1) 0 = z.1 0 := hC.1.1.1
    obtain ⟨R, eR, hR, hx⟩ := room8 hC.1.2.1 g hL.1.2.1 (q := z.1 0 + p) (e := -1) (by omega) (Or.inr rfl)
    unfold f_X8_greatestBound
    rw [(rqC8 hC.1.1 g hp _).1 h]
    try dsimp only
    rw [bd8 hC.1.1 g h, cv_s]
    unfold f_X4_roomToRise
    rw [e0, eR, cv_s, cv_s, gd_t (by omega), GrB_u (rise8 hL h hR hx) (hA h)]
  · unfold f_X8_greatestBound
    rw [(rqC8 hC.1.1 g hp _).2 h]
theorem m9_leastBound (hL : LI K z) {p A : Int} (hp : R32 p) (hA : (0 ≤ p ∧ p < z.1 1) → LeB z.1 p A) : ((0 ≤ p ∧ p < z.1 1) → Mo m z (f_X9_leastBound m p) 0 A z) ∧ (¬ (0 ≤ p ∧ p < z.1 1) → Mo m z (f_X9_leastBound m p) 1 0 z) := by
  have g := hL.1.1
  refine ⟨fun h => Mo_s (fun c hM => ?_), fun h => Mo_s (fun c hM => ?_)⟩ <;> obtain ⟨v, ev, hv⟩ := isC9 hM.1 g hp <;> unfold f_X9_leastBound <;> rw [ev, cv_s]
  · rw [(tst9 hv _).1 h]
    try dsimp only
    obtain ⟨B, c1, e1, hQ, hB⟩ := outer9 (m := m) (c := upc c m (updZ (c m) 0 0)) hL ((tz_q (by omega)).trans hM.1) h (e := 1) (Or.inr rfl)
    have hB2 : B = A := by
      rcases hB with ⟨-, y⟩ | ⟨y, -⟩
      · exact LeB_u y (hA h)
      · omega
    rw [gd_t (by omega), bq_n (by omega), e1, cl_s, hB2]
    exact ⟨_, rfl, hQ⟩
  · rw [(tst9 hv _).2 h]
    try dsimp only
    rw [gd_t (by omega), bq_p rfl]
    exact ⟨_, rfl, Qs.rf⟩
theorem m9_greatestBound (hL : LI K z) {p A : Int} (hp : R32 p) (hA : (0 ≤ p ∧ p < z.1 1) → GrB z.1 p A) : ((0 ≤ p ∧ p < z.1 1) → Mo m z (f_X9_greatestBound m p) 0 A z) ∧ (¬ (0 ≤ p ∧ p < z.1 1) → Mo m z (f_X9_greatestBound m p) 1 0 z) := by
  have g := hL.1.1
  refine ⟨fun h => Mo_s (fun c hM => ?_), fun h => Mo_s (fun c hM => ?_)⟩ <;> obtain ⟨v, ev, hv⟩ := isC9 hM.1 g hp <;> unfold f_X9_greatestBound <;> rw [ev, cv_s]
  · rw [(tst9 hv _).1 h]
    try dsimp only
    obtain ⟨B, c1, e1, hQ, hB⟩ := outer9 (m := m) (c := upc c m (updZ (c m) 0 0)) hL ((tz_q (by omega)).trans hM.1) h (e := 0) (Or.inl rfl)
    have hB2 : B = A := by
      rcases hB with ⟨y, -⟩ | ⟨-, y⟩
      · omega
      · exact GrB_u y (hA h)
    rw [gd_t (by omega), bq_n (by omega), e1, cl_s, hB2]
    exact ⟨_, rfl, hQ⟩
  · rw [(tst9 hv _).2 h]
    try dsimp only
    rw [gd_t (by omega), bq_p rfl]
    exact ⟨_, rfl, Qs.rf⟩
end BE
