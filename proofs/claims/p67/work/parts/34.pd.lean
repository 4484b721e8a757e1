section PD
variable {d m : Nat} {z : St} {K : Int}
theorem c8_setCoefficient (hL : LI K z) {p q x : Int} (hp : R32 p) (hq : R32 q) (hx : R32 x) : (((0 ≤ p ∧ p < z.1 1) ∧ 0 ≤ q ∧ q < z.1 0) ∧ B9 x → ClX d z (f_X8_setCoefficient d p q x) 0 (z.1 (6 + 4 * p + q)) (psh z (bgF (updZ z.1 (6 + 4 * p + q) x)))) ∧ (¬ ((0 ≤ p ∧ p < z.1 1) ∧ 0 ≤ q ∧ q < z.1 0) → ClX d z (f_X8_setCoefficient d p q x) 3 0 z) ∧ (((0 ≤ p ∧ p < z.1 1) ∧ 0 ≤ q ∧ q < z.1 0) ∧ ¬ B9 x → ClX d z (f_X8_setCoefficient d p q x) 1 0 z) := by
  have g := hL.1.1
  have g0 := g.1; have g1 := g.2.1
  refine ⟨fun h c hC => ?_, fun h => ClX_t (fun c hC => ?_), fun h => ClX_t (fun c hC => ?_)⟩
  · obtain ⟨c3, c4, c5, e3, hR, e4, e5, hF, hC5⟩ := chg8 (F1 := updZ z.1 (6 + 4 * p + q) x) hC (up_g2 g ⟨h.1.1.1, by omega⟩ ⟨h.1.2.1, by omega⟩ h.2) (updZ_n (by omega)) (updZ_n (by omega)) (updZ_n (by omega)) (f_X2_putCoefficient (d + 2) p q x) 0 (fun c3 hP => by
      unfold f_X2_putCoefficient
      rw [gd_t (by omega)]
      refine ⟨_, rfl, Fr.up (Or.inr rfl), put8 hP (by omega) (updZ_n (by omega)) (updZ_n (by omega)) (fun r y a b a2 b2 => ?_) (fun y a b => ?_) (fun r a b => ?_) (fun r y a b a2 b2 e => by omega)⟩
      · unfold updZ
        by_cases e : r = p ∧ y = q
        · rw [if_pos (by omega), if_pos (by omega)]
        · rw [if_neg (by omega), if_neg (by omega)]
      · rw [updZ_n (by omega), if_neg (by omega)]
      · rw [updZ_n (by omega), if_neg (by omega)])
    unfold f_X8_setCoefficient
    rcases reqC8 (c := c) hC.1.1 g hp with ⟨-, -, r1⟩ | ⟨r1, -⟩
    · rcases reqV8 (c := c) hC.1.1 g hq with ⟨-, -, r2⟩ | ⟨r2, -⟩
      · rcases reqF8 (c := c) hx with ⟨-, r3⟩ | ⟨r3, -⟩
        · have ev : f_X2_coefficient (d + 2) p q c3 = some (z.1 (6 + 4 * p + q)) := by
            unfold f_X2_coefficient
            rw [gd_t (by omega), hR.1.2.2.1 p q h.1.1.1 h.1.1.2 h.1.2.1 (by omega)]
          rw [r1, cx_s, r2, cx_s, r3, cx_s, e3, cl_s, ev, cv_s, e4, cl_s, e5, cl_s]
          exact ⟨c5, rfl, hF, hC5⟩
        · exact absurd h.2 r3
      · exact absurd h.1.2 r2
    · exact absurd h.1.1 r1
  · unfold f_X8_setCoefficient
    rcases reqC8 (c := c) hC.1.1 g hp with ⟨a, b, r1⟩ | ⟨-, r1⟩
    · rcases reqV8 (c := c) hC.1.1 g hq with ⟨a2, b2, -⟩ | ⟨-, r2⟩
      · exact absurd ⟨⟨a, b⟩, a2, b2⟩ h
      · rw [r1, cx_s, r2, cx_x (by decide)]
    · rw [r1, cx_x (by decide)]
  · unfold f_X8_setCoefficient
    rcases reqC8 (c := c) hC.1.1 g hp with ⟨a, b, r1⟩ | ⟨r1, -⟩
    · rcases reqV8 (c := c) hC.1.1 g hq with ⟨a2, b2, r2⟩ | ⟨r2, -⟩
      · rcases reqF8 (c := c) hx with ⟨r3, -⟩ | ⟨-, r3⟩
        · exact absurd r3 h.2
        · rw [r1, cx_s, r2, cx_s, r3, cx_x (by decide)]
      · exact absurd h.1.2 r2
    · exact absurd h.1.1 r1
theorem m9_setCoefficient (hL : LI K z) {p q x : Int} (hp : R32 p) (hq : R32 q) (hx : R32 x) : (((0 ≤ p ∧ p < z.1 1) ∧ 0 ≤ q ∧ q < z.1 0) ∧ B9 x → Mo m z (f_X9_setCoefficient m p q x) 0 (z.1 (6 + 4 * p + q)) (psh z (bgF (updZ z.1 (6 + 4 * p + q) x)))) ∧ (¬ ((0 ≤ p ∧ p < z.1 1) ∧ 0 ≤ q ∧ q < z.1 0) → Mo m z (f_X9_setCoefficient m p q x) 1 0 z) ∧ (((0 ≤ p ∧ p < z.1 1) ∧ 0 ≤ q ∧ q < z.1 0) ∧ ¬ B9 x → Mo m z (f_X9_setCoefficient m p q x) 2 0 z) := by
  have g := hL.1.1
  have g0 := g.1; have g1 := g.2.1
  obtain ⟨u, eu, hu⟩ := in9 (a := x) (b := -9) (c := 9) hx (by omega) (by omega)
  refine ⟨fun h c hM => ?_, fun h => Mo_t (fun c hM => ?_), fun h => Mo_t (fun c hM => ?_)⟩
  · obtain ⟨v, ev, hv⟩ := isC9 hM.1 g hp
    obtain ⟨w, ew, hw⟩ := isV9 hM.1 g hq
    obtain rfl : v = 1 := by omega
    obtain rfl : w = 1 := by omega
    obtain rfl : u = 1 := by omega
    obtain ⟨c5, e5, hF5, hM5, ht5⟩ := m9_changes hL (j := 6 + 4 * p + q) (v := x) (by omega) (up_g2 g ⟨h.1.1.1, by omega⟩ ⟨h.1.2.1, by omega⟩ h.2) (MI_t (t := 0) hM)
    unfold f_X9_setCoefficient
    simp only [jn]
    rw [ev, cv_s, gd_t (by omega), bq_n (by omega), ew, cv_s, gd_t (by omega), bq_n (by omega), eu, cv_s, gd_t (by omega), bq_n (by omega), holds9 (by omega), cl_s, if_pos rfl, gd_t (by omega), bq_n (by omega), e5, cl_s]
    exact ⟨c5, rfl, FrM_t.tr hF5, hM5, by rw [ht5, upc_s, updZ_s]⟩
  · obtain ⟨v, ev, hv⟩ := isC9 hM.1 g hp
    obtain ⟨w, ew, hw⟩ := isV9 hM.1 g hq
    unfold f_X9_setCoefficient
    simp only [jn]
    rw [ev, cv_s, gd_t (by omega)]
    rcases hv with ⟨rfl, hv⟩ | ⟨rfl, hv⟩
    · obtain rfl : w = 0 := by omega
      rw [bq_n (by omega), ew, cv_s, gd_t (by omega), bq_p rfl, holds9 (by omega), cl_s, if_neg (by omega), gd_t (by omega), bq_p rfl]
    · rw [bq_p rfl, holds9 (by omega), cl_s, if_neg (by omega), gd_t (by omega), bq_p rfl]
  · obtain ⟨v, ev, hv⟩ := isC9 hM.1 g hp
    obtain ⟨w, ew, hw⟩ := isV9 hM.1 g hq
    obtain rfl : v = 1 := by omega
    obtain rfl : w = 1 := by omega
    obtain rfl : u = 0 := by omega
    unfold f_X9_setCoefficient
    simp only [jn]
    rw [ev, cv_s, gd_t (by omega), bq_n (by omega), ew, cv_s, gd_t (by omega), bq_n (by omega), eu, cv_s, gd_t (by omega), bq_p rfl, holds9 (by omega), cl_s, if_neg (by omega), gd_t (by omega), bq_p rfl]
theorem c8_setBound (hL : LI K z) {p q : Int} (hp : R32 p) (hq : R32 q) : ((0 ≤ p ∧ p < z.1 1) ∧ (0 ≤ q ∧ q ≤ 99) → ClX d z (f_X8_setBound d p q) 0 (z.1 (22 + p)) (psh z (bgF (updZ z.1 (22 + p) q)))) ∧ (¬ (0 ≤ p ∧ p < z.1 1) → ClX d z (f_X8_setBound d p q) 3 0 z) ∧ ((0 ≤ p ∧ p < z.1 1) ∧ ¬ (0 ≤ q ∧ q ≤ 99) → ClX d z (f_X8_setBound d p q) 1 0 z) := by
  have g := hL.1.1
  have g0 := g.1; have g1 := g.2.1
  refine ⟨fun h c hC => ?_, fun h => ClX_t (fun c hC => ?_), fun h => ClX_t (fun c hC => ?_)⟩
  · obtain ⟨c3, c4, c5, e3, hR, e4, e5, hF, hC5⟩ := chg8 (F1 := updZ z.1 (22 + p) q) hC (up_g3 g ⟨h.1.1, by omega⟩ h.2) (updZ_n (by omega)) (updZ_n (by omega)) (updZ_n (by omega)) (f_X2_putBound (d + 2) p q) 0 (fun c3 hP => by
      unfold f_X2_putBound
      rw [gd_t (by omega)]
      refine ⟨_, rfl, Fr.up (Or.inr rfl), put8 hP (by omega) (updZ_n (by omega)) (updZ_n (by omega)) (fun r x a b a2 b2 => ?_) (fun x a b => ?_) (fun r a b => ?_) (fun r x a b a2 b2 e => by omega)⟩
      · rw [updZ_n (by omega), if_neg (by omega)]
      · rw [updZ_n (by omega), if_neg (by omega)]
      · unfold updZ
        by_cases e : r = p
        · rw [if_pos (by omega), if_pos (by omega)]
        · rw [if_neg (by omega), if_neg (by omega)])
    unfold f_X8_setBound
    rcases reqC8 (c := c) hC.1.1 g hp with ⟨-, -, r1⟩ | ⟨r1, -⟩
    · rcases reqB8 (c := c) hq with ⟨-, r2⟩ | ⟨r2, -⟩
      · rw [r1, cx_s, r2, cx_s, e3, cl_s, bd8 hR.1 g h.1, cv_s, e4, cl_s, e5, cl_s]
        exact ⟨c5, rfl, hF, hC5⟩
      · exact absurd h.2 r2
    · exact absurd h.1 r1
  · unfold f_X8_setBound
    rcases reqC8 (c := c) hC.1.1 g hp with ⟨a, b, -⟩ | ⟨-, r1⟩
    · exact absurd ⟨a, b⟩ h
    · rw [r1, cx_x (by decide)]
  · unfold f_X8_setBound
    rcases reqC8 (c := c) hC.1.1 g hp with ⟨a, b, r1⟩ | ⟨r1, -⟩
    · rcases reqB8 (c := c) hq with ⟨r2, -⟩ | ⟨-, r2⟩
      · exact absurd r2 h.2
      · rw [r1, cx_s, r2, cx_x (by decide)]
    · exact absurd h.1 r1
theorem m9_setBound (hL : LI K z) {p q : Int} (hp : R32 p) (hq : R32 q) : ((0 ≤ p ∧ p < z.1 1) ∧ (0 ≤ q ∧ q ≤ 99) → Mo m z (f_X9_setBound m p q) 0 (z.1 (22 + p)) (psh z (bgF (updZ z.1 (22 + p) q)))) ∧ (¬ (0 ≤ p ∧ p < z.1 1) → Mo m z (f_X9_setBound m p q) 1 0 z) ∧ ((0 ≤ p ∧ p < z.1 1) ∧ ¬ (0 ≤ q ∧ q ≤ 99) → Mo m z (f_X9_setBound m p q) 2 0 z) := by
  have g := hL.1.1
  have g0 := g.1; have g1 := g.2.1
  obtain ⟨u, eu, hu⟩ := in9 (a := q) (b := 0) (c := 99) hq (by omega) (by omega)
  refine ⟨fun h c hM => ?_, fun h => Mo_t (fun c hM => ?_), fun h => Mo_t (fun c hM => ?_)⟩
  · obtain ⟨v, ev, hv⟩ := isC9 hM.1 g hp
    obtain rfl : v = 1 := by omega
    obtain rfl : u = 1 := by omega
    obtain ⟨c5, e5, hF5, hM5, ht5⟩ := m9_changes hL (j := 22 + p) (v := q) (by omega) (up_g3 g ⟨h.1.1, by omega⟩ h.2) (MI_t (t := 0) hM)
    unfold f_X9_setBound
    simp only [jn]
    rw [ev, cv_s, gd_t (by omega), bq_n (by omega), eu, cv_s, gd_t (by omega), bq_n (by omega), holds9 (by omega), cl_s, if_pos rfl, gd_t (by omega), bq_n (by omega), e5, cl_s]
    exact ⟨c5, rfl, FrM_t.tr hF5, hM5, by rw [ht5, upc_s, updZ_s]⟩
  · obtain ⟨v, ev, hv⟩ := isC9 hM.1 g hp
    obtain rfl : v = 0 := by omega
    unfold f_X9_setBound
    simp only [jn]
    rw [ev, cv_s, gd_t (by omega), bq_p rfl, holds9 (by omega), cl_s, if_neg (by omega), gd_t (by omega), bq_p rfl]
  · obtain ⟨v, ev, hv⟩ := isC9 hM.1 g hp
    obtain rfl : v = 1 := by omega
    obtain rfl : u = 0 := by omega
    unfold f_X9_setBound
    simp only [jn]
    rw [ev, cv_s, gd_t (by omega), bq_n (by omega), eu, cv_s, gd_t (by omega), bq_p rfl, holds9 (by omega), cl_s, if_neg (by omega), gd_t (by omega), bq_p rfl]
/-! addConstraint -/
def adF (F : Int → Int) (b : Int) : Int → Int := fun i => if i = 1 then F 1 + 1 else if 6 + 4 * F 1 ≤ i ∧ i < 10 + 4 * F 1 then 0 else if i = 22 + F 1 then b else F i
theorem adF_g {F : Int → Int} (g : GdP F) {b : Int} (hm : F 1 < 4) (hb : 0 ≤ b ∧ b ≤ 99) : GdP (adF F b) := by
  obtain ⟨h0, h1, h2, h3, h4⟩ := g
  refine ⟨?_, ?_, fun v x y => ?_, fun c v x y x2 y2 => ?_, fun c x y => ?_⟩
  · unfold adF; rw [if_neg (by omega), if_neg (by omega), if_neg (by omega)]; exact h0
  · unfold adF; rw [if_pos rfl]; omega
  · unfold adF; rw [if_neg (by omega), if_neg (by omega), if_neg (by omega)]; exact h2 v x y
  · unfold adF
    have := h3 c v x y x2 y2
    (repeat' split) <;> omega
  · unfold adF
    have := h4 c x y
    (repeat' split) <;> omega
theorem adF_k {F : Int → Int} {b i : Int} (g : GdP F) (hm : F 1 < 4) (hi : 26 ≤ i) : adF F b i = F i := by
  have := g.2.1
  unfold adF
  rw [if_neg (by omega), if_neg (by omega), if_neg (by omega)]
theorem c8_addConstraint (hL : LI K z) {p : Int} (hp : R32 p) : ((0 ≤ p ∧ p ≤ 99) ∧ z.1 1 < 4 → ClX d z (f_X8_addConstraint d p) 0 (z.1 1) (psh z (bgF (adF z.1 p)))) ∧ (¬ (0 ≤ p ∧ p ≤ 99) → ClX d z (f_X8_addConstraint d p) 1 0 z) ∧ ((0 ≤ p ∧ p ≤ 99) ∧ ¬ z.1 1 < 4 → ClX d z (f_X8_addConstraint d p) 2 0 z) := by
  have g := hL.1.1
  have g0 := g.1; have g1 := g.2.1
  refine ⟨fun h c hC => ?_, fun h => ClX_t (fun c hC => ?_), fun h => ClX_t (fun c hC => ?_)⟩
  · obtain ⟨c3, c4, c5, e3, hR, e4, e5, hF, hC5⟩ := chg8 (F1 := adF z.1 p) hC (adF_g g h.2 h.1) (adF_k g h.2 (by omega)) (adF_k g h.2 (by omega)) (adF_k g h.2 (by omega)) (f_X2_add (d + 2) p) (z.1 1) (fun c3 hP => by
      obtain ⟨k1, k2, k3, k4, k5, k6⟩ := hP
      unfold f_X2_add
      rw [k2, gd_t (by omega)]
      refine ⟨_, rfl, (Fr.up (Or.inr rfl)).tr (Fr.up (Or.inl rfl)), ?_, ?_, fun r v a b a2 b2 => ?_, fun v a b => ?_, fun r a b => ?_, fun r v a b a2 b2 => ?_⟩
      · rw [upc_s, updZ_n (by decide), k1]
        unfold adF
        rw [if_neg (by omega), if_neg (by omega), if_neg (by omega)]
      · rw [upc_s, updZ_s]; rfl
      · rw [upc_n (by omega), upc_s]
        have b' : r < z.1 1 + 1 := b
        unfold updZ addZ adF
        by_cases e : r = z.1 1
        · rw [if_neg (by omega), if_pos (by omega), if_neg (by omega), if_pos (by omega)]
        · have := k3 r v a (by omega) a2 b2
          rw [if_neg (by omega), if_neg (by omega), if_neg (by omega), if_neg (by omega), if_neg (by omega)]
          exact this
      · rw [upc_n (by omega), upc_s]
        unfold updZ addZ adF
        rw [if_neg (by omega), if_neg (by omega), if_neg (by omega), if_neg (by omega), if_neg (by omega)]
        exact k4 v a b
      · rw [upc_n (by omega), upc_s]
        have b' : r < z.1 1 + 1 := b
        unfold updZ addZ adF
        by_cases e : r = z.1 1
        · rw [if_pos (by omega), if_neg (by omega), if_neg (by omega), if_pos (by omega)]
        · have := k5 r a (by omega)
          rw [if_neg (by omega), if_neg (by omega), if_neg (by omega), if_neg (by omega), if_neg (by omega)]
          exact this
      · rw [upc_n (by omega), upc_s]
        have a2' : z.1 0 ≤ v := by
          have e : adF z.1 p 0 = z.1 0 := by
            unfold adF
            rw [if_neg (by omega), if_neg (by omega), if_neg (by omega)]
          rw [e] at a2
          exact a2
        unfold updZ addZ
        rw [if_neg (by omega)]
        split
        · rfl
        · exact k6 r v a b a2' b2)
    unfold f_X8_addConstraint
    rcases reqB8 (c := c) hp with ⟨-, r1⟩ | ⟨r1, -⟩
    · rw [r1, cx_s, hC.1.1.2.1, gd_t (by omega), bq_p h.2, e3, cl_s, e4, cl_s, e5, cl_s]
      exact ⟨c5, rfl, hF, hC5⟩
    · exact absurd h.1 r1
  · unfold f_X8_addConstraint
    rcases reqB8 (c := c) hp with ⟨r1, -⟩ | ⟨-, r1⟩
    · exact absurd r1 h
    · rw [r1, cx_x (by decide)]
  · unfold f_X8_addConstraint
    rcases reqB8 (c := c) hp with ⟨-, r1⟩ | ⟨r1, -⟩
    · rw [r1, cx_s, hC.1.1.2.1, gd_t (by omega), bq_n h.2]
    · exact absurd h.1 r1
theorem m9_addConstraint (hL : LI K z) {p : Int} (hp : R32 p) : ((0 ≤ p ∧ p ≤ 99) ∧ z.1 1 < 4 → Mo m z (f_X9_addConstraint m p) 0 (z.1 1) (psh z (bgF (adF z.1 p)))) ∧ (¬ (0 ≤ p ∧ p ≤ 99) → Mo m z (f_X9_addConstraint m p) 1 0 z) ∧ ((0 ≤ p ∧ p ≤ 99) ∧ ¬ z.1 1 < 4 → Mo m z (f_X9_addConstraint m p) 2 0 z) := by
  have g := hL.1.1
  have g0 := g.1; have g1 := g.2.1
  obtain ⟨u, eu, hu⟩ := in9 (a := p) (b := 0) (c := 99) hp (by omega) (by omega)
  refine ⟨fun h c hM => ?_, fun h => Mo_t (fun c hM => ?_), fun h => Mo_t (fun c hM => ?_)⟩
  · obtain rfl : u = 1 := by omega
    have hM0 := MI_t (t := 0) hM
    obtain ⟨c3, e3, hF3, hi3, hS3⟩ := save9 (F := z.1) hM0.1 hM0.2.1 hL.2.1
    have k3 : c3 (m + 1) = z.1 := (hF3 _ (by omega)).trans hM0.1
    have Lo : ∀ (κ : W0 → Option (Int × W0)) (k fuel : Nat) (l : Int) (c1 : W0), l + k = 4 → 0 ≤ l → k + 1 ≤ fuel → Fr (fun q => q = m + 1) c3 c1 → c1 (m + 1) = (fun i => if i = 1 then z.1 1 + 1 else if 6 + 4 * z.1 1 ≤ i ∧ i < 6 + 4 * z.1 1 + l then 0 else z.1 i) → ∃ c2, f_X9_addConstraint_61 m p (z.1 1) κ fuel l c1 = κ c2 ∧ Fr (fun q => q = m + 1) c3 c2 ∧ c2 (m + 1) = (fun i => if i = 1 then z.1 1 + 1 else if 6 + 4 * z.1 1 ≤ i ∧ i < 10 + 4 * z.1 1 then 0 else z.1 i) := by
      intro κ k
      induction k with
      | zero =>
        intro fuel l c1 hl h0 hf hFr hI
        obtain ⟨f, rfl⟩ : ∃ f, fuel = f + 1 := ⟨fuel - 1, by omega⟩
        obtain rfl : l = 4 := by omega
        rw [f_X9_addConstraint_61_s]
        unfold b_X9_addConstraint_61
        rw [gd_t (by omega), bq_p (by omega)]
        refine ⟨c1, rfl, hFr, ?_⟩
        rw [hI]
        funext i
        (repeat' split) <;> first | rfl | omega
      | succ k ih =>
        intro fuel l c1 hl h0 hf hFr hI
        obtain ⟨f, rfl⟩ : ∃ f, fuel = f + 1 := ⟨fuel - 1, by omega⟩
        rw [f_X9_addConstraint_61_s]
        unfold b_X9_addConstraint_61
        simp only [sto]
        rw [gd_t (by omega), bq_n (by omega), gd_t (by omega)]
        refine ih f (l + 1) _ (by omega) (by omega) (by omega) (hFr.tr (Fr.up rfl)) ?_
        rw [upc_s, hI]
        funext i
        unfold updZ
        try dsimp only
        (repeat' split) <;> first | rfl | omega
    unfold f_X9_addConstraint
    simp only [jn]
    rw [eu, cv_s, gd_t (by omega), bq_n (by omega), hM.1, gd_t (by omega), bq_n (by omega), holds9 (by omega), cl_s, if_pos rfl, gd_t (by omega), bq_n (by omega), e3, cl_s]
    simp only [sto]
    rw [k3]
    obtain ⟨c9, e9, hF9, h9⟩ := Lo (fun c9 => gd (0 ≤ (22 + (z.1 1)) ∧ (22 + (z.1 1)) < 34) <| cl (f_X9_begins m (upc c9 (m + 1) (updZ (c9 (m + 1)) (22 + (z.1 1)) p))) fun _ c11 => some ((z.1 1), c11)) 4 LF 0 (upc c3 (m + 1) (updZ z.1 1 (z.1 1 + 1))) (by omega) (by omega) (by rw [LF_g]; omega) (Fr.up rfl) (by
      rw [upc_s]
      funext i
      unfold updZ
      try dsimp only
      (repeat' split) <;> first | rfl | omega)
    rw [e9]
    try dsimp only
    rw [gd_t (by omega)]
    have gA := adF_g g h.2 h.1
    obtain ⟨c5, e5, hF5, hM5, ht5, -⟩ := chg9 (F1 := adF z.1 p) (c4 := upc c9 (m + 1) (updZ (c9 (m + 1)) (22 + (z.1 1)) p)) hM0 hL.2.1 gA.2.1 e3 (hF9.tr (Fr.up rfl)) (by
      rw [upc_s, h9]
      funext i
      unfold updZ adF
      try dsimp only
      (repeat' split) <;> first | rfl | omega)
    rw [e5, cl_s]
    exact ⟨c5, rfl, FrM_t.tr hF5, hM5, by rw [ht5, upc_s, updZ_s]⟩
  · obtain rfl : u = 0 := by omega
    unfold f_X9_addConstraint
    simp only [jn]
    rw [eu, cv_s, gd_t (by omega), bq_p rfl, holds9 (by omega), cl_s, if_neg (by omega), gd_t (by omega), bq_p rfl]
  · obtain rfl : u = 1 := by omega
    unfold f_X9_addConstraint
    simp only [jn]
    rw [eu, cv_s, gd_t (by omega), bq_n (by omega), hM.1, gd_t (by omega), bq_p (by omega), holds9 (by omega), cl_s, if_neg (by omega), gd_t (by omega), bq_p rfl]
/-! dropConstraint -/
def drF (F : Int → Int) (k : Int) : Int → Int := fun i => if i = 1 then F 1 - 1 else if 22 + k ≤ i ∧ i < 21 + F 1 then F (i + 1) else if 6 + 4 * k ≤ i ∧ i < 2 + 4 * F 1 then F (i + 4) else F i
theorem drF_g {F : Int → Int} (g : GdP F) {k : Int} (hk : 0 ≤ k ∧ k < F 1) : GdP (drF F k) := by
  obtain ⟨h0, h1, h2, h3, h4⟩ := g
  refine ⟨?_, ?_, fun v x y => ?_, fun c v x y x2 y2 => ?_, fun c x y => ?_⟩
  · unfold drF; rw [if_neg (by omega), if_neg (by omega), if_neg (by omega)]; exact h0
  · unfold drF; rw [if_pos rfl]; omega
  · unfold drF; rw [if_neg (by omega), if_neg (by omega), if_neg (by omega)]; exact h2 v x y
  · unfold drF
    by_cases e : 6 + 4 * k ≤ 6 + 4 * c + v ∧ 6 + 4 * c + v < 2 + 4 * F 1
    · rw [if_neg (by omega), if_neg (by omega), if_pos e]
      have := h3 (c + 1) v (by omega) (by omega) x2 y2
      rw [show 6 + 4 * c + v + 4 = 6 + 4 * (c + 1) + v by omega]
      exact this
    · rw [if_neg (by omega), if_neg (by omega), if_neg e]
      exact h3 c v x y x2 y2
  · unfold drF
    by_cases e : 22 + k ≤ 22 + c ∧ 22 + c < 21 + F 1
    · rw [if_neg (by omega), if_pos e]
      have := h4 (c + 1) (by omega) (by omega)
      rw [show 22 + c + 1 = 22 + (c + 1) by omega]
      exact this
    · rw [if_neg (by omega), if_neg e, if_neg (by omega)]
      exact h4 c x y
theorem drF_k {F : Int → Int} {k i : Int} (g : GdP F) (hk : 0 ≤ k ∧ k < F 1) (hi : 26 ≤ i) : drF F k i = F i := by
  have := g.2.1
  unfold drF
  rw [if_neg (by omega), if_neg (by omega), if_neg (by omega)]
theorem c8_dropConstraint (hL : LI K z) {p : Int} (hp : R32 p) : ((0 ≤ p ∧ p < z.1 1) → ClX d z (f_X8_dropConstraint d p) 0 (z.1 1 - 1) (psh z (bgF (drF z.1 p)))) ∧ (¬ (0 ≤ p ∧ p < z.1 1) → ClX d z (f_X8_dropConstraint d p) 3 0 z) := by
  have g := hL.1.1
  have g0 := g.1; have g1 := g.2.1
  refine ⟨fun h c hC => ?_, fun h => ClX_t (fun c hC => ?_)⟩
  · obtain ⟨c3, c4, c5, e3, hR, e4, e5, hF, hC5⟩ := chg8 (F1 := drF z.1 p) hC (drF_g g h) (drF_k g h (by omega)) (drF_k g h (by omega)) (drF_k g h (by omega)) (f_X2_drop (d + 2) p) 0 (fun c3 hP => by
      obtain ⟨k1, k2, k3, k4, k5, k6⟩ := hP
      unfold f_X2_drop
      rw [k2, gd_t (by omega)]
      refine ⟨_, rfl, (Fr.up (Or.inr rfl)).tr (Fr.up (Or.inl rfl)), ?_, ?_, fun r v a b a2 b2 => ?_, fun v a b => ?_, fun r a b => ?_, fun r v a b a2 b2 => ?_⟩
      · rw [upc_s, updZ_n (by decide), k1]
        unfold drF
        rw [if_neg (by omega), if_neg (by omega), if_neg (by omega)]
      · rw [upc_s, updZ_s]; rfl
      · rw [upc_n (by omega), upc_s]
        have b' : r < z.1 1 - 1 := b
        unfold dropZ drF
        by_cases e : p ≤ r
        · have := k3 (r + 1) v (by omega) (by omega) a2 b2
          rw [if_pos (by omega), if_neg (by omega), if_neg (by omega), if_pos (by omega), show r * 5 + v + 5 = (r + 1) * 5 + v by omega, show 6 + 4 * r + v + 4 = 6 + 4 * (r + 1) + v by omega]
          exact this
        · have := k3 r v a (by omega) a2 b2
          rw [if_neg (by omega), if_neg (by omega), if_neg (by omega), if_neg (by omega)]
          exact this
      · rw [upc_n (by omega), upc_s]
        unfold dropZ drF
        rw [if_neg (by omega), if_neg (by omega), if_neg (by omega), if_neg (by omega)]
        exact k4 v a b
      · rw [upc_n (by omega), upc_s]
        have b' : r < z.1 1 - 1 := b
        unfold dropZ drF
        by_cases e : p ≤ r
        · have := k5 (r + 1) (by omega) (by omega)
          rw [if_pos (by omega), if_neg (by omega), if_pos (by omega), show r * 5 + 4 + 5 = (r + 1) * 5 + 4 by omega, show 22 + r + 1 = 22 + (r + 1) by omega]
          exact this
        · have := k5 r a (by omega)
          rw [if_neg (by omega), if_neg (by omega), if_neg (by omega), if_neg (by omega)]
          exact this
      · rw [upc_n (by omega), upc_s]
        have a2' : z.1 0 ≤ v := by
          have e : drF z.1 p 0 = z.1 0 := by
            unfold drF
            rw [if_neg (by omega), if_neg (by omega), if_neg (by omega)]
          rw [e] at a2
          exact a2
        unfold dropZ
        split
        · rw [show r * 5 + v + 5 = (r + 1) * 5 + v by omega]
          exact k6 (r + 1) v (by omega) (by omega) a2' b2
        · exact k6 r v a b a2' b2)
    unfold f_X8_dropConstraint
    rcases reqC8 (c := c) hC.1.1 g hp with ⟨-, -, r1⟩ | ⟨r1, -⟩
    · rw [r1, cx_s, e3, cl_s, e4, cl_s, e5, cl_s]
      have e9 : c5 (d + 2) 1 = z.1 1 - 1 := by
        have := hC5.1.1.2.1
        rw [show d + 2 = d + 1 + 1 from rfl, this]
        show bgF (drF z.1 p) 1 = _
        rw [bgF_e (by omega)]
        rfl
      rw [e9]
      exact ⟨c5, rfl, hF, hC5⟩
    · exact absurd h r1
  · unfold f_X8_dropConstraint
    rcases reqC8 (c := c) hC.1.1 g hp with ⟨a, b, -⟩ | ⟨-, r1⟩
    · exact absurd ⟨a, b⟩ h
    · rw [r1, cx_x (by decide)]
theorem m9_dropConstraint (hL : LI K z) {p : Int} (hp : R32 p) : ((0 ≤ p ∧ p < z.1 1) → Mo m z (f_X9_dropConstraint m p) 0 (z.1 1 - 1) (psh z (bgF (drF z.1 p)))) ∧ (¬ (0 ≤ p ∧ p < z.1 1) → Mo m z (f_X9_dropConstraint m p) 1 0 z) := by
  have g := hL.1.1
  have g0 := g.1; have g1 := g.2.1
  refine ⟨fun h c hM => ?_, fun h => Mo_t (fun c hM => ?_)⟩
  · obtain ⟨u, eu, hu⟩ := isC9 hM.1 g hp
    obtain rfl : u = 1 := by omega
    have hM0 := MI_t (t := 0) hM
    obtain ⟨c3, e3, hF3, hi3, hS3⟩ := save9 (F := z.1) hM0.1 hM0.2.1 hL.2.1
    have k3 : c3 (m + 1) = z.1 := (hF3 _ (by omega)).trans hM0.1
    -- rows before l have moved
    have Li : ∀ (κ : W0 → Option (Int × W0)) (x : Int) (G : Int → Int), p ≤ x ∧ x < z.1 1 - 1 → ∀ (k fuel : Nat) (l : Int) (c1 : W0), l + k = 4 → 0 ≤ l → k + 1 ≤ fuel → Fr (fun q => q = m + 1) c3 c1 → c1 (m + 1) = (fun i => if 6 + 4 * x ≤ i ∧ i < 6 + 4 * x + l then G (i + 4) else G i) → ∃ c2, f_X9_dropConstraint_70 m x κ fuel l c1 = κ c2 ∧ Fr (fun q => q = m + 1) c3 c2 ∧ c2 (m + 1) = (fun i => if 6 + 4 * x ≤ i ∧ i < 10 + 4 * x then G (i + 4) else G i) := by
      intro κ x G hx k
      induction k with
      | zero =>
        intro fuel l c1 hl h0 hf hFr hI
        obtain ⟨f, rfl⟩ : ∃ f, fuel = f + 1 := ⟨fuel - 1, by omega⟩
        obtain rfl : l = 4 := by omega
        rw [f_X9_dropConstraint_70_s]
        unfold b_X9_dropConstraint_70
        rw [gd_t (by omega), bq_p (by omega)]
        refine ⟨c1, rfl, hFr, ?_⟩
        rw [hI]
        funext i
        by_cases e : 6 + 4 * x ≤ i ∧ i < 10 + 4 * x
        · rw [if_pos (by omega), if_pos e]
        · rw [if_neg (by omega), if_neg e]
      | succ k ih =>
        intro fuel l c1 hl h0 hf hFr hI
        obtain ⟨f, rfl⟩ : ∃ f, fuel = f + 1 := ⟨fuel - 1, by omega⟩
        rw [f_X9_dropConstraint_70_s]
        unfold b_X9_dropConstraint_70
        simp only [sto]
        rw [gd_t (by omega), bq_n (by omega), gd_t (by omega), gd_t (by omega)]
        refine ih f (l + 1) _ (by omega) (by omega) (by omega) (hFr.tr (Fr.up rfl)) ?_
        rw [upc_s, hI]
        funext i
        unfold updZ
        try dsimp only
        by_cases e : i = 6 + 4 * x + l
        · rw [if_pos e, if_neg (by omega), if_pos (by omega), e]
          congr 1
          omega
        · rw [if_neg e]
          by_cases e2 : 6 + 4 * x ≤ i ∧ i < 6 + 4 * x + l
          · rw [if_pos e2, if_pos (by omega)]
          · rw [if_neg e2, if_neg (by omega)]
    have Lo : ∀ (κ : W0 → Option (Int × W0)) (k fuel : Nat) (l : Int) (c1 : W0), l + k = z.1 1 - 1 → p ≤ l → k + 1 ≤ fuel → Fr (fun q => q = m + 1) c3 c1 → c1 (m + 1) = (fun i => if i = 1 then z.1 1 - 1 else if 22 + p ≤ i ∧ i < 22 + l then z.1 (i + 1) else if 6 + 4 * p ≤ i ∧ i < 6 + 4 * l then z.1 (i + 4) else z.1 i) → ∃ c2, f_X9_dropConstraint_38 m κ fuel l c1 = κ c2 ∧ Fr (fun q => q = m + 1) c3 c2 ∧ c2 (m + 1) = drF z.1 p := by
      intro κ k
      induction k with
      | zero =>
        intro fuel l c1 hl h0 hf hFr hI
        obtain ⟨f, rfl⟩ : ∃ f, fuel = f + 1 := ⟨fuel - 1, by omega⟩
        have e1 : c1 (m + 1) 1 = z.1 1 - 1 := by rw [hI]; rfl
        rw [f_X9_dropConstraint_38_s]
        unfold b_X9_dropConstraint_38
        rw [e1, gd_t (by omega), bq_p (by omega)]
        refine ⟨c1, rfl, hFr, ?_⟩
        rw [hI]
        funext i
        unfold drF
        by_cases a1 : i = 1
        · rw [if_pos a1, if_pos a1]
        · rw [if_neg a1, if_neg a1]
          by_cases a2 : 22 + p ≤ i ∧ i < 21 + z.1 1
          · rw [if_pos (by omega), if_pos a2]
          · rw [if_neg (by omega), if_neg a2]
            by_cases a3 : 6 + 4 * p ≤ i ∧ i < 2 + 4 * z.1 1
            · rw [if_pos (by omega), if_pos a3]
            · rw [if_neg (by omega), if_neg a3]
      | succ k ih =>
        intro fuel l c1 hl h0 hf hFr hI
        obtain ⟨f, rfl⟩ : ∃ f, fuel = f + 1 := ⟨fuel - 1, by omega⟩
        have e1 : c1 (m + 1) 1 = z.1 1 - 1 := by rw [hI]; rfl
        rw [f_X9_dropConstraint_38_s]
        unfold b_X9_dropConstraint_38
        simp only [sto]
        rw [e1, gd_t (by omega), bq_n (by omega), gd_t (by omega), gd_t (by omega)]
        obtain ⟨c2, e2, hF2, h2⟩ := Li (fun c2 => f_X9_dropConstraint_38 m κ f (l + 1) c2) l (updZ (c1 (m + 1)) (22 + l) (c1 (m + 1) (22 + l + 1))) ⟨h0, by omega⟩ 4 LF 0 (upc c1 (m + 1) (updZ (c1 (m + 1)) (22 + l) (c1 (m + 1) (22 + l + 1)))) (by omega) (by omega) (by rw [LF_g]; omega) (hFr.tr (Fr.up rfl)) (by
          rw [upc_s]
          funext i
          rw [if_neg (by omega)])
        rw [e2]
        refine ih f (l + 1) c2 (by omega) (by omega) (by omega) hF2 ?_
        rw [h2, hI]
        funext i
        unfold updZ
        try dsimp only
        by_cases a0 : 6 + 4 * l ≤ i ∧ i < 10 + 4 * l
        · rw [if_pos a0, if_neg (by omega), if_neg (by omega), if_neg (by omega), if_neg (by omega), if_neg (by omega), if_neg (by omega), if_pos (by omega)]
        · rw [if_neg a0]
          by_cases a1 : i = 22 + l
          · rw [if_pos a1, if_neg (by omega), if_neg (by omega), if_neg (by omega), if_neg (by omega), if_pos (by omega), a1]
          · rw [if_neg a1]
            by_cases a2 : i = 1
            · rw [if_pos a2, if_pos a2]
            · rw [if_neg a2, if_neg a2]
              by_cases a3 : 22 + p ≤ i ∧ i < 22 + l
              · rw [if_pos a3, if_pos (by omega)]
              · rw [if_neg a3, if_neg (show ¬ (22 + p ≤ i ∧ i < 22 + (l + 1)) by omega)]
                by_cases a4 : 6 + 4 * p ≤ i ∧ i < 6 + 4 * l
                · rw [if_pos a4, if_pos (by omega)]
                · rw [if_neg a4, if_neg (by omega)]
    unfold f_X9_dropConstraint
    simp only [jn]
    rw [eu, cv_s, gd_t (by omega), bq_n (by omega), holds9 (by omega), cl_s, if_pos rfl, gd_t (by omega), bq_n (by omega), e3, cl_s]
    simp only [sto]
    rw [k3]
    obtain ⟨c9, e9, hF9, h9⟩ := Lo (fun c9 => cl (f_X9_begins m c9) fun _ c10 => some ((c10 (m + 1) 1), c10)) (z.1 1 - 1 - p).toNat LF p (upc c3 (m + 1) (updZ z.1 1 (z.1 1 - 1))) (by omega) (by omega) (by rw [LF_g]; omega) (Fr.up rfl) (by
      rw [upc_s]
      funext i
      unfold updZ
      try dsimp only
      by_cases a1 : i = 1
      · rw [if_pos a1, if_pos a1]
      · rw [if_neg a1, if_neg a1, if_neg (by omega), if_neg (by omega)])
    rw [e9]
    try dsimp only
    have gD := drF_g g h
    obtain ⟨c5, e5, hF5, hM5, ht5, h51⟩ := chg9 (F1 := drF z.1 p) hM0 hL.2.1 gD.2.1 e3 hF9 h9
    rw [e5, cl_s, h51, bgF_e (by omega)]
    exact ⟨c5, rfl, FrM_t.tr hF5, hM5, by rw [ht5, upc_s, updZ_s]⟩
  · obtain ⟨u, eu, hu⟩ := isC9 hM.1 g hp
    obtain rfl : u = 0 := by omega
    unfold f_X9_dropConstraint
    simp only [jn]
    rw [eu, cv_s, gd_t (by omega), bq_p rfl, holds9 (by omega), cl_s, if_neg (by omega), gd_t (by omega), bq_p rfl]
/-! begin, setRule -/
theorem c8_begin (hL : LI K z) : ClI d z (f_X8_begin d) (z.1 31) (psh z (bgF z.1)) := by
  intro c hC
  obtain ⟨c3, c4, c5, e3, hR, e4, e5, hF, hC5⟩ := chg8 (F1 := z.1) hC hL.1.1 rfl rfl rfl (fun c3 => some (0, c3)) 0 (fun c3 hP => ⟨c3, rfl, Fr.rf, hP⟩)
  cases e4
  unfold f_X8_begin
  rw [e3, cl_s, e5, cl_s, hR.2.2.2.1]
  exact ⟨c5, rfl, hF, hC5⟩
theorem m9_begin (hL : LI K z) : Mo m z (f_X9_begin m) 0 (z.1 31) (psh z (bgF z.1)) := by
  intro c hM
  have hM0 := MI_t (t := 0) hM
  obtain ⟨c3, e3, hF3, hi3, hS3⟩ := save9 (F := z.1) hM0.1 hM0.2.1 hL.2.1
  have k3 : c3 (m + 1) = z.1 := (hF3 _ (by omega)).trans hM0.1
  unfold f_X9_begin
  simp only [sto]
  obtain ⟨c5, e5, hF5, hM5, ht5, -⟩ := chg9 (F1 := z.1) hM0 hL.2.1 hL.1.1.2.1 e3 Fr.rf k3
  rw [e3, cl_s, e5, cl_s, k3]
  exact ⟨c5, rfl, FrM_t.tr hF5, hM5, by rw [ht5, upc_s, updZ_s]⟩
theorem rl_good {F : Int → Int} {p : Int} (h : Good K F) (hp : 0 ≤ p ∧ p ≤ 2) : Good K (updZ F 26 p) := by
  have hv : ∀ i, i < 26 → updZ F 26 p i = F i := fun i hi => updZ_n (by omega)
  obtain ⟨g, hb, h26, h31, h32, h33⟩ := h
  have g0 := g.1; have g1 := g.2.1
  have g2 := GdP_e hv g
  have eb : bF (updZ F 26 p) = bF F := by
    funext i r
    simp only [bF]
    rw [updZ_n (by omega)]
    by_cases h1 : 0 ≤ r ∧ r < F 1
    · rw [if_pos h1, if_pos h1, updZ_n (by omega), aF_e g1.2 g0.2 hv]
    · rw [if_neg h1, if_neg h1]
  have ed : dF (updZ F 26 p) = dF F := by unfold dF; rw [eb]
  have et : ∀ r q, tF (updZ F 26 p) r q = tF F r q := fun r q => by unfold tF; rw [eb, aF_e g1.2 g0.2 hv]
  have er : ∀ q, rF (updZ F 26 p) q = rF F q := fun q => by
    unfold rF vF
    rw [ed, cF_e g0.2 hv]
    congr 1
    refine s4_c fun r hr => ?_
    show (if r < updZ F 26 p 1 then cF (updZ F 26 p) (updZ F 26 p (27 + r)) * tF (updZ F 26 p) r q else 0) = if r < F 1 then cF F (F (27 + r)) * tF F r q else 0
    rw [updZ_n (by omega), updZ_n (by omega), et, cF_e g0.2 hv]
  refine ⟨g2, ⟨fun r a b => ?_, by rw [ed]; exact hb.2.1, fun r a b => ?_, ?_⟩, by rw [updZ_s]; exact hp, by rw [updZ_n (by omega)]; exact h31, by rw [updZ_n (by omega)]; exact h32, by rw [updZ_n (by omega)]; exact h33⟩
  · rw [updZ_n (by omega)] at b
    rw [updZ_n (by omega), updZ_n (by omega), updZ_n (by omega)]
    exact hb.1 r a b
  · rw [updZ_n (by omega)] at b
    rw [updZ_n (by omega), updZ_n (by omega), et]
    exact hb.2.2.1 r a b
  · rw [updZ_n (by omega), updZ_n (by omega), er]
    exact hb.2.2.2
end PD
