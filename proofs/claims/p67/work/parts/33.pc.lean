section PC
variable {d m : Nat} {z : St} {K : Int}
theorem reqF8 {k : Int} {c : W0} (hk : R32 k) : (B9 k ∧ f_X8_requireFactor k c = some (0, 0, c)) ∨ (¬ B9 k ∧ f_X8_requireFactor k c = some (1, 0, c)) := by
  unfold f_X8_requireFactor
  simp only [jn]
  rw [gd_t hk]
  by_cases h : k < -9
  · rw [bq_p h]; exact Or.inr ⟨by omega, rfl⟩
  · rw [bq_n h, gd_t hk]
    by_cases h2 : k ≤ 9
    · rw [bq_p h2]; exact Or.inl ⟨by omega, rfl⟩
    · rw [bq_n h2]; exact Or.inr ⟨by omega, rfl⟩
theorem reqB8 {k : Int} {c : W0} (hk : R32 k) : ((0 ≤ k ∧ k ≤ 99) ∧ f_X8_requireBound k c = some (0, 0, c)) ∨ (¬ (0 ≤ k ∧ k ≤ 99) ∧ f_X8_requireBound k c = some (1, 0, c)) := by
  unfold f_X8_requireBound
  simp only [jn]
  rw [gd_t hk]
  by_cases h : k < 0
  · rw [bq_p h]; exact Or.inr ⟨by omega, rfl⟩
  · rw [bq_n h, gd_t hk]
    by_cases h2 : k ≤ 99
    · rw [bq_p h2]; exact Or.inl ⟨by omega, rfl⟩
    · rw [bq_n h2]; exact Or.inr ⟨by omega, rfl⟩
theorem ClX_t {f : W0 → Option (Int × Int × W0)} {e : Int} (h : ∀ c, CI d z c → f c = some (e, 0, c)) : ClX d z f e 0 z := fun c hC => ⟨c, h c hC, FrD.rf, hC⟩
theorem Mo_t {f : W0 → Option (Int × W0)} {t : Int} (h : ∀ c, MI m z c → f c = some (0, upc c m (updZ (c m) 0 t))) : Mo m z f t 0 z := fun c hM => ⟨_, h c hM, FrM_t, MI_t hM, by rw [upc_s, updZ_s]⟩
/-! setVariables -/
def nvF (F : Int → Int) (p : Int) : Int → Int := fun i => if i = 0 then p else if 2 ≤ i ∧ i < 6 ∧ p ≤ i - 2 then 0 else if 6 ≤ i ∧ i < 22 ∧ p ≤ (i - 6) % 4 then 0 else F i
theorem nvF_g {F : Int → Int} (g : GdP F) {p : Int} (hp : 1 ≤ p ∧ p ≤ 4) : GdP (nvF F p) := by
  obtain ⟨h0, h1, h2, h3, h4⟩ := g
  refine ⟨hp, h1, fun v a b => ?_, fun c v a b a2 b2 => ?_, fun c a b => ?_⟩
  · unfold nvF
    have := h2 v a b
    (repeat' split) <;> omega
  · unfold nvF
    have := h3 c v a b a2 b2
    (repeat' split) <;> omega
  · unfold nvF
    rw [if_neg (by omega), if_neg (by omega), if_neg (by omega)]
    exact h4 c a b
theorem nv8 {F : Int → Int} {c3 : W0} {p : Int} (hp : 1 ≤ p ∧ p ≤ 4) (g : GdP F) (hP : RepP (d + 2) F c3) : ∃ c4, f_X2_resize (d + 2) p c3 = some (0, c4) ∧ Fr (fun q => q = d + 2 ∨ q = d + 4) c3 c4 ∧ RepP (d + 2) (nvF F p) c4 := by
  obtain ⟨h1, h2, h3, h4, h5, h6⟩ := hP
  have g1 := g.2.1
  unfold f_X2_resize
  rw [gd_t (by omega)]
  refine ⟨_, rfl, (Fr.up (Or.inr rfl)).tr (Fr.up (Or.inl rfl)), ?_, ?_, fun r v a b a2 b2 => ?_, fun v a b => ?_, fun r a b => ?_, fun r v a b a2 b2 => ?_⟩
  · rw [upc_s, updZ_s]; rfl
  · rw [upc_s, updZ_n (by decide), upc_n (by omega)]; exact h2
  · rw [upc_n (by omega), upc_s]
    have b' : r < F 1 := b
    unfold rszZ nvF
    have := h3 r v a b' a2 b2
    (repeat' split) <;> omega
  · rw [upc_n (by omega), upc_s]
    unfold rszZ nvF
    have := h4 v a b
    (repeat' split) <;> omega
  · rw [upc_n (by omega), upc_s]
    have b' : r < F 1 := b
    unfold rszZ nvF
    have := h5 r a b'
    rw [if_neg (by omega), if_neg (by omega), if_neg (by omega), if_neg (by omega)]
    exact this
  · rw [upc_n (by omega), upc_s]
    have a2' : p ≤ v := a2
    unfold rszZ
    rw [if_pos (by omega)]
theorem c8_setVariables (hL : LI K z) {p : Int} (hp : R32 p) : (1 ≤ p ∧ p ≤ 4 ∧ ClX d z (f_X8_setVariables d p) 0 (z.1 0) (psh z (bgF (nvF z.1 p)))) ∨ (¬ (1 ≤ p ∧ p ≤ 4) ∧ ClX d z (f_X8_setVariables d p) 1 0 z) := by
  by_cases h : 1 ≤ p ∧ p ≤ 4
  · refine Or.inl ⟨h.1, h.2, fun c hC => ?_⟩
    obtain ⟨c3, c4, c5, e3, hR, e4, e5, hF, hC5⟩ := chg8 (F1 := nvF z.1 p) hC (nvF_g hL.1.1 h) (by unfold nvF; rw [if_neg (by omega), if_neg (by omega), if_neg (by omega)]) (by unfold nvF; rw [if_neg (by omega), if_neg (by omega), if_neg (by omega)]) (by unfold nvF; rw [if_neg (by omega), if_neg (by omega), if_neg (by omega)]) (f_X2_resize (d + 2) p) 0 (fun c3 hP => nv8 h hL.1.1 hP)
    unfold f_X8_setVariables
    simp only [jn]
    rw [gd_t hp, bq_n (by omega), gd_t hp, bq_p h.2, e3, cl_s, e4, cl_s, e5, cl_s, hR.1.1]
    exact ⟨c5, rfl, hF, hC5⟩
  · refine Or.inr ⟨h, ClX_t (fun c hC => ?_)⟩
    unfold f_X8_setVariables
    simp only [jn]
    rw [gd_t hp]
    by_cases h1 : p < 1
    · rw [bq_p h1]
    · rw [bq_n h1, gd_t hp, bq_n (by omega)]
theorem fresh9 {F F1 : Int → Int} (h : ∀ i, F1 i = F i) : F1 = F := funext h
theorem m9_setVariables (hL : LI K z) {p : Int} (hp : R32 p) : (1 ≤ p ∧ p ≤ 4 → Mo m z (f_X9_setVariables m p) 0 (z.1 0) (psh z (bgF (nvF z.1 p)))) ∧ (¬ (1 ≤ p ∧ p ≤ 4) → Mo m z (f_X9_setVariables m p) 1 0 z) := by
  obtain ⟨v, ev, hv⟩ := in9 (a := p) (b := 1) (c := 4) hp (by omega) (by omega)
  refine ⟨fun h c hM => ?_, fun h => Mo_t (fun c hM => ?_)⟩
  · have hv1 : v = 1 := by omega
    subst hv1
    have g1 := hL.1.1.2.1
    have hM0 := MI_t (t := 0) hM
    obtain ⟨c3, e3, hF3, hi3, hS3⟩ := save9 (F := z.1) hM0.1 hM0.2.1 hL.2.1
    have k3 : c3 (m + 1) = z.1 := (hF3 _ (by omega)).trans hM0.1
    unfold f_X9_setVariables
    simp only [jn]
    rw [ev, cv_s, gd_t (by omega), bq_n (by omega), holds9 (by omega), cl_s, if_pos rfl, gd_t (by omega), bq_n (by omega), e3, cl_s]
    simp only [sto]
    rw [k3]
    have Li : ∀ (κ : W0 → Option (Int × W0)) (b l3 : Int) (G : Int → Int), 0 ≤ l3 ∧ l3 < 4 → ∀ (k fuel : Nat) (l : Int) (c1 : W0), l + k = 4 → 0 ≤ l → k + 1 ≤ fuel → Fr (fun q => q = m + 1) c3 c1 → c1 (m + 1) = (fun i => if 6 + l3 ≤ i ∧ i < 6 + 4 * l + l3 ∧ (i - 6 - l3) % 4 = 0 then 0 else G i) → ∃ c2, f_X9_setVariables_60 m b l3 κ fuel l c1 = κ c2 ∧ Fr (fun q => q = m + 1) c3 c2 ∧ c2 (m + 1) = (fun i => if 6 + l3 ≤ i ∧ i < 6 + 4 * 4 + l3 ∧ (i - 6 - l3) % 4 = 0 then 0 else G i) := by
      intro κ b l3 G hl3 k
      induction k with
      | zero =>
        intro fuel l c1 hl h0 hf hFr hI
        obtain ⟨f, rfl⟩ : ∃ f, fuel = f + 1 := ⟨fuel - 1, by omega⟩
        obtain rfl : l = 4 := by omega
        rw [f_X9_setVariables_60_s]
        unfold b_X9_setVariables_60
        rw [gd_t (by omega), bq_p (by omega)]
        exact ⟨c1, rfl, hFr, hI⟩
      | succ k ih =>
        intro fuel l c1 hl h0 hf hFr hI
        obtain ⟨f, rfl⟩ : ∃ f, fuel = f + 1 := ⟨fuel - 1, by omega⟩
        rw [f_X9_setVariables_60_s]
        unfold b_X9_setVariables_60
        simp only [sto]
        rw [gd_t (by omega), bq_n (by omega), gd_t (by omega)]
        refine ih f (l + 1) _ (by omega) (by omega) (by omega) (hFr.tr (Fr.up rfl)) ?_
        rw [upc_s, hI]
        funext i
        unfold updZ
        try dsimp only
        by_cases e : i = 6 + 4 * l + l3
        · rw [if_pos e, if_pos (show 6 + l3 ≤ i ∧ i < 6 + 4 * (l + 1) + l3 ∧ (i - 6 - l3) % 4 = 0 by omega)]
        · rw [if_neg e]
          by_cases e2 : 6 + l3 ≤ i ∧ i < 6 + 4 * l + l3 ∧ (i - 6 - l3) % 4 = 0
          · rw [if_pos e2, if_pos (show 6 + l3 ≤ i ∧ i < 6 + 4 * (l + 1) + l3 ∧ (i - 6 - l3) % 4 = 0 by omega)]
          · rw [if_neg e2, if_neg (show ¬ (6 + l3 ≤ i ∧ i < 6 + 4 * (l + 1) + l3 ∧ (i - 6 - l3) % 4 = 0) by omega)]
    have Lo : ∀ (κ : W0 → Option (Int × W0)) (b : Int) (k fuel : Nat) (l : Int) (c1 : W0), l + k = 4 → p ≤ l → k + 1 ≤ fuel → Fr (fun q => q = m + 1) c3 c1 → c1 (m + 1) = (fun i => if i = 0 then p else if 2 ≤ i ∧ i < 6 ∧ p ≤ i - 2 ∧ i - 2 < l then 0 else if 6 ≤ i ∧ i < 22 ∧ p ≤ (i - 6) % 4 ∧ (i - 6) % 4 < l then 0 else z.1 i) → ∃ c2, f_X9_setVariables_43 m b κ fuel l c1 = κ c2 ∧ Fr (fun q => q = m + 1) c3 c2 ∧ c2 (m + 1) = nvF z.1 p := by
      intro κ b k
      induction k with
      | zero =>
        intro fuel l c1 hl h0 hf hFr hI
        obtain ⟨f, rfl⟩ : ∃ f, fuel = f + 1 := ⟨fuel - 1, by omega⟩
        obtain rfl : l = 4 := by omega
        rw [f_X9_setVariables_43_s]
        unfold b_X9_setVariables_43
        rw [gd_t (by omega), bq_p (by omega)]
        refine ⟨c1, rfl, hFr, ?_⟩
        rw [hI]
        funext i
        unfold nvF
        (repeat' split) <;> first | rfl | omega
      | succ k ih =>
        intro fuel l c1 hl h0 hf hFr hI
        obtain ⟨f, rfl⟩ : ∃ f, fuel = f + 1 := ⟨fuel - 1, by omega⟩
        rw [f_X9_setVariables_43_s]
        unfold b_X9_setVariables_43
        simp only [sto]
        rw [gd_t (by omega), bq_n (by omega), gd_t (by omega)]
        obtain ⟨c2, e2, hF2, h2⟩ := Li (fun c2 => f_X9_setVariables_43 m b κ f (l + 1) c2) b l (updZ (c1 (m + 1)) (2 + l) 0) ⟨by omega, by omega⟩ 4 LF 0 (upc c1 (m + 1) (updZ (c1 (m + 1)) (2 + l) 0)) (by omega) (by omega) (by rw [LF_g]; omega) (hFr.tr (Fr.up rfl)) (by
          rw [upc_s]
          funext i
          rw [if_neg (show ¬ (6 + l ≤ i ∧ i < 6 + 4 * 0 + l ∧ (i - 6 - l) % 4 = 0) by omega)])
        rw [e2]
        refine ih f (l + 1) c2 (by omega) (by omega) (by omega) hF2 ?_
        rw [h2, hI]
        funext i
        unfold updZ
        try dsimp only
        by_cases e : 6 + l ≤ i ∧ i < 6 + 4 * 4 + l ∧ (i - 6 - l) % 4 = 0
        · rw [if_pos e, if_neg (by omega), if_neg (by omega), if_pos (by omega)]
        · have e9 : ¬ (6 ≤ i ∧ i < 22 ∧ (i - 6) % 4 = l) := fun q => e ⟨by omega, by omega, by omega⟩
          rw [if_neg e]
          (repeat' split) <;> first | rfl | omega
    obtain ⟨c9, e9, hF9, h9⟩ := Lo (fun c9 => cl (f_X9_begins m c9) fun _ c10 => some ((z.1 0), c10)) (z.1 0) (4 - p).toNat LF p (upc c3 (m + 1) (updZ z.1 0 p)) (by omega) (by omega) (by rw [LF_g]; omega) (Fr.up rfl) (by
      rw [upc_s]
      funext i
      unfold updZ
      try dsimp only
      (repeat' split) <;> first | rfl | omega)
    rw [e9]
    obtain ⟨c5, e5, hF5, hM5, ht5, -⟩ := chg9 (F1 := nvF z.1 p) hM0 hL.2.1 g1 e3 hF9 h9
    try dsimp only
    rw [e5, cl_s]
    exact ⟨c5, rfl, FrM_t.tr hF5, hM5, by rw [ht5, upc_s, updZ_s]⟩
  · have hv0 : v = 0 := by omega
    subst hv0
    unfold f_X9_setVariables
    simp only [jn]
    rw [ev, cv_s, gd_t (by omega), bq_p rfl, holds9 (by omega), cl_s, if_neg (by omega), gd_t (by omega), bq_p rfl]
/-! one cell is changed -/
theorem m9_changes (hL : LI K z) {j v : Int} (hj : 0 ≤ j ∧ j < 26) (g : GdP (updZ z.1 j v)) {c : W0} (hM : MI m z c) : ∃ c5, f_X9_changes m j v c = some (z.1 j, c5) ∧ FrM m c c5 ∧ MI m (psh z (bgF (updZ z.1 j v))) c5 ∧ c5 m 0 = c m 0 := by
  obtain ⟨c3, e3, hF3, hi3, hS3⟩ := save9 (F := z.1) hM.1 hM.2.1 hL.2.1
  have k3 : c3 (m + 1) = z.1 := (hF3 _ (by omega)).trans hM.1
  unfold f_X9_changes
  simp only [sto]
  rw [e3, cl_s, gd_t (by omega), gd_t (by omega), k3]
  obtain ⟨c5, e5, hF5, hM5, ht5, -⟩ := chg9 (F1 := updZ z.1 j v) (c4 := upc c3 (m + 1) (updZ z.1 j v)) hM hL.2.1 g.2.1 e3 (Fr.up rfl) upc_s
  rw [e5, cl_s]
  exact ⟨c5, rfl, hF5, hM5, ht5⟩
theorem up_g1 {F : Int → Int} (g : GdP F) {k v : Int} (hk : 0 ≤ k ∧ k < 4) (hv : B9 v) : GdP (updZ F (2 + k) v) := by
  obtain ⟨h0, h1, h2, h3, h4⟩ := g
  refine ⟨by rw [updZ_n (by omega)]; exact h0, by rw [updZ_n (by omega)]; exact h1, fun x a b => ?_, fun c x a b a2 b2 => by rw [updZ_n (by omega)]; exact h3 c x a b a2 b2, fun c a b => by rw [updZ_n (by omega)]; exact h4 c a b⟩
  unfold updZ
  split
  · exact hv
  · exact h2 x a b
theorem up_g2 {F : Int → Int} (g : GdP F) {r k v : Int} (hr : 0 ≤ r ∧ r < 4) (hk : 0 ≤ k ∧ k < 4) (hv : B9 v) : GdP (updZ F (6 + 4 * r + k) v) := by
  obtain ⟨h0, h1, h2, h3, h4⟩ := g
  refine ⟨by rw [updZ_n (by omega)]; exact h0, by rw [updZ_n (by omega)]; exact h1, fun x a b => by rw [updZ_n (by omega)]; exact h2 x a b, fun c x a b a2 b2 => ?_, fun c a b => by rw [updZ_n (by omega)]; exact h4 c a b⟩
  unfold updZ
  split
  · exact hv
  · exact h3 c x a b a2 b2
theorem up_g3 {F : Int → Int} (g : GdP F) {r v : Int} (hr : 0 ≤ r ∧ r < 4) (hv : 0 ≤ v ∧ v ≤ 99) : GdP (updZ F (22 + r) v) := by
  obtain ⟨h0, h1, h2, h3, h4⟩ := g
  refine ⟨by rw [updZ_n (by omega)]; exact h0, by rw [updZ_n (by omega)]; exact h1, fun x a b => by rw [updZ_n (by omega)]; exact h2 x a b, fun c x a b a2 b2 => by rw [updZ_n (by omega)]; exact h3 c x a b a2 b2, fun c a b => ?_⟩
  unfold updZ
  split
  · exact hv
  · exact h4 c a b
/-- the class's cell -/
theorem put8 {F F1 : Int → Int} {c3 : W0} {j v : Int} (hP : RepP (d + 2) F c3) (hj : 0 ≤ j) (e0 : F1 0 = F 0) (e1 : F1 1 = F 1) (h1 : ∀ r x, 0 ≤ r → r < F 1 → 0 ≤ x → x < 4 → F1 (6 + 4 * r + x) = if r * 5 + x = j then v else F (6 + 4 * r + x)) (h2 : ∀ x, 0 ≤ x → x < 4 → F1 (2 + x) = if 4 * 5 + x = j then v else F (2 + x)) (h3 : ∀ r, 0 ≤ r → r < F 1 → F1 (22 + r) = if r * 5 + 4 = j then v else F (22 + r)) (h4 : ∀ r x, 0 ≤ r → r ≤ 4 → F 0 ≤ x → x < 4 → r * 5 + x = j → v = 0) : RepP (d + 2) F1 (upc c3 (d + 4) (updZ (c3 (d + 4)) j v)) := by
  obtain ⟨k1, k2, k3, k4, k5, k6⟩ := hP
  have e4 : d + 2 + 2 = d + 4 := rfl
  unfold RepP
  rw [e4] at *
  rw [upc_n (show d + 2 ≠ d + 4 by omega), upc_s]
  refine ⟨by rw [e0]; exact k1, by rw [e1]; exact k2, fun r x a b a2 b2 => ?_, fun x a b => ?_, fun r a b => ?_, fun r x a b a2 b2 => ?_⟩
  · rw [e1] at b
    rw [h1 r x a b a2 b2]
    unfold updZ
    by_cases e : r * 5 + x = j
    · rw [if_pos e, if_pos e]
    · rw [if_neg e, if_neg e]; exact k3 r x a b a2 b2
  · rw [h2 x a b]
    unfold updZ
    by_cases e : 4 * 5 + x = j
    · rw [if_pos e, if_pos e]
    · rw [if_neg e, if_neg e]; exact k4 x a b
  · rw [e1] at b
    rw [h3 r a b]
    unfold updZ
    by_cases e : r * 5 + 4 = j
    · rw [if_pos e, if_pos e]
    · rw [if_neg e, if_neg e]; exact k5 r a b
  · rw [e0] at a2
    unfold updZ
    by_cases e : r * 5 + x = j
    · rw [if_pos e]; exact h4 r x a b a2 b2 e
    · rw [if_neg e]; exact k6 r x a b a2 b2
theorem c8_setProfit (hL : LI K z) {p q : Int} (hp : R32 p) (hq : R32 q) : ((0 ≤ p ∧ p < z.1 0) ∧ B9 q → ClX d z (f_X8_setProfit d p q) 0 (z.1 (2 + p)) (psh z (bgF (updZ z.1 (2 + p) q)))) ∧ (¬ (0 ≤ p ∧ p < z.1 0) → ClX d z (f_X8_setProfit d p q) 3 0 z) ∧ ((0 ≤ p ∧ p < z.1 0) ∧ ¬ B9 q → ClX d z (f_X8_setProfit d p q) 1 0 z) := by
  have g := hL.1.1
  have g0 := g.1
  refine ⟨fun h c hC => ?_, fun h => ClX_t (fun c hC => ?_), fun h => ClX_t (fun c hC => ?_)⟩
  · obtain ⟨c3, c4, c5, e3, hR, e4, e5, hF, hC5⟩ := chg8 (F1 := updZ z.1 (2 + p) q) hC (up_g1 g ⟨h.1.1, by omega⟩ h.2) (updZ_n (by omega)) (updZ_n (by omega)) (updZ_n (by omega)) (f_X2_putProfit (d + 2) p q) 0 (fun c3 hP => by
      unfold f_X2_putProfit
      rw [gd_t (by omega)]
      refine ⟨_, rfl, Fr.up (Or.inr rfl), put8 hP (by omega) (updZ_n (by omega)) (updZ_n (by omega)) (fun r x a b a2 b2 => ?_) (fun x a b => ?_) (fun r a b => ?_) (fun r x a b a2 b2 e => by omega)⟩
      · have := g.2.1
        rw [updZ_n (by omega), if_neg (by omega)]
      · unfold updZ
        by_cases e : x = p
        · rw [if_pos (by omega), if_pos (by omega)]
        · rw [if_neg (by omega), if_neg (by omega)]
      · have := g.2.1
        rw [updZ_n (by omega), if_neg (by omega)])
    have r1 := reqV8 (c := c) hC.1.1 g hp
    have r2 := reqF8 (c := c) hq
    unfold f_X8_setProfit
    rcases r1 with ⟨-, -, r1⟩ | ⟨r1, -⟩
    · rcases r2 with ⟨-, r2⟩ | ⟨r2, -⟩
      · rw [r1, cx_s, r2, cx_s, e3, cl_s]
        have ev : f_X2_profit (d + 2) p c3 = some (z.1 (2 + p)) := by
          unfold f_X2_profit
          rw [gd_t (by omega), hR.1.2.2.2.1 p h.1.1 (by omega)]
        rw [ev, cv_s, e4, cl_s, e5, cl_s]
        exact ⟨c5, rfl, hF, hC5⟩
      · exact absurd h.2 r2
    · exact absurd h.1 r1
  · unfold f_X8_setProfit
    rcases reqV8 (c := c) hC.1.1 g hp with ⟨a, b, -⟩ | ⟨-, r1⟩
    · exact absurd ⟨a, b⟩ h
    · rw [r1, cx_x (by decide)]
  · unfold f_X8_setProfit
    rcases reqV8 (c := c) hC.1.1 g hp with ⟨a, b, r1⟩ | ⟨r1, -⟩
    · rcases reqF8 (c := c) hq with ⟨r2, -⟩ | ⟨-, r2⟩
      · exact absurd r2 h.2
      · rw [r1, cx_s, r2, cx_x (by decide)]
    · exact absurd h.1 r1
theorem m9_setProfit (hL : LI K z) {p q : Int} (hp : R32 p) (hq : R32 q) : ((0 ≤ p ∧ p < z.1 0) ∧ B9 q → Mo m z (f_X9_setProfit m p q) 0 (z.1 (2 + p)) (psh z (bgF (updZ z.1 (2 + p) q)))) ∧ (¬ (0 ≤ p ∧ p < z.1 0) → Mo m z (f_X9_setProfit m p q) 1 0 z) ∧ ((0 ≤ p ∧ p < z.1 0) ∧ ¬ B9 q → Mo m z (f_X9_setProfit m p q) 2 0 z) := by
  have g := hL.1.1
  have g0 := g.1
  obtain ⟨u, eu, hu⟩ := in9 (a := q) (b := -9) (c := 9) hq (by omega) (by omega)
  refine ⟨fun h c hM => ?_, fun h => Mo_t (fun c hM => ?_), fun h => Mo_t (fun c hM => ?_)⟩
  · obtain ⟨v, ev, hv⟩ := isV9 hM.1 g hp
    obtain rfl : v = 1 := by omega
    obtain rfl : u = 1 := by omega
    obtain ⟨c5, e5, hF5, hM5, ht5⟩ := m9_changes hL (j := 2 + p) (v := q) (by omega) (up_g1 g ⟨h.1.1, by omega⟩ h.2) (MI_t (t := 0) hM)
    unfold f_X9_setProfit
    simp only [jn]
    rw [ev, cv_s, gd_t (by omega), bq_n (by omega), eu, cv_s, gd_t (by omega), bq_n (by omega), holds9 (by omega), cl_s, if_pos rfl, gd_t (by omega), bq_n (by omega), e5, cl_s]
    exact ⟨c5, rfl, FrM_t.tr hF5, hM5, by rw [ht5, upc_s, updZ_s]⟩
  · obtain ⟨v, ev, hv⟩ := isV9 hM.1 g hp
    obtain rfl : v = 0 := by omega
    unfold f_X9_setProfit
    simp only [jn]
    rw [ev, cv_s, gd_t (by omega), bq_p rfl, holds9 (by omega), cl_s, if_neg (by omega), gd_t (by omega), bq_p rfl]
  · obtain ⟨v, ev, hv⟩ := isV9 hM.1 g hp
    obtain rfl : v = 1 := by omega
    obtain rfl : u = 0 := by omega
    unfold f_X9_setProfit
    simp only [jn]
    rw [ev, cv_s, gd_t (by omega), bq_n (by omega), eu, cv_s, gd_t (by omega), bq_p rfl, holds9 (by omega), cl_s, if_neg (by omega), gd_t (by omega), bq_p rfl]
end PC
