section CT
/-! the class's tableau -/
def RepT (t : Nat) (F : Int → Int) (c : W0) : Prop := c t 0 = F 1 ∧ c t 1 = F 0 + F 1 ∧ c t 2 = dF F ∧ (∀ r, 0 ≤ r → r < F 1 → c (t + 2) r = F (27 + r)) ∧ (∀ r q, 0 ≤ r → r < F 1 → 0 ≤ q → q ≤ F 0 + F 1 → c (t + 4) (r * 9 + q) = tF F r q) ∧ ∀ q, 0 ≤ q → q ≤ F 0 + F 1 → c (t + 4) (F 1 * 9 + q) = rF F q
def RepP (p : Nat) (F : Int → Int) (c : W0) : Prop := c p 0 = F 0 ∧ c p 1 = F 1 ∧ (∀ r v, 0 ≤ r → r < F 1 → 0 ≤ v → v < 4 → c (p + 2) (r * 5 + v) = F (6 + 4 * r + v)) ∧ (∀ v, 0 ≤ v → v < 4 → c (p + 2) (4 * 5 + v) = F (2 + v)) ∧ (∀ r, 0 ≤ r → r < F 1 → c (p + 2) (r * 5 + 4) = F (22 + r)) ∧ ∀ r v, 0 ≤ r → r ≤ 4 → F 0 ≤ v → v < 4 → c (p + 2) (r * 5 + v) = 0
/-- nothing else has changed -/
def Fr (S : Nat → Prop) (c c' : W0) : Prop := ∀ q, ¬ S q → c' q = c q
theorem Fr.rf {S : Nat → Prop} {c : W0} : Fr S c c := fun _ _ => rfl
theorem Fr.tr {S : Nat → Prop} {c c1 c2 : W0} (h : Fr S c c1) (h2 : Fr S c1 c2) : Fr S c c2 := fun q a => (h2 q a).trans (h q a)
theorem Fr.mo {S S' : Nat → Prop} {c c1 : W0} (h : Fr S c c1) (hS : ∀ q, S q → S' q) : Fr S' c c1 := fun q a => h q (fun z => a (hS q z))
theorem Fr.up {S : Nat → Prop} {c : W0} {q : Nat} {F : Int → Int} (hq : S q) : Fr S c (upc c q F) := fun z a => upc_n (fun e => a (e ▸ hq))
section
variable {t : Nat} {F : Int → Int} {c : W0}
theorem RepT_c {c' : W0} (h : RepT t F c) (e0 : c' t = c t) (e2 : c' (t + 2) = c (t + 2)) (e4 : c' (t + 4) = c (t + 4)) : RepT t F c' := by
  unfold RepT
  rw [e0, e2, e4]
  exact h
theorem side8 (hT : RepT t F c) (g : GdP F) {r : Int} (hr : 0 ≤ r ∧ r < F 1) : f_X6_side t r c = some (tF F r (F 0 + F 1)) := by
  have g0 := g.1; have g1 := g.2.1
  unfold f_X6_side
  rw [hT.2.1, gd_t (by omega), hT.2.2.2.2.1 r _ hr.1 hr.2 (by omega) (by omega)]
theorem entry8 (hT : RepT t F c) (g : GdP F) {r q : Int} (hr : 0 ≤ r ∧ r < F 1) (hq : 0 ≤ q ∧ q < F 0 + F 1) : f_X6_entry t r q c = some (tF F r q) := by
  have g0 := g.1; have g1 := g.2.1
  unfold f_X6_entry
  rw [gd_t (by omega), hT.2.2.2.2.1 r q hr.1 hr.2 (by omega) (by omega)]
theorem reduced8 (hT : RepT t F c) (g : GdP F) {q : Int} (hq : 0 ≤ q ∧ q < F 0 + F 1) : f_X6_reduced t q c = some (rF F q) := by
  have g0 := g.1; have g1 := g.2.1
  unfold f_X6_reduced
  rw [hT.1, gd_t (by omega), hT.2.2.2.2.2 q (by omega) (by omega)]
theorem worth8 (hT : RepT t F c) (g : GdP F) : f_X6_worth t c = some (-rF F (F 0 + F 1)) := by
  have g0 := g.1; have g1 := g.2.1
  unfold f_X6_worth
  rw [hT.1, hT.2.1, gd_t (by omega), hT.2.2.2.2.2 _ (by omega) (by omega)]
theorem namedBy8 (hT : RepT t F c) (g : GdP F) {r : Int} (hr : 0 ≤ r ∧ r < F 1) : f_X6_namedBy t r c = some (F (27 + r)) := by
  have g1 := g.2.1
  unfold f_X6_namedBy
  rw [gd_t (by omega), hT.2.2.2.1 r hr.1 hr.2]
theorem rowNaming8 (hT : RepT t F c) (g : GdP F) (hN : GdN F) {z : Int} (hz : R32 z) : ∃ v, f_X6_rowNaming t z c = some v ∧ fstP (fun r => F (27 + r) = z) (F 1) v := by
  have g0 := g.1; have g1 := g.2.1
  have L : ∀ (k fuel : Nat) (l : Int), l + k = F 1 → 0 ≤ l → k + 1 ≤ fuel → (∀ r, 0 ≤ r → r < l → ¬ F (27 + r) = z) → ∃ v, f_X6_rowNaming_2 t z c (some (-1)) fuel l = some v ∧ fstP (fun r => F (27 + r) = z) (F 1) v := by
    intro k
    induction k with
    | zero =>
      intro fuel l hl h0 hf hI
      obtain ⟨f, rfl⟩ : ∃ f, fuel = f + 1 := ⟨fuel - 1, by omega⟩
      rw [f_X6_rowNaming_2_s]
      unfold b_X6_rowNaming_2
      rw [hT.1, gd_t (by omega), bq_p (by omega)]
      exact ⟨-1, rfl, Or.inl ⟨rfl, fun j a b => hI j a (by omega)⟩⟩
    | succ k ih =>
      intro fuel l hl h0 hf hI
      obtain ⟨f, rfl⟩ : ∃ f, fuel = f + 1 := ⟨fuel - 1, by omega⟩
      rw [f_X6_rowNaming_2_s]
      unfold b_X6_rowNaming_2
      have := hN l h0 (by omega)
      rw [hT.1, gd_t (by omega), bq_n (by omega), namedBy8 hT g ⟨h0, by omega⟩, cv_s, gd_t ⟨by omega, hz⟩]
      by_cases h : F (27 + l) = z
      · rw [bq_p h]
        exact ⟨l, rfl, Or.inr ⟨h0, by omega, h, hI⟩⟩
      · rw [bq_n h]
        refine ih f (l + 1) (by omega) (by omega) (by omega) (fun r a b => ?_)
        by_cases e : r = l
        · rw [e]; exact h
        · exact hI r a (by omega)
  exact L (F 1).toNat LF 0 (by omega) (by omega) (by rw [LF_g]; omega) (fun r a b => by omega)
theorem given8 (hT : RepT t F c) (g : GdP F) (hN : GdN F) {z : Int} (hz : R32 z) : ∃ v, f_X6_given t z c = some (if v < 0 then 0 else tF F v (F 0 + F 1)) ∧ fstP (fun r => F (27 + r) = z) (F 1) v := by
  obtain ⟨v, e, hv⟩ := rowNaming8 hT g hN hz
  have g1 := g.2.1
  refine ⟨v, ?_, hv⟩
  have hr : v = -1 ∨ 0 ≤ v ∧ v < F 1 := hv.elim (fun a => Or.inl a.1) (fun a => Or.inr ⟨a.1, a.2.1⟩)
  unfold f_X6_given
  rw [e, cv_s, gd_t (by omega)]
  by_cases h : 0 ≤ v
  · rw [bq_p h, side8 hT g ⟨h, by omega⟩, cv_s, if_neg (by omega)]
  · rw [bq_n h, if_pos (by omega)]
theorem isBest8 (hT : RepT t F c) (g : GdP F) (hN : GdN F) : ∃ b, f_X6_isBest t c = some b ∧ ((b = 1 ∧ bestF F) ∨ (b = 0 ∧ ¬ bestF F)) := by
  have g0 := g.1; have g1 := g.2.1
  have L : ∀ (k fuel : Nat) (l : Int), l + k = F 0 + F 1 → 0 ≤ l → k + 1 ≤ fuel → (∀ r, 0 ≤ r → r < l → ¬ 0 < rF F r) → ∃ b, f_X6_isBest_2 t c (some 1) fuel l = some b ∧ ((b = 1 ∧ bestF F) ∨ (b = 0 ∧ ¬ bestF F)) := by
    intro k
    induction k with
    | zero =>
      intro fuel l hl h0 hf hI
      obtain ⟨f, rfl⟩ : ∃ f, fuel = f + 1 := ⟨fuel - 1, by omega⟩
      rw [f_X6_isBest_2_s]
      unfold b_X6_isBest_2
      rw [hT.2.1, gd_t (by omega), bq_p (by omega)]
      exact ⟨1, rfl, Or.inl ⟨rfl, fun j a b => hI j a (by omega)⟩⟩
    | succ k ih =>
      intro fuel l hl h0 hf hI
      obtain ⟨f, rfl⟩ : ∃ f, fuel = f + 1 := ⟨fuel - 1, by omega⟩
      rw [f_X6_isBest_2_s]
      unfold b_X6_isBest_2
      have hb := rF_b g hN (q := l) ⟨h0, by omega⟩
      rw [hT.2.1, gd_t (by omega), bq_n (by omega), reduced8 hT g ⟨h0, by omega⟩, cv_s, gd_t (by omega)]
      by_cases h : rF F l ≤ 0
      · rw [bq_p h]
        refine ih f (l + 1) (by omega) (by omega) (by omega) (fun r a b => ?_)
        by_cases e : r = l
        · rw [e]; omega
        · exact hI r a (by omega)
      · rw [bq_n h]
        exact ⟨0, rfl, Or.inr ⟨rfl, fun z => z l h0 (by omega) (by omega)⟩⟩
  exact L (F 0 + F 1).toNat LF 0 (by omega) (by omega) (by rw [LF_g]; omega) (fun r a b => by omega)
theorem leastRow8 (hT : RepT t F c) (g : GdP F) (hN : GdN F) {q : Int} (hq : 0 ≤ q ∧ q < F 0 + F 1) : f_X6_leastRow t q c = some (lrV F q) := by
  have g0 := g.1; have g1 := g.2.1
  have L : ∀ (k fuel : Nat) (l v x y : Int), l + k = F 1 → 0 ≤ l → k + 1 ≤ fuel → v = lrI (lrP F q) (lrB F q) l → (0 ≤ v → x = tF F v q ∧ y = tF F v (F 0 + F 1)) → f_X6_leastRow_10 t q c (fun v1 => some v1) fuel v x y l = some (lrV F q) := by
    intro k
    induction k with
    | zero =>
      intro fuel l v x y hl h0 hf hv hxy
      obtain ⟨f, rfl⟩ : ∃ f, fuel = f + 1 := ⟨fuel - 1, by omega⟩
      obtain rfl : l = F 1 := by omega
      rw [f_X6_leastRow_10_s]
      unfold b_X6_leastRow_10
      rw [hT.1, gd_t (by omega), bq_p (by omega), hv]
      rfl
    | succ k ih =>
      intro fuel l v x y hl h0 hf hv hxy
      obtain ⟨f, rfl⟩ : ∃ f, fuel = f + 1 := ⟨fuel - 1, by omega⟩
      have hr := lrI_r (pos := lrP F q) (bt := lrB F q) h0
      have ht := tF_b g hN (r := l) (q := q) (by omega) hq
      have hs := tF_b9 g hN (r := l) (q := F 0 + F 1) (by omega) (by omega)
      have keep : ¬ (lrP F q l ∧ (v < 0 ∨ lrB F q l v)) → f_X6_leastRow_10 t q c (fun v1 => some v1) f v x y (l + 1) = some (lrV F q) := fun z => ih f (l + 1) v x y (by omega) (by omega) (by omega) (by
        rw [lrI_f h0 (by rw [← hv]; exact z)]
        exact hv) hxy
      have take : lrP F q l → (v < 0 ∨ lrB F q l v) → f_X6_leastRow_10 t q c (fun v1 => some v1) f l (tF F l q) (tF F l (F 0 + F 1)) (l + 1) = some (lrV F q) := fun a b => ih f (l + 1) l _ _ (by omega) (by omega) (by omega) (by
        rw [lrI_t h0 a (by rw [← hv]; exact b)]) (fun _ => ⟨rfl, rfl⟩)
      rw [f_X6_leastRow_10_s]
      unfold b_X6_leastRow_10
      simp only [jn]
      rw [hT.1, hT.2.1, hT.2.2.2.2.1 l q h0 (by omega) hq.1 (by omega), hT.2.2.2.2.1 l _ h0 (by omega) (by omega) (by omega), gd_t (by omega), bq_n (by omega), gd_t (by omega), gd_t (by omega), gd_t (by omega)]
      by_cases hp : tF F l q ≤ 0
      · rw [bq_p hp]
        exact keep (fun z => by have : 0 < tF F l q := z.1; omega)
      · have hp2 : 0 < tF F l q := by omega
        rw [bq_n hp, gd_t (by omega)]
        by_cases hv0 : v < 0
        · rw [bq_p hv0]
          exact take hp2 (Or.inl hv0)
        · have hv3 : 0 ≤ v ∧ v < l ∧ 0 < tF F v q := by
            rw [hv] at hv0 ⊢
            rcases hr with h | h
            · omega
            · exact h
          obtain ⟨ex, ey⟩ := hxy hv3.1
          have ht2 := tF_b g hN (r := v) (q := q) (by omega) hq
          have hs2 := tF_b9 g hN (r := v) (q := F 0 + F 1) (by omega) (by omega)
          have m1 := mbd (show -1732104 ≤ tF F l (F 0 + F 1) ∧ tF F l (F 0 + F 1) ≤ 1732104 by omega) (show -157464 ≤ tF F v q ∧ tF F v q ≤ 157464 by omega)
          have m2 := mbd (show -1732104 ≤ tF F v (F 0 + F 1) ∧ tF F v (F 0 + F 1) ≤ 1732104 by omega) (show -157464 ≤ tF F l q ∧ tF F l q ≤ 157464 by omega)
          have hNl := hN l h0 (by omega); have hNv := hN v hv3.1 (by omega)
          have eo : tF F l (F 0 + F 1) * x - y * tF F l q = ordF F q l v := by rw [ex, ey]; rfl
          have ho : R64 (ordF F q l v) := by unfold ordF; omega
          rw [bq_n hv0, eo, gd_t ho]
          by_cases h1 : ordF F q l v < 0
          · rw [bq_p h1]
            exact take hp2 (Or.inr (Or.inl h1))
          · rw [bq_n h1, gd_t ho]
            by_cases h2 : ordF F q l v = 0
            · rw [bq_p h2, gd_t (by omega), gd_t (by omega), hT.2.2.2.1 l h0 (by omega), hT.2.2.2.1 v hv3.1 (by omega), gd_t (by omega)]
              by_cases h3 : F (27 + v) ≤ F (27 + l)
              · rw [bq_p h3]
                refine keep (fun z => ?_)
                rcases z.2 with z1 | z1 | z1
                · exact hv0 z1
                · exact h1 z1
                · have := z1.2
                  omega
              · rw [bq_n h3]
                exact take hp2 (Or.inr (Or.inr ⟨h2, by omega⟩))
            · rw [bq_n h2]
              refine keep (fun z => ?_)
              rcases z.2 with z1 | z1 | z1
              · exact hv0 z1
              · exact h1 z1
              · exact h2 z1.1
  exact L (F 1).toNat LF 0 (-1) 0 0 (by omega) (by omega) (by rw [LF_g]; omega) rfl (fun z => by omega)
theorem openColumn8 (hT : RepT t F c) (g : GdP F) (hN : GdN F) : ∃ v, f_X6_openColumn t c = some v ∧ fstP (rayF F) (F 0 + F 1) v := by
  have g0 := g.1; have g1 := g.2.1
  have L : ∀ (k fuel : Nat) (l : Int), l + k = F 0 + F 1 → 0 ≤ l → k + 1 ≤ fuel → (∀ r, 0 ≤ r → r < l → ¬ rayF F r) → ∃ v, f_X6_openColumn_2 t c (some (-1)) fuel l = some v ∧ fstP (rayF F) (F 0 + F 1) v := by
    intro k
    induction k with
    | zero =>
      intro fuel l hl h0 hf hI
      obtain ⟨f, rfl⟩ : ∃ f, fuel = f + 1 := ⟨fuel - 1, by omega⟩
      rw [f_X6_openColumn_2_s]
      unfold b_X6_openColumn_2
      rw [hT.2.1, gd_t (by omega), bq_p (by omega)]
      exact ⟨-1, rfl, Or.inl ⟨rfl, fun j a b => hI j a (by omega)⟩⟩
    | succ k ih =>
      intro fuel l hl h0 hf hI
      obtain ⟨f, rfl⟩ : ∃ f, fuel = f + 1 := ⟨fuel - 1, by omega⟩
      rw [f_X6_openColumn_2_s]
      unfold b_X6_openColumn_2
      have hb := rF_b g hN (q := l) ⟨h0, by omega⟩
      have skip : ¬ rayF F l → ∃ v, f_X6_openColumn_2 t c (some (-1)) f (l + 1) = some v ∧ fstP (rayF F) (F 0 + F 1) v := fun hn => by
        refine ih f (l + 1) (by omega) (by omega) (by omega) (fun r a b => ?_)
        by_cases e : r = l
        · rw [e]; exact hn
        · exact hI r a (by omega)
      rw [hT.2.1, gd_t (by omega), bq_n (by omega), reduced8 hT g ⟨h0, by omega⟩, cv_s, gd_t (by omega)]
      by_cases h : rF F l ≤ 0
      · rw [bq_p h]
        exact skip (fun z => by have := z.1; omega)
      · have hlr := lrV_r g l
        rw [bq_n h, leastRow8 hT g hN ⟨h0, by omega⟩, cv_s, gd_t (by omega)]
        by_cases h2 : 0 ≤ lrV F l
        · rw [bq_p h2]
          exact skip (fun z => by have := (lrV_n g l).mpr z.2; omega)
        · rw [bq_n h2]
          exact ⟨l, rfl, Or.inr ⟨h0, by omega, ⟨by omega, (lrV_n g l).mp (by omega)⟩, hI⟩⟩
  exact L (F 0 + F 1).toNat LF 0 (by omega) (by omega) (by rw [LF_g]; omega) (fun r a b => by omega)
def opn (F : Int → Int) : Prop := ¬ bestF F ∧ ∀ j, 0 ≤ j → j < F 0 + F 1 → ¬ rayF F j
theorem opn_o (g : GdP F) (h : opn F) : openF F := fun j a b hp => Int.not_lt.mp (fun z => h.2 j a b ⟨hp, (lrV_n g j).mp z⟩)
theorem isOpen8 (hT : RepT t F c) (g : GdP F) (hN : GdN F) : ∃ b, f_X6_isOpen t c = some b ∧ ((b = 1 ∧ opn F) ∨ (b = 0 ∧ ¬ opn F)) := by
  have g0 := g.1; have g1 := g.2.1
  obtain ⟨b, eb, hb⟩ := isBest8 hT g hN
  obtain ⟨v, ev, hv⟩ := openColumn8 hT g hN
  unfold f_X6_isOpen
  rw [eb, cv_s, gd_t (by omega)]
  rcases hb with ⟨rfl, hb⟩ | ⟨rfl, hb⟩
  · rw [bq_n (by omega)]
    exact ⟨0, rfl, Or.inr ⟨rfl, fun z => z.1 hb⟩⟩
  · have hr : R32 v := by
      rcases hv with ⟨h, -⟩ | ⟨h, h2, -⟩ <;> omega
    rw [bq_p rfl, ev, cv_s, gd_t hr]
    rcases hv with ⟨rfl, h⟩ | ⟨h, h2, h3, -⟩
    · rw [bq_n (by omega)]
      exact ⟨1, rfl, Or.inl ⟨rfl, hb, h⟩⟩
    · rw [bq_p h]
      exact ⟨0, rfl, Or.inr ⟨rfl, fun z => z.2 v h h2 h3⟩⟩
theorem gains8 (hT : RepT t F c) (g : GdP F) (hN : GdN F) {j f : Int} (hj : 0 ≤ j ∧ j < F 0 + F 1) (hf : 0 ≤ f ∧ f < F 0 + F 1) (lj : 0 ≤ lrV F j) (lf : 0 ≤ lrV F f) : ∃ b, f_X6_gainsMore t j f c = some b ∧ ((b = 1 ∧ gnF F j f) ∨ (b = 0 ∧ ¬ gnF F j f)) := by
  have g0 := g.1; have g1 := g.2.1
  have a1 : lrV F j < F 1 := by
    rcases lrV_r g j with e | e
    · omega
    · exact e.2.1
  have a2 : lrV F f < F 1 := by
    rcases lrV_r g f with e | e
    · omega
    · exact e.2.1
  unfold f_X6_gainsMore
  rw [leastRow8 hT g hN hj, cv_s, leastRow8 hT g hN hf, cv_s, reduced8 hT g hj, cv_s, side8 hT g ⟨lj, a1⟩, cv_s, entry8 hT g ⟨lf, a2⟩ hf, cv_s, reduced8 hT g hf, cv_s, side8 hT g ⟨lf, a2⟩, cv_s, entry8 hT g ⟨lj, a1⟩ hj, cv_s]
  have b1 := rF_b g hN hj; have b2 := rF_b g hN hf
  have b3 := tF_b9 g hN (r := lrV F j) (q := F 0 + F 1) (by omega) (by omega)
  have b4 := tF_b9 g hN (r := lrV F f) (q := F 0 + F 1) (by omega) (by omega)
  have b5 := tF_b g hN (r := lrV F j) (q := j) (by omega) hj
  have b6 := tF_b g hN (r := lrV F f) (q := f) (by omega) hf
  have m1 := mbd (mbd b1 b3) b6
  have m2 := mbd (mbd b2 b4) b5
  rw [gd_t (by omega)]
  by_cases h : rF F j * tF F (lrV F j) (F 0 + F 1) * tF F (lrV F f) f ≤ rF F f * tF F (lrV F f) (F 0 + F 1) * tF F (lrV F j) j
  · rw [bq_p h]
    exact ⟨0, rfl, Or.inr ⟨rfl, fun z => by unfold gnF at z; omega⟩⟩
  · rw [bq_n h]
    exact ⟨1, rfl, Or.inl ⟨rfl, by unfold gnF; omega⟩⟩
theorem chosenColumn8 (hT : RepT t F c) (g : GdP F) (hN : GdN F) (hru : 0 ≤ F 26 ∧ F 26 ≤ 2) (ho : openF F) : f_X6_chosenColumn t (F 26) c = some (chV F) := by
  have g0 := g.1; have g1 := g.2.1
  have L : ∀ (k fuel : Nat) (l v : Int), l + k = F 0 + F 1 → 0 ≤ l → k + 1 ≤ fuel → v = lrI (chP F) (chB F) l → f_X6_chosenColumn_4 t (F 26) c (fun v1 => some v1) fuel v l = some (chV F) := by
    intro k
    induction k with
    | zero =>
      intro fuel l v hl h0 hf hv
      obtain ⟨f, rfl⟩ : ∃ f, fuel = f + 1 := ⟨fuel - 1, by omega⟩
      obtain rfl : l = F 0 + F 1 := by omega
      rw [f_X6_chosenColumn_4_s]
      unfold b_X6_chosenColumn_4
      rw [hT.2.1, gd_t (by omega), bq_p (by omega), hv]
      rfl
    | succ k ih =>
      intro fuel l v hl h0 hf hv
      obtain ⟨f, rfl⟩ : ∃ f, fuel = f + 1 := ⟨fuel - 1, by omega⟩
      have hr := lrI_r (pos := chP F) (bt := chB F) h0
      have hb := rF_b g hN (q := l) ⟨h0, by omega⟩
      have keep : ¬ (chP F l ∧ (v < 0 ∨ chB F l v)) → f_X6_chosenColumn_4 t (F 26) c (fun v1 => some v1) f v (l + 1) = some (chV F) := fun z => ih f (l + 1) v (by omega) (by omega) (by omega) (by
        rw [lrI_f h0 (by rw [← hv]; exact z)]
        exact hv)
      have take : chP F l → (v < 0 ∨ chB F l v) → f_X6_chosenColumn_4 t (F 26) c (fun v1 => some v1) f l (l + 1) = some (chV F) := fun a b => ih f (l + 1) l (by omega) (by omega) (by omega) (by
        rw [lrI_t h0 a (by rw [← hv]; exact b)])
      rw [f_X6_chosenColumn_4_s]
      unfold b_X6_chosenColumn_4
      simp only [jn]
      rw [hT.2.1, gd_t (by omega), bq_n (by omega), reduced8 hT g ⟨h0, by omega⟩, cv_s, gd_t (by omega)]
      by_cases hp : rF F l ≤ 0
      · rw [bq_p hp]
        exact keep (fun z => by have : 0 < rF F l := z.1; omega)
      · have hp2 : 0 < rF F l := by omega
        rw [bq_n hp, gd_t (by omega)]
        by_cases hv0 : v < 0
        · rw [bq_p hv0]
          exact take hp2 (Or.inl hv0)
        · have hv3 : 0 ≤ v ∧ v < l ∧ 0 < rF F v := by
            rw [hv] at hv0 ⊢
            rcases hr with h | h
            · omega
            · exact h
          have hb2 := rF_b g hN (q := v) ⟨hv3.1, by omega⟩
          rw [bq_n hv0, gd_t (by omega)]
          have two : ¬ (F 26 = 1 ∧ rF F v < rF F l) → (gd (R32 (F 26)) <| bq (F 26 = 2) (cv (f_X6_gainsMore t l v c) fun v4 => gd (R32 v4) <| bq (v4 = 0) (f_X6_chosenColumn_4 t (F 26) c (fun v1 => some v1) f v (l + 1)) (f_X6_chosenColumn_4 t (F 26) c (fun v1 => some v1) f l (l + 1))) (f_X6_chosenColumn_4 t (F 26) c (fun v1 => some v1) f v (l + 1))) = some (chV F) := fun hn => by
            rw [gd_t (by omega)]
            by_cases h2 : F 26 = 2
            · obtain ⟨b, eb, hb⟩ := gains8 hT g hN (j := l) (f := v) ⟨h0, by omega⟩ ⟨hv3.1, by omega⟩ (ho l h0 (by omega) hp2) (ho v hv3.1 (by omega) hv3.2.2)
              rw [bq_p h2, eb, cv_s]
              rcases hb with ⟨rfl, hb⟩ | ⟨rfl, hb⟩
              · rw [gd_t (by omega), bq_n (by omega)]
                exact take hp2 (Or.inr (Or.inr ⟨h2, hb⟩))
              · rw [gd_t (by omega), bq_p rfl]
                refine keep (fun z => ?_)
                rcases z.2 with z1 | z1 | z1
                · exact hv0 z1
                · exact hn z1
                · exact hb z1.2
            · rw [bq_n h2]
              refine keep (fun z => ?_)
              rcases z.2 with z1 | z1 | z1
              · exact hv0 z1
              · exact hn z1
              · exact h2 z1.1
          by_cases h1 : F 26 = 1
          · rw [bq_p h1, cv_s, reduced8 hT g ⟨hv3.1, by omega⟩, cv_s, gd_t (by omega)]
            by_cases h3 : rF F v < rF F l
            · rw [bq_p h3]
              exact take hp2 (Or.inr (Or.inl ⟨h1, h3⟩))
            · rw [bq_n h3]
              exact two (fun z => h3 z.2)
          · rw [bq_n h1]
            exact two (fun z => h1 z.1)
  exact L (F 0 + F 1).toNat LF 0 (-1) (by omega) (by omega) (by rw [LF_g]; omega) rfl
theorem chV_r (g : GdP F) (ho : ¬ bestF F) : 0 ≤ chV F ∧ chV F < F 0 + F 1 ∧ 0 < rF F (chV F) := by
  rcases lrI_r (pos := chP F) (bt := chB F) (show 0 ≤ F 0 + F 1 by have := g.1; have := g.2.1; omega) with h | h
  · refine absurd (fun j a b => ?_) ho
    exact (lrI_n (bt := chB F) (show 0 ≤ F 0 + F 1 by omega)).mp (show lrI (chP F) (chB F) (F 0 + F 1) < 0 by omega) j a b
  · exact h
end
end CT
