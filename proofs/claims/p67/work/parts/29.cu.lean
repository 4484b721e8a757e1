section CU
/-! the class's tableau: turn, start, copy -/
def XF (F : Int → Int) (r q : Int) : Int := if r < F 1 then tF F r q else rF F q
theorem XF_t {F : Int → Int} {r q : Int} (h : r < F 1) : XF F r q = tF F r q := if_pos h
theorem XF_r {F : Int → Int} {q : Int} : XF F (F 1) q = rF F q := if_neg (by omega)
theorem RepT_X {t : Nat} {F : Int → Int} {c : W0} (h : RepT t F c) {r q : Int} (hr : 0 ≤ r ∧ r ≤ F 1) (hq : 0 ≤ q ∧ q ≤ F 0 + F 1) : c (t + 4) (r * 9 + q) = XF F r q := by
  by_cases e : r < F 1
  · rw [XF_t e]; exact h.2.2.2.2.1 r q hr.1 e hq.1 hq.2
  · rw [show r = F 1 by omega, XF_r]; exact h.2.2.2.2.2 q hq.1 hq.2
theorem X_RepT {t : Nat} {F : Int → Int} {c : W0} (h0 : c t 0 = F 1) (h1 : c t 1 = F 0 + F 1) (h2 : c t 2 = dF F) (h3 : ∀ r, 0 ≤ r → r < F 1 → c (t + 2) r = F (27 + r)) (hm : 0 ≤ F 1) (h4 : ∀ r q, 0 ≤ r → r ≤ F 1 → 0 ≤ q → q ≤ F 0 + F 1 → c (t + 4) (r * 9 + q) = XF F r q) : RepT t F c :=
  ⟨h0, h1, h2, h3, fun r q a b a2 b2 => by rw [h4 r q a (by omega) a2 b2, XF_t b], fun q a b => by rw [h4 (F 1) q hm (by omega) a b, XF_r]⟩
theorem XF_b {F : Int → Int} (g : GdP F) (hN : GdN F) {r q : Int} (hr : 0 ≤ r) (hq : 0 ≤ q ∧ q ≤ F 0 + F 1) : -63772920 ≤ XF F r q ∧ XF F r q ≤ 63772920 := by
  have := g.2.1
  by_cases e : r < F 1
  · rw [XF_t e]; have := tF_b9 g hN (r := r) (by omega) hq; omega
  · unfold XF; rw [if_neg e]; exact rF_b9 g hN hq
theorem XF_b1 {F : Int → Int} (g : GdP F) (hN : GdN F) {r q : Int} (hr : 0 ≤ r) (hq : 0 ≤ q ∧ q < F 0 + F 1) : -7085880 ≤ XF F r q ∧ XF F r q ≤ 7085880 := by
  have := g.2.1
  by_cases e : r < F 1
  · rw [XF_t e]; have := tF_b g hN (r := r) (by omega) hq; omega
  · unfold XF; rw [if_neg e]; exact rF_b g hN hq
theorem XF_p {F F' : Int → Int} {p q : Int} (g : GdP F) (hv : PvF F F' p q) (hp : 0 ≤ p ∧ p < F 1) {r : Int} (hr : 0 ≤ r ∧ r ≤ F 1) (hrp : r ≠ p) (c : Int) : dF F * XF F' r c = tF F p q * XF F r c - XF F r q * tF F p c := by
  have := g.2.1
  have e1 := hv.1 1 (by omega)
  by_cases e : r < F 1
  · rw [XF_t (by omega), XF_t e, XF_t e]
    exact tF_pr g hv hp (by omega) hrp c
  · unfold XF
    rw [if_neg (by omega), if_neg e, if_neg e]
    exact rF_p g hv hp c
def ST (t q : Nat) : Prop := q = t ∨ q = t + 2 ∨ q = t + 4
theorem turn8 {t : Nat} {F F' : Int → Int} {c : W0} {p q : Int} (hT : RepT t F c) (g : GdP F) (hN : GdN F) (hd : 0 < dF F) (hv : PvF F F' p q) (hp : 0 ≤ p ∧ p < F 1) (hq : 0 ≤ q ∧ q < F 0 + F 1) (ht : 0 < tF F p q) : ∃ c', f_X6_turn t p q c = some (0, c') ∧ Fr (ST t) c c' ∧ RepT t F' c' := by
  have g0 := g.1; have g1 := g.2.1
  have e0 := hv.1 0 (by omega); have e1 := hv.1 1 (by omega)
  have hdb := dF_b g hN
  have htb := tF_b g hN (r := p) (q := q) (by omega) hq
  have L : ∀ (κ : W0 → Option (Int × W0)) (k fuel : Nat) (l : Int) (c1 : W0), l + k = F 1 + 1 → 0 ≤ l → k + 1 ≤ fuel → Fr (fun z => z = t + 4) c c1 → (∀ r x, 0 ≤ r → r ≤ F 1 → 0 ≤ x → x ≤ F 0 + F 1 → c1 (t + 4) (r * 9 + x) = if r < l ∧ r ≠ p then XF F' r x else XF F r x) → ∃ c2, f_X6_turn_17 t p q (tF F p q) κ fuel l c1 = κ c2 ∧ Fr (fun z => z = t + 4) c c2 ∧ ∀ r x, 0 ≤ r → r ≤ F 1 → 0 ≤ x → x ≤ F 0 + F 1 → c2 (t + 4) (r * 9 + x) = XF F' r x := by
    intro κ k
    induction k with
    | zero =>
      intro fuel l c1 hl h0 hf hF hI
      obtain ⟨f, rfl⟩ : ∃ f, fuel = f + 1 := ⟨fuel - 1, by omega⟩
      have et : c1 t = c t := hF t (by omega)
      rw [f_X6_turn_17_s]
      unfold b_X6_turn_17
      rw [et, hT.1, gd_t (by omega), bq_p (by omega)]
      refine ⟨c1, rfl, hF, fun r x a b a2 b2 => ?_⟩
      rw [hI r x a b a2 b2]
      by_cases e : r = p
      · rw [if_neg (by omega), e, XF_t hp.2, XF_t (by omega), tF_pp g hv hp]
      · rw [if_pos ⟨by omega, e⟩]
    | succ k ih =>
      intro fuel l c1 hl h0 hf hF hI
      obtain ⟨f, rfl⟩ : ∃ f, fuel = f + 1 := ⟨fuel - 1, by omega⟩
      have et : c1 t = c t := hF t (by omega)
      rw [f_X6_turn_17_s]
      unfold b_X6_turn_17
      rw [et, hT.1, hT.2.1, hT.2.2.1, gd_t (by omega), bq_n (by omega), gd_t (by omega)]
      by_cases e : l = p
      · rw [bq_p e]
        refine ih f (l + 1) c1 (by omega) (by omega) (by omega) hF (fun r x a b a2 b2 => ?_)
        rw [hI r x a b a2 b2]
        by_cases h : r < l ∧ r ≠ p
        · rw [if_pos h, if_pos (by omega)]
        · rw [if_neg h, if_neg (by omega)]
      · have old : ∀ r x, 0 ≤ r → r ≤ F 1 → (r = l ∨ r = p) → 0 ≤ x → x ≤ F 0 + F 1 → c1 (t + 4) (r * 9 + x) = XF F r x := fun r x a b h a2 b2 => by
          rw [hI r x a b a2 b2, if_neg (by omega)]
        have hval : ∀ x, 0 ≤ x → x ≤ F 0 + F 1 → c1 (t + 4) (l * 9 + x) * c1 (t + 4) (p * 9 + q) - c1 (t + 4) (l * 9 + q) * c1 (t + 4) (p * 9 + x) = dF F * XF F' l x := fun x a b => by
          rw [old l x h0 (by omega) (Or.inl rfl) a b, old p q hp.1 (by omega) (Or.inr rfl) hq.1 (by omega), old l q h0 (by omega) (Or.inl rfl) hq.1 (by omega), old p x hp.1 (by omega) (Or.inr rfl) a b, XF_t hp.2, XF_t hp.2, XF_p g hv hp ⟨h0, by omega⟩ e, Int.mul_comm (tF F p q)]
        rw [bq_n e, gd_t ⟨by omega, by omega, e, by omega, by omega, by omega, by omega, fun x a b => by
          rw [hval x a b, XF_p g hv hp ⟨h0, by omega⟩ e]
          have m1 := mbd htb (XF_b g hN h0 ⟨a, b⟩)
          have m2 := mbd (XF_b1 g hN h0 hq) (tF_b9 g hN (r := p) (q := x) (by omega) ⟨a, b⟩)
          omega⟩]
        simp only [stw]
        refine ih f (l + 1) _ (by omega) (by omega) (by omega) (hF.tr (Fr.up rfl)) (fun r x a b a2 b2 => ?_)
        rw [upc_s]
        by_cases h : r = l
        · subst h
          unfold clr
          rw [if_pos (by omega), if_pos (by omega), show r * 9 + x - r * 9 = x by omega]
          unfold clrV
          rw [hval x a2 b2, Int.mul_tdiv_cancel_left _ (by omega)]
        · rw [clr_n (by omega), hI r x a b a2 b2]
          by_cases h2 : r < l ∧ r ≠ p
          · rw [if_pos h2, if_pos (by omega)]
          · rw [if_neg h2, if_neg (by omega)]
  unfold f_X6_turn
  rw [entry8 hT g hp hq, cv_s, gd_t (by omega), bq_p ht]
  obtain ⟨c2, e2, hF2, h2⟩ := L (fun c2 => gd (R32 q) <| gd ((0 ≤ p ∧ p < 4)) <| sto c2 (t + 2) p q fun c3 => sto c3 t 2 (tF F p q) fun c4 => some (0, c4)) (F 1 + 1).toNat LF 0 c (by omega) (by omega) (by rw [LF_g]; omega) Fr.rf (fun r x a b a2 b2 => by rw [if_neg (by omega)]; exact RepT_X hT ⟨a, b⟩ ⟨a2, b2⟩)
  rw [e2]
  try dsimp only
  rw [gd_t (by omega), gd_t (by omega)]
  simp only [sto]
  have et : c2 t = c t := hF2 t (by omega)
  have en : c2 (t + 2) = c (t + 2) := hF2 (t + 2) (by omega)
  refine ⟨_, rfl, ((Fr.mo (S' := ST t) hF2 (fun z h => Or.inr (Or.inr h))).tr (Fr.up (Or.inr (Or.inl rfl)))).tr (Fr.up (Or.inl rfl)), X_RepT ?_ ?_ ?_ (fun r a b => ?_) (by omega) (fun r x a b a2 b2 => ?_)⟩
  · rw [upc_s, updZ_n (by decide), upc_n (by omega), et, hT.1, e1]
  · rw [upc_s, updZ_n (by decide), upc_n (by omega), et, hT.2.1, e0, e1]
  · rw [upc_s, updZ_s, dF_p g hv hp]
  · rw [e1] at b
    rw [upc_n (by omega), upc_s, en]
    by_cases e : r = p
    · rw [e, updZ_s, hv.2.1]
    · rw [updZ_n e, hT.2.2.2.1 r a b, hv.2.2 r a b e]
  · rw [e1] at b
    rw [e0, e1] at b2
    rw [upc_n (by omega), upc_n (by omega)]
    exact h2 r x a b a2 b2
/-- the basis of slacks -/
def Slk (F : Int → Int) : Prop := ∀ r, 0 ≤ r → r < F 1 → F (27 + r) = F 0 + r
theorem ff8 {p : Nat} {F : Int → Int} {c : W0} (hP : RepP p F c) (g : GdP F) {r j : Int} (hr : 0 ≤ r ∧ r < F 1) (hj : 0 ≤ j ∧ j < F 0 + F 1) : f_X2_firstFactor p r j c = some (aF F j r) := by
  have g0 := g.1; have g1 := g.2.1
  unfold f_X2_firstFactor ffZ aF
  rw [hP.1, gd_t (by omega), if_pos hr]
  by_cases h : j < F 0
  · rw [if_pos h, if_pos h, hP.2.2.1 r j hr.1 hr.2 hj.1 (by omega)]
  · rw [if_neg h, if_neg h, if_neg (show ¬ j = F 0 + F 1 by omega)]
theorem bd8 {p : Nat} {F : Int → Int} {c : W0} (hP : RepP p F c) (g : GdP F) {r : Int} (hr : 0 ≤ r ∧ r < F 1) : f_X2_bound p r c = some (F (22 + r)) := by
  have g1 := g.2.1
  unfold f_X2_bound
  rw [gd_t (by omega), hP.2.2.2.2.1 r hr.1 hr.2]
theorem cp8 {p : Nat} {F : Int → Int} {c : W0} (hP : RepP p F c) (g : GdP F) {j : Int} (hj : 0 ≤ j ∧ j < F 0 + F 1) : f_X2_columnProfit p j c = some (cF F j) := by
  have g0 := g.1; have g1 := g.2.1
  unfold f_X2_columnProfit cpZ cF
  rw [hP.1, gd_t (by omega)]
  by_cases h : j < F 0
  · rw [if_pos h, if_pos h, hP.2.2.2.1 j hj.1 (by omega)]
  · rw [if_neg h, if_neg h]
theorem RepP_c {p : Nat} {F : Int → Int} {c c' : W0} (h : RepP p F c) (e0 : c' p = c p) (e2 : c' (p + 2) = c (p + 2)) : RepP p F c' := by
  unfold RepP
  rw [e0, e2]
  exact h
theorem start8 {t p : Nat} {F : Int → Int} {c : W0} (g : GdP F) (hP : RepP p F c) (hne : p ≠ t ∧ p ≠ t + 2 ∧ p ≠ t + 4 ∧ p + 2 ≠ t ∧ p + 2 ≠ t + 2 ∧ p + 2 ≠ t + 4) (hs : Slk F) : ∃ c', f_X6_start t p c = some (0, c') ∧ Fr (ST t) c c' ∧ RepT t F c' := by
  have g0 := g.1; have g1 := g.2.1
  have hPc : ∀ c1, Fr (ST t) c c1 → RepP p F c1 := fun c1 h => RepP_c hP (h p (by unfold ST; omega)) (h (p + 2) (by unfold ST; omega))
  have L2 : ∀ (κ : W0 → Option (Int × W0)) (r : Int) (c0 : W0), 0 ≤ r → r < F 1 → Fr (ST t) c c0 → c0 t 1 = F 0 + F 1 → ∃ c2, f_X6_start_59 t p r κ LF 0 c0 = κ c2 ∧ Fr (fun z => z = t + 4) c0 c2 ∧ (∀ j, 0 ≤ j → j < F 0 + F 1 → c2 (t + 4) (r * 9 + j) = aF F j r) ∧ ∀ y, (y < r * 9 ∨ r * 9 + 9 ≤ y) → c2 (t + 4) y = c0 (t + 4) y := by
    intro κ r c0 hr0 hr1 hF0 ht1
    have L : ∀ (k fuel : Nat) (l : Int) (c1 : W0), l + k = F 0 + F 1 → 0 ≤ l → k + 1 ≤ fuel → Fr (fun z => z = t + 4) c0 c1 → (∀ j, 0 ≤ j → j < l → c1 (t + 4) (r * 9 + j) = aF F j r) → (∀ y, (y < r * 9 ∨ r * 9 + 9 ≤ y) → c1 (t + 4) y = c0 (t + 4) y) → ∃ c2, f_X6_start_59 t p r κ fuel l c1 = κ c2 ∧ Fr (fun z => z = t + 4) c0 c2 ∧ (∀ j, 0 ≤ j → j < F 0 + F 1 → c2 (t + 4) (r * 9 + j) = aF F j r) ∧ ∀ y, (y < r * 9 ∨ r * 9 + 9 ≤ y) → c2 (t + 4) y = c0 (t + 4) y := by
      intro k
      induction k with
      | zero =>
        intro fuel l c1 hl h0 hf hF hI hO
        obtain ⟨f, rfl⟩ : ∃ f, fuel = f + 1 := ⟨fuel - 1, by omega⟩
        have et : c1 t = c0 t := hF t (by omega)
        rw [f_X6_start_59_s]
        unfold b_X6_start_59
        rw [et, ht1, gd_t (by omega), bq_p (by omega)]
        exact ⟨c1, rfl, hF, fun j a b => hI j a (by omega), hO⟩
      | succ k ih =>
        intro fuel l c1 hl h0 hf hF hI hO
        obtain ⟨f, rfl⟩ : ∃ f, fuel = f + 1 := ⟨fuel - 1, by omega⟩
        have et : c1 t = c0 t := hF t (by omega)
        have h9 := aF_9 g (q := l) (i := r) ⟨h0, by omega⟩
        rw [f_X6_start_59_s]
        unfold b_X6_start_59
        rw [et, ht1, gd_t (by omega), bq_n (by omega), ff8 (hPc c1 (hF0.tr (hF.mo (fun z h => Or.inr (Or.inr h))))) g ⟨hr0, hr1⟩ ⟨h0, by omega⟩, cv_s, gd_t (by omega), gd_t (by omega)]
        simp only [sto]
        refine ih f (l + 1) _ (by omega) (by omega) (by omega) (hF.tr (Fr.up rfl)) (fun j a b => ?_) (fun y hy => ?_)
        · rw [upc_s]
          by_cases e : j = l
          · rw [e, updZ_s]
          · rw [updZ_n (by omega)]; exact hI j a (by omega)
        · rw [upc_s, updZ_n (by omega)]
          exact hO y hy
    exact L (F 0 + F 1).toNat LF 0 c0 (by omega) (by omega) (by rw [LF_g]; omega) Fr.rf (fun j a b => by omega) (fun _ _ => rfl)
  have aw : ∀ r, 0 ≤ r → r < F 1 → aF F (F 0 + F 1) r = F (22 + r) := fun r a b => by
    unfold aF
    rw [if_pos ⟨a, b⟩, if_neg (by omega), if_pos rfl]
  have L1 : ∀ (κ : W0 → Option (Int × W0)) (k fuel : Nat) (l : Int) (c1 : W0), l + k = F 1 → 0 ≤ l → k + 1 ≤ fuel → Fr (ST t) c c1 → c1 t 0 = F 1 → c1 t 1 = F 0 + F 1 → c1 t 2 = 1 → (∀ r, 0 ≤ r → r < l → c1 (t + 2) r = F (27 + r)) → (∀ r j, 0 ≤ r → r < l → 0 ≤ j → j ≤ F 0 + F 1 → c1 (t + 4) (r * 9 + j) = aF F j r) → ∃ c2, f_X6_start_33 t p κ fuel l c1 = κ c2 ∧ Fr (ST t) c c2 ∧ c2 t 0 = F 1 ∧ c2 t 1 = F 0 + F 1 ∧ c2 t 2 = 1 ∧ (∀ r, 0 ≤ r → r < F 1 → c2 (t + 2) r = F (27 + r)) ∧ (∀ r j, 0 ≤ r → r < F 1 → 0 ≤ j → j ≤ F 0 + F 1 → c2 (t + 4) (r * 9 + j) = aF F j r) := by
    intro κ k
    induction k with
    | zero =>
      intro fuel l c1 hl h0 hf hF ht0 ht1 ht2 hn hI
      obtain ⟨f, rfl⟩ : ∃ f, fuel = f + 1 := ⟨fuel - 1, by omega⟩
      rw [f_X6_start_33_s]
      unfold b_X6_start_33
      rw [ht0, gd_t (by omega), bq_p (by omega)]
      exact ⟨c1, rfl, hF, ht0, ht1, ht2, fun r a b => hn r a (by omega), fun r j a b => hI r j a (by omega)⟩
    | succ k ih =>
      intro fuel l c1 hl h0 hf hF ht0 ht1 ht2 hn hI
      obtain ⟨f, rfl⟩ : ∃ f, fuel = f + 1 := ⟨fuel - 1, by omega⟩
      have hp0 : c1 p 0 = F 0 := (hPc c1 hF).1
      rw [f_X6_start_33_s]
      unfold b_X6_start_33
      rw [ht0, gd_t (by omega), bq_n (by omega), hp0, gd_t (by omega), gd_t (by omega)]
      simp only [sto]
      have hFa : Fr (ST t) c (upc c1 (t + 2) (updZ (c1 (t + 2)) l (F 0 + l))) := hF.tr (Fr.up (Or.inr (Or.inl rfl)))
      obtain ⟨c3, e3, hF3, h3, hO3⟩ := L2 (fun c2 => cv (f_X2_bound p l c2) fun v3 => gd (R32 v3) <| gd ((0 ≤ l ∧ l < 5) ∧ (0 ≤ (c2 t 1) ∧ (c2 t 1) < 9)) <| f_X6_start_33 t p κ f (l + 1) (upc c2 (t + 4) (updZ (c2 (t + 4)) (l * 9 + (c2 t 1)) v3))) l (upc c1 (t + 2) (updZ (c1 (t + 2)) l (F 0 + l))) h0 (by omega) hFa (by rw [upc_n (by omega)]; exact ht1)
      rw [e3]
      try dsimp only
      have hFb := hFa.tr (hF3.mo (fun z h => Or.inr (Or.inr h)))
      have et : c3 t = c1 t := by rw [hF3 t (by omega), upc_n (by omega)]
      have hb := g.2.2.2.2 l h0 (by omega)
      rw [bd8 (hPc c3 hFb) g ⟨h0, by omega⟩, cv_s, et, ht1, gd_t (by omega), gd_t (by omega)]
      refine ih f (l + 1) _ (by omega) (by omega) (by omega) (hFb.tr (Fr.up (Or.inr (Or.inr rfl)))) (by rw [upc_n (by omega), et]; exact ht0) (by rw [upc_n (by omega), et]; exact ht1) (by rw [upc_n (by omega), et]; exact ht2) (fun r a b => ?_) (fun r j a b a2 b2 => ?_)
      · rw [upc_n (by omega), hF3 _ (by omega), upc_s]
        by_cases e : r = l
        · rw [e, updZ_s, hs l h0 (by omega)]
        · rw [updZ_n e]; exact hn r a (by omega)
      · rw [upc_s]
        by_cases e : r = l
        · by_cases e2 : j = F 0 + F 1
          · rw [e, e2, updZ_s, aw l h0 (by omega)]
          · rw [updZ_n (by omega), e]; exact h3 j a2 (by omega)
        · rw [updZ_n (by omega), hO3 _ (by omega), upc_n (by omega)]
          exact hI r j a (by omega) a2 b2
  have L3 : ∀ (κ : W0 → Option (Int × W0)) (k fuel : Nat) (l : Int) (c0 c1 : W0), l + k = F 0 + F 1 → 0 ≤ l → k + 1 ≤ fuel → Fr (ST t) c c0 → c0 t 0 = F 1 → c0 t 1 = F 0 + F 1 → Fr (fun z => z = t + 4) c0 c1 → (∀ j, 0 ≤ j → j < l → c1 (t + 4) (F 1 * 9 + j) = cF F j) → (∀ y, y < F 1 * 9 → c1 (t + 4) y = c0 (t + 4) y) → ∃ c2, f_X6_start_115 t p κ fuel l c1 = κ c2 ∧ Fr (fun z => z = t + 4) c0 c2 ∧ (∀ j, 0 ≤ j → j < F 0 + F 1 → c2 (t + 4) (F 1 * 9 + j) = cF F j) ∧ ∀ y, y < F 1 * 9 → c2 (t + 4) y = c0 (t + 4) y := by
    intro κ k
    induction k with
    | zero =>
      intro fuel l c0 c1 hl h0 hf hF0 ht0 ht1 hF hI hO
      obtain ⟨f, rfl⟩ : ∃ f, fuel = f + 1 := ⟨fuel - 1, by omega⟩
      have et : c1 t = c0 t := hF t (by omega)
      rw [f_X6_start_115_s]
      unfold b_X6_start_115
      rw [et, ht1, gd_t (by omega), bq_p (by omega)]
      exact ⟨c1, rfl, hF, fun j a b => hI j a (by omega), hO⟩
    | succ k ih =>
      intro fuel l c0 c1 hl h0 hf hF0 ht0 ht1 hF hI hO
      obtain ⟨f, rfl⟩ : ∃ f, fuel = f + 1 := ⟨fuel - 1, by omega⟩
      have et : c1 t = c0 t := hF t (by omega)
      have h9 := cF_9 g h0
      rw [f_X6_start_115_s]
      unfold b_X6_start_115
      rw [et, ht1, ht0, gd_t (by omega), bq_n (by omega), cp8 (hPc c1 (hF0.tr (hF.mo (fun z h => Or.inr (Or.inr h))))) g ⟨h0, by omega⟩, cv_s, gd_t (by omega), gd_t (by omega)]
      simp only [sto]
      refine ih f (l + 1) c0 _ (by omega) (by omega) (by omega) hF0 ht0 ht1 (hF.tr (Fr.up rfl)) (fun j a b => ?_) (fun y hy => ?_)
      · rw [upc_s]
        by_cases e : j = l
        · rw [e, updZ_s]
        · rw [updZ_n (by omega)]; exact hI j a (by omega)
      · rw [upc_s, updZ_n (by omega)]
        exact hO y hy
  unfold f_X6_start
  simp only [sto]
  have q0 : upc c t (updZ (c t) 0 (c p 1)) p = c p := upc_n hne.1
  rw [q0, hP.1, hP.2.1]
  generalize hc3 : upc (upc (upc c t (updZ (c t) 0 (F 1))) t (updZ (upc c t (updZ (c t) 0 (F 1)) t) 1 (F 0 + F 1))) t (updZ (upc (upc c t (updZ (c t) 0 (F 1))) t (updZ (upc c t (updZ (c t) 0 (F 1)) t) 1 (F 0 + F 1)) t) 2 1) = c3
  have hF3 : Fr (ST t) c c3 := by
    rw [← hc3]
    exact ((Fr.up (Or.inl rfl)).tr (Fr.up (Or.inl rfl))).tr (Fr.up (Or.inl rfl))
  have k0 : c3 t 0 = F 1 := by rw [← hc3, upc_s, updZ_n (by decide), upc_s, updZ_n (by decide), upc_s, updZ_s]
  have k1 : c3 t 1 = F 0 + F 1 := by rw [← hc3, upc_s, updZ_n (by decide), upc_s, updZ_s]
  have k2 : c3 t 2 = 1 := by rw [← hc3, upc_s, updZ_s]
  obtain ⟨c4, e4, hF4, a0, a1, a2, a3, a4⟩ := L1 (fun c4 => f_X6_start_115 t p (fun c5 => gd ((0 ≤ (c5 t 0) ∧ (c5 t 0) < 5) ∧ (0 ≤ (c5 t 1) ∧ (c5 t 1) < 9)) <| some (0, upc c5 (t + 4) (updZ (c5 (t + 4)) ((c5 t 0) * 9 + (c5 t 1)) 0))) LF 0 c4) (F 1).toNat LF 0 c3 (by omega) (by omega) (by rw [LF_g]; omega) hF3 k0 k1 k2 (fun r a b => by omega) (fun r j a b => by omega)
  rw [e4]
  obtain ⟨c5, e5, hF5, b1, b2⟩ := L3 (fun c5 => gd ((0 ≤ (c5 t 0) ∧ (c5 t 0) < 5) ∧ (0 ≤ (c5 t 1) ∧ (c5 t 1) < 9)) <| some (0, upc c5 (t + 4) (updZ (c5 (t + 4)) ((c5 t 0) * 9 + (c5 t 1)) 0))) (F 0 + F 1).toNat LF 0 c4 c4 (by omega) (by omega) (by rw [LF_g]; omega) hF4 a0 a1 Fr.rf (fun j a b => by omega) (fun _ _ => rfl)
  try dsimp only
  rw [e5]
  try dsimp only
  have et : c5 t = c4 t := hF5 t (by omega)
  rw [et, a0, a1, gd_t (by omega)]
  refine ⟨_, rfl, (hF4.tr (hF5.mo (fun z h => Or.inr (Or.inr h)))).tr (Fr.up (Or.inr (Or.inr rfl))), X_RepT ?_ ?_ ?_ (fun r a b => ?_) (by omega) (fun r x a b ax bx => ?_)⟩
  · rw [upc_n (by omega), et, a0]
  · rw [upc_n (by omega), et, a1]
  · rw [upc_n (by omega), et, a2, dF_I hs]
  · rw [upc_n (by omega), hF5 _ (by omega)]
    exact a3 r a b
  · rw [upc_s]
    by_cases e : r < F 1
    · rw [XF_t e, tF_I hs (by omega), updZ_n (by omega), b2 _ (by omega)]
      exact a4 r x a e ax bx
    · obtain rfl : r = F 1 := by omega
      rw [XF_r, rF_I hs]
      by_cases e2 : x = F 0 + F 1
      · rw [e2, updZ_s]
        unfold cF
        rw [if_neg (by omega)]
      · rw [updZ_n (by omega)]
        exact b1 x ax (by omega)
theorem copy8 {t u : Nat} {F : Int → Int} {c : W0} (hT : RepT u F c) (hne : u ≠ t ∧ u ≠ t + 2 ∧ u + 2 ≠ t ∧ u + 4 ≠ t ∧ u + 4 ≠ t + 2 ∧ u + 2 ≠ t + 4) : ∃ c', f_X6_copy t u c = some (0, c') ∧ Fr (ST t) c c' ∧ RepT t F c' := by
  obtain ⟨h1, h2, h3, h4, h5, h6⟩ := hne
  unfold f_X6_copy
  simp only [sto, stw]
  refine ⟨_, rfl, ((((Fr.up (Or.inl rfl)).tr (Fr.up (Or.inl rfl))).tr (Fr.up (Or.inl rfl))).tr (Fr.up (Or.inr (Or.inl rfl)))).tr (Fr.up (Or.inr (Or.inr rfl))), ?_⟩
  unfold RepT
  simp only [upc_s, upc_n h1, upc_n h2, upc_n h3, upc_n h4, upc_n h5, upc_n (show t ≠ t + 4 by omega), upc_n (show t ≠ t + 2 by omega), upc_n (show t + 2 ≠ t + 4 by omega), updZ_s, updZ_n (show (0 : Int) ≠ 1 by decide), updZ_n (show (0 : Int) ≠ 2 by decide), updZ_n (show (1 : Int) ≠ 2 by decide)]
  exact hT
end CU
