section SV
/-! rows of 34 numbers that agree -/
def Ag (F F' : Int → Int) : Prop := ∀ i, 0 ≤ i → i < 34 → F' i = F i
section
variable {F F' : Int → Int}
theorem aF_ag (h : Ag F F') (g : GdP F) {q : Int} (hq : 0 ≤ q) : aF F' q = aF F q := by
  have g0 := g.1; have g1 := g.2.1
  funext i
  unfold aF
  rw [h 0 (by omega) (by omega), h 1 (by omega) (by omega)]
  by_cases h1 : 0 ≤ i ∧ i < F 1
  · rw [if_pos h1, if_pos h1]
    by_cases h2 : q < F 0
    · rw [if_pos h2, if_pos h2, h _ (by omega) (by omega)]
    · rw [if_neg h2, if_neg h2, h _ (by omega) (by omega)]
  · rw [if_neg h1, if_neg h1]
theorem cF_ag (h : Ag F F') (g : GdP F) {q : Int} (hq : 0 ≤ q) : cF F' q = cF F q := by
  have g0 := g.1
  unfold cF
  rw [h 0 (by omega) (by omega)]
  by_cases h2 : q < F 0
  · rw [if_pos h2, if_pos h2, h _ (by omega) (by omega)]
  · rw [if_neg h2, if_neg h2]
theorem bF_ag (h : Ag F F') (g : GdP F) (hN : GdN F) : bF F' = bF F := by
  have g1 := g.2.1
  funext i r
  simp only [bF]
  rw [h 1 (by omega) (by omega)]
  by_cases h1 : 0 ≤ r ∧ r < F 1
  · rw [if_pos h1, if_pos h1, h _ (by omega) (by omega), aF_ag h g (hN r h1.1 h1.2).1]
  · rw [if_neg h1, if_neg h1]
theorem dF_ag (h : Ag F F') (g : GdP F) (hN : GdN F) : dF F' = dF F := by unfold dF; rw [bF_ag h g hN]
theorem tF_ag (h : Ag F F') (g : GdP F) (hN : GdN F) {q : Int} (hq : 0 ≤ q) (r : Int) : tF F' r q = tF F r q := by unfold tF; rw [bF_ag h g hN, aF_ag h g hq]
theorem rF_ag (h : Ag F F') (g : GdP F) (hN : GdN F) {q : Int} (hq : 0 ≤ q) : rF F' q = rF F q := by
  have g1 := g.2.1
  unfold rF vF
  rw [dF_ag h g hN, cF_ag h g hq]
  congr 1
  refine s4_c fun r hr => ?_
  show (if r < F' 1 then cF F' (F' (27 + r)) * tF F' r q else 0) = if r < F 1 then cF F (F (27 + r)) * tF F r q else 0
  rw [h 1 (by omega) (by omega)]
  by_cases h1 : r < F 1
  · rw [if_pos h1, if_pos h1, h _ (by omega) (by omega), tF_ag h g hN hq, cF_ag h g (hN r hr.1 h1).1]
  · rw [if_neg h1, if_neg h1]
theorem GdP_ag (h : Ag F F') (g : GdP F) : GdP F' := by
  obtain ⟨h0, h1, h2, h3, h4⟩ := g
  refine ⟨by rw [h 0 (by omega) (by omega)]; exact h0, by rw [h 1 (by omega) (by omega)]; exact h1, fun v a b => by rw [h _ (by omega) (by omega)]; exact h2 v a b, fun c v a b a2 b2 => by rw [h _ (by omega) (by omega)]; exact h3 c v a b a2 b2, fun c a b => by rw [h _ (by omega) (by omega)]; exact h4 c a b⟩
theorem GdN_ag (h : Ag F F') (g : GdP F) (hN : GdN F) : GdN F' := fun r a b => by
  have g1 := g.2.1
  rw [h 1 (by omega) (by omega)] at b
  rw [h 0 (by omega) (by omega), h 1 (by omega) (by omega), h _ (by omega) (by omega)]
  exact hN r a b
theorem Good_ag {K : Int} (h : Ag F F') (hG : Good K F) : Good K F' := by
  obtain ⟨g, ⟨hN, hd, hs, hw⟩, h26, h31, h32, h33⟩ := hG
  have g0 := g.1; have g1 := g.2.1
  refine ⟨GdP_ag h g, ⟨GdN_ag h g hN, by rw [dF_ag h g hN]; exact hd, fun r a b => ?_, ?_⟩, by rw [h _ (by omega) (by omega)]; exact h26, by rw [h _ (by omega) (by omega)]; exact h31, by rw [h _ (by omega) (by omega)]; exact h32, by rw [h _ (by omega) (by omega)]; exact h33⟩
  · rw [h 1 (by omega) (by omega)] at b
    rw [h 0 (by omega) (by omega), h 1 (by omega) (by omega), tF_ag h g hN (by omega)]
    exact hs r a b
  · rw [h 0 (by omega) (by omega), h 1 (by omega) (by omega), rF_ag h g hN (by omega)]
    exact hw
theorem RepS_ag {s : Nat} {c : W0} (h : Ag F F') (g : GdP F) (hN : GdN F) (hS : RepS s F c) : RepS s F' c := by
  obtain ⟨hP, ⟨t0, t1, t2, t3, t4, t5⟩, h26, h31, h32, h33⟩ := hS
  have g0 := g.1; have g1 := g.2.1
  have e0 := h 0 (by omega) (by omega); have e1 := h 1 (by omega) (by omega)
  refine ⟨?_, ⟨by rw [e1]; exact t0, by rw [e0, e1]; exact t1, by rw [dF_ag h g hN]; exact t2, fun r a b => ?_, fun r q a b a2 b2 => ?_, fun q a b => ?_⟩, by rw [h _ (by omega) (by omega)]; exact h26, by rw [h _ (by omega) (by omega)]; exact h31, by rw [h _ (by omega) (by omega)]; exact h32, by rw [h _ (by omega) (by omega)]; exact h33⟩
  · obtain ⟨p1, p2, p3, p4, p5, p6⟩ := hP
    refine ⟨by rw [e0]; exact p1, by rw [e1]; exact p2, fun r v a b a2 b2 => ?_, fun v a b => ?_, fun r a b => ?_, fun r v a b a2 b2 => ?_⟩
    · rw [e1] at b
      rw [h _ (by omega) (by omega)]; exact p3 r v a b a2 b2
    · rw [h _ (by omega) (by omega)]; exact p4 v a b
    · rw [e1] at b
      rw [h _ (by omega) (by omega)]; exact p5 r a b
    · rw [e0] at a2
      exact p6 r v a b a2 b2
  · rw [e1] at b
    rw [h _ (by omega) (by omega)]; exact t3 r a b
  · rw [e1] at b
    rw [e0, e1] at b2
    rw [tF_ag h g hN a2]; exact t4 r q a b a2 b2
  · rw [e0, e1] at b
    rw [e1, rF_ag h g hN a]; exact t5 q a b
end
theorem RepS_fr {s : Nat} {F : Int → Int} {c c' : W0} (h : RepS s F c) (e : ∀ z, s ≤ z → z < s + 9 → c' z = c z) : RepS s F c' :=
  ⟨RepP_c h.1 (e _ (by omega) (by omega)) (e _ (by omega) (by omega)), RepT_c h.2.1 (e _ (by omega) (by omega)) (e _ (by omega) (by omega)) (e _ (by omega) (by omega)), by rw [e s (by omega) (by omega)]; exact h.2.2⟩
/-! saved states: the class's side -/
def Pl (d : Nat) (c : W0) : Prop := (∀ k, 0 ≤ k → k < 6 → 0 ≤ c (d + 28) k ∧ stP d (c (d + 28) k).toNat) ∧ ∀ k k', 0 ≤ k → k < 6 → 0 ≤ k' → k' < 6 → c (d + 28) k = c (d + 28) k' → k = k'
def SvC (d : Nat) (n : Int) (S : Int → Int → Int) (c : W0) : Prop := (0 ≤ n ∧ n ≤ 6) ∧ c d 10 = n ∧ Pl d c ∧ ∀ k, 0 ≤ k → k < n → RepS (c (d + 28) k).toNat (S k) c
def SvM (m : Nat) (n : Int) (S : Int → Int → Int) (c : W0) : Prop := c m 4 = n ∧ ∀ k i, 0 ≤ k → k < n → 0 ≤ i → i < 34 → c (m + 3) (34 * k + i) = S k i
def psN (n : Int) : Int := if n = 6 then 6 else n + 1
def psS (n : Int) (S : Int → Int → Int) (F : Int → Int) : Int → Int → Int := fun k => if n = 6 then (if k = 5 then F else S (k + 1)) else if k = n then F else S k
theorem stP_r {d q : Nat} (h : stP d q) : d + 51 ≤ q ∧ q + 9 ≤ d + 105 := by
  obtain ⟨j, hj, rfl⟩ := h
  omega
theorem stP_d {d q q' : Nat} (h : stP d q) (h' : stP d q') (hne : q ≠ q') : q + 9 ≤ q' ∨ q' + 9 ≤ q := by
  obtain ⟨j, hj, rfl⟩ := h
  obtain ⟨j', hj', rfl⟩ := h'
  omega
def SD (d q : Nat) : Prop := q = d ∨ q = d + 28 ∨ d + 51 ≤ q ∧ q < d + 105
theorem Pl_e {d : Nat} {c c' : W0} (h : Pl d c) (e : c' (d + 28) = c (d + 28)) : Pl d c' := by
  unfold Pl
  rw [e]
  exact h
/-- the oldest goes behind the others -/
theorem drop8 {d : Nat} {n : Int} {S : Int → Int → Int} {c : W0} (h : SvC d n S c) (hn : n = 6) : ∃ c', f_X8_dropOldest d c = some (0, c') ∧ Fr (fun q => q = d ∨ q = d + 28) c c' ∧ (∀ i, i ≠ 10 → c' d i = c d i) ∧ SvC d 5 (fun k => S (k + 1)) c' := by
  obtain ⟨hn0, h10, hPl, hS⟩ := h
  have L : ∀ (κ : W0 → Option (Int × W0)) (k fuel : Nat) (l : Int) (c1 : W0), l + k = 5 → 0 ≤ l → k + 1 ≤ fuel → Fr (fun q => q = d + 28) c c1 → (∀ j, 0 ≤ j → j < 6 → c1 (d + 28) j = if j < l then c (d + 28) (j + 1) else if j = l then c (d + 28) 0 else c (d + 28) j) → ∃ c2, f_X8_dropOldest_2 d κ fuel l c1 = κ c2 ∧ Fr (fun q => q = d + 28) c c2 ∧ ∀ j, 0 ≤ j → j < 6 → c2 (d + 28) j = if j < 5 then c (d + 28) (j + 1) else c (d + 28) 0 := by
    intro κ k
    induction k with
    | zero =>
      intro fuel l c1 hl h0 hf hF hI
      obtain ⟨f, rfl⟩ : ∃ f, fuel = f + 1 := ⟨fuel - 1, by omega⟩
      rw [f_X8_dropOldest_2_s]
      unfold b_X8_dropOldest_2
      rw [gd_t (by omega), bq_p (by omega)]
      refine ⟨c1, rfl, hF, fun j a b => ?_⟩
      rw [hI j a b]
      by_cases e : j < 5
      · rw [if_pos (by omega), if_pos e]
      · rw [if_neg (by omega), if_pos (by omega), if_neg e]
    | succ k ih =>
      intro fuel l c1 hl h0 hf hF hI
      obtain ⟨f, rfl⟩ : ∃ f, fuel = f + 1 := ⟨fuel - 1, by omega⟩
      have v1 : c1 (d + 28) (l + 1) = c (d + 28) (l + 1) := by rw [hI _ (by omega) (by omega), if_neg (by omega), if_neg (by omega)]
      have v0 : c1 (d + 28) l = c (d + 28) 0 := by rw [hI _ (by omega) (by omega), if_neg (by omega), if_pos rfl]
      have p1 := hPl.1 (l + 1) (by omega) (by omega)
      have p0 := hPl.1 0 (by omega) (by omega)
      rw [f_X8_dropOldest_2_s]
      unfold b_X8_dropOldest_2
      rw [v1, v0, gd_t (by omega), bq_n (by omega), gd_t (by omega), gd_t p1.2, gd_t (by omega), gd_t p0.2, gd_t (by omega)]
      simp only [sto]
      rw [gd_t (by omega), show (((c (d + 28) 0).toNat : Nat) : Int) = c (d + 28) 0 by omega, show (((c (d + 28) (l + 1)).toNat : Nat) : Int) = c (d + 28) (l + 1) by omega]
      refine ih f (l + 1) _ (by omega) (by omega) (by omega) ((hF.tr (Fr.up rfl)).tr (Fr.up rfl)) (fun j a b => ?_)
      rw [upc_s, upc_s]
      by_cases e : j = l
      · rw [e, updZ_s, if_pos (by omega)]
      · rw [updZ_n e]
        by_cases e2 : j = l + 1
        · rw [e2, updZ_s, if_neg (by omega), if_pos rfl]
        · rw [updZ_n e2, hI j a b]
          by_cases e3 : j < l
          · rw [if_pos e3, if_pos (by omega)]
          · rw [if_neg e3, if_neg e, if_neg (by omega), if_neg e2]
  unfold f_X8_dropOldest
  obtain ⟨c2, e2, hF2, h2⟩ := L (fun c1 => sto c1 d 10 ((c1 d 10) - 1) fun c2 => some (0, c2)) 5 LF 0 c (by omega) (by omega) (by rw [LF_g]; omega) Fr.rf (fun j a b => by
    rw [if_neg (by omega)]
    by_cases e : j = 0
    · rw [if_pos e, e]
    · rw [if_neg e])
  rw [e2]
  simp only [sto]
  have ed : c2 d = c d := hF2 d (by omega)
  have hP2 : Pl d c2 := by
    refine ⟨fun k a b => ?_, fun k k' a b a' b' e => ?_⟩
    · rw [h2 k a b]
      split
      · exact hPl.1 (k + 1) (by omega) (by omega)
      · exact hPl.1 0 (by omega) (by omega)
    · rw [h2 k a b, h2 k' a' b'] at e
      by_cases e1 : k < 5 <;> by_cases e3 : k' < 5
      · rw [if_pos e1, if_pos e3] at e
        have := hPl.2 _ _ (by omega) (by omega) (by omega) (by omega) e
        omega
      · rw [if_pos e1, if_neg e3] at e
        have := hPl.2 _ _ (by omega) (by omega) (by omega) (by omega) e
        omega
      · rw [if_neg e1, if_pos e3] at e
        have := hPl.2 _ _ (by omega) (by omega) (by omega) (by omega) e
        omega
      · omega
  refine ⟨_, rfl, (hF2.mo (fun z h => Or.inr h)).tr (Fr.up (Or.inl rfl)), fun i hi => ?_, ⟨by omega, ?_, Pl_e hP2 (upc_n (by omega)), fun k a b => ?_⟩⟩
  · rw [upc_s, updZ_n hi, ed]
  · rw [upc_s, updZ_s, ed, h10]
    omega
  · rw [upc_n (by omega), h2 k a (by omega), if_pos b]
    have hp := stP_r (hPl.1 (k + 1) (by omega) (by omega)).2
    exact RepS_fr (hS (k + 1) (by omega) (by omega)) (fun z a2 b2 => by rw [upc_n (by omega), hF2 z (by omega)])
theorem save8a {d : Nat} {n : Int} {F : Int → Int} {S : Int → Int → Int} {c : W0} (hF : RepS (d + 1) F c) (h : SvC d n S c) (hn : n < 6) : ∃ c', (gd (R32 (c d 10)) <| bq ((c d 10) < 0) (some (0, c)) (gd (R32 (c d 10)) <| bq (6 ≤ (c d 10)) (some (0, c)) (gd (0 ≤ (c d 10) ∧ (c d 10) < 6) <| gd (stP d ((c (d + 28) (c d 10)).toNat)) <| cl (f_X4_copy ((c (d + 28) (c d 10)).toNat) (d + 1) c) fun _ c4 => sto c4 d 10 ((c4 d 10) + 1) fun c6 => some (0, c6)))) = some ((0 : Int), c') ∧ Fr (SD d) c c' ∧ (∀ i, i ≠ 10 → c' d i = c d i) ∧ SvC d (n + 1) (fun k => if k = n then F else S k) c' := by
  obtain ⟨hn0, h10, hPl, hS⟩ := h
  have hp := hPl.1 n hn0.1 hn
  have hr := stP_r hp.2
  rw [h10, gd_t (by omega), bq_n (by omega), gd_t (by omega), bq_n (by omega), gd_t (by omega), gd_t hp.2]
  obtain ⟨c4, e4, hF4, hS4⟩ := copyS8 (s := (c (d + 28) n).toNat) (u := d + 1) hF (by omega)
  rw [e4, cl_s]
  simp only [sto]
  have ed : c4 d = c d := hF4 d (by unfold SS9; omega)
  have e28 : c4 (d + 28) = c (d + 28) := hF4 (d + 28) (by unfold SS9; omega)
  refine ⟨_, rfl, (hF4.mo (fun z h => by unfold SS9 at h; unfold SD; omega)).tr (Fr.up (Or.inl rfl)), fun i hi => ?_, ⟨by omega, ?_, Pl_e hPl ?_, fun k a b => ?_⟩⟩
  · rw [upc_s, updZ_n hi, ed]
  · rw [upc_s, updZ_s, ed, h10]
  · rw [upc_n (by omega), e28]
  · rw [upc_n (by omega), e28]
    by_cases e : k = n
    · dsimp only
      rw [e, if_pos rfl]
      exact RepS_fr hS4 (fun z a2 b2 => upc_n (by omega))
    · dsimp only
      rw [if_neg e]
      have hk := hPl.1 k a (by omega)
      have hkr := stP_r hk.2
      have hd := stP_d hk.2 hp.2 (fun z => e (hPl.2 k n a (by omega) hn0.1 hn (by omega)))
      exact RepS_fr (hS k a (by omega)) (fun z a2 b2 => by rw [upc_n (by omega), hF4 z (by unfold SS9; omega)])
theorem save8 {d : Nat} {n : Int} {F : Int → Int} {S : Int → Int → Int} {c : W0} (hF : RepS (d + 1) F c) (h : SvC d n S c) : ∃ c', f_X8_saveState d c = some (0, c') ∧ Fr (SD d) c c' ∧ (∀ i, i ≠ 10 → c' d i = c d i) ∧ SvC d (psN n) (psS n S F) c' := by
  have h10 := h.2.1; have hn := h.1
  unfold f_X8_saveState psN psS
  simp only [jn]
  by_cases e : n = 6
  · obtain ⟨c1, e1, hF1, hi1, hS1⟩ := drop8 h e
    rw [h10, gd_t (by omega), bq_n (by omega), e1, cl_s]
    obtain ⟨c2, e2, hF2, hi2, hS2⟩ := save8a (RepS_fr hF (fun z a b => hF1 z (by omega))) hS1 (by omega)
    refine ⟨c2, e2, (hF1.mo (fun z h => by unfold SD; omega)).tr hF2, fun i hi => (hi2 i hi).trans (hi1 i hi), ?_⟩
    simp only [if_pos e]
    exact hS2
  · obtain ⟨c2, e2, hF2, hi2, hS2⟩ := save8a hF h (by omega)
    rw [gd_t (show R32 (c d 10) by omega), bq_p (show c d 10 < 6 by omega)]
    refine ⟨c2, e2, hF2, hi2, ?_⟩
    simp only [if_neg e]
    exact hS2
/-! .. the reference's side -/
theorem save9a {m : Nat} {n : Int} {S : Int → Int → Int} {F : Int → Int} {c : W0} (hF : c (m + 1) = F) (h : SvM m n S c) (hn : 0 ≤ n ∧ n < 6) : ∃ c', f_X9_save_51 m (fun c1 => sto c1 m 4 ((c1 m 4) + 1) fun c2 => some (0, c2)) LF 0 c = some (0, c') ∧ Fr (fun q => q = m ∨ q = m + 3) c c' ∧ (∀ i, i ≠ 4 → c' m i = c m i) ∧ SvM m (n + 1) (fun k => if k = n then F else S k) c' := by
  have L : ∀ (κ : W0 → Option (Int × W0)) (k fuel : Nat) (l : Int) (c1 : W0), l + k = 34 → 0 ≤ l → k + 1 ≤ fuel → Fr (fun q => q = m + 3) c c1 → (∀ i, 0 ≤ i → i < l → c1 (m + 3) (34 * n + i) = F i) → (∀ y, y < 34 * n → c1 (m + 3) y = c (m + 3) y) → ∃ c2, f_X9_save_51 m κ fuel l c1 = κ c2 ∧ Fr (fun q => q = m + 3) c c2 ∧ (∀ i, 0 ≤ i → i < 34 → c2 (m + 3) (34 * n + i) = F i) ∧ ∀ y, y < 34 * n → c2 (m + 3) y = c (m + 3) y := by
    intro κ k
    induction k with
    | zero =>
      intro fuel l c1 hl h0 hf hFr hI hO
      obtain ⟨f, rfl⟩ : ∃ f, fuel = f + 1 := ⟨fuel - 1, by omega⟩
      rw [f_X9_save_51_s]
      unfold b_X9_save_51
      rw [gd_t (by omega), bq_p (by omega)]
      exact ⟨c1, rfl, hFr, fun i a b => hI i a (by omega), hO⟩
    | succ k ih =>
      intro fuel l c1 hl h0 hf hFr hI hO
      obtain ⟨f, rfl⟩ : ∃ f, fuel = f + 1 := ⟨fuel - 1, by omega⟩
      have e4 : c1 m 4 = n := by rw [hFr m (by omega)]; exact h.1
      have eF : c1 (m + 1) = F := (hFr _ (by omega)).trans hF
      rw [f_X9_save_51_s]
      unfold b_X9_save_51
      rw [e4, eF, gd_t (by omega), bq_n (by omega), gd_t (by omega), gd_t (by omega)]
      simp only [sto]
      refine ih f (l + 1) _ (by omega) (by omega) (by omega) (hFr.tr (Fr.up rfl)) (fun i a b => ?_) (fun y hy => ?_)
      · rw [upc_s]
        by_cases e : i = l
        · rw [e, updZ_s]
        · rw [updZ_n (by omega)]; exact hI i a (by omega)
      · rw [upc_s, updZ_n (by omega)]; exact hO y hy
  obtain ⟨c2, e2, hF2, h2, hO2⟩ := L (fun c1 => sto c1 m 4 ((c1 m 4) + 1) fun c2 => some (0, c2)) 34 LF 0 c (by omega) (by omega) (by rw [LF_g]; omega) Fr.rf (fun i a b => by omega) (fun _ _ => rfl)
  rw [e2]
  simp only [sto]
  have em : c2 m = c m := hF2 m (by omega)
  refine ⟨_, rfl, (hF2.mo (fun z h => Or.inr h)).tr (Fr.up (Or.inl rfl)), fun i hi => by rw [upc_s, updZ_n hi, em], by rw [upc_s, updZ_s, em, h.1], fun k i a b a2 b2 => ?_⟩
  rw [upc_n (by omega)]
  by_cases e : k = n
  · dsimp only; rw [e, if_pos rfl]; exact h2 i a2 b2
  · dsimp only; rw [if_neg e, hO2 _ (by omega)]
    exact h.2 k i a (by omega) a2 b2
theorem save9 {m : Nat} {n : Int} {S : Int → Int → Int} {F : Int → Int} {c : W0} (hF : c (m + 1) = F) (h : SvM m n S c) (hn : 0 ≤ n ∧ n ≤ 6) : ∃ c', f_X9_save m c = some (0, c') ∧ Fr (fun q => q = m ∨ q = m + 3) c c' ∧ (∀ i, i ≠ 4 → c' m i = c m i) ∧ SvM m (psN n) (psS n S F) c' := by
  unfold f_X9_save psN psS
  by_cases e : n = 6
  · have L : ∀ (κ : W0 → Option (Int × W0)) (k fuel : Nat) (l : Int) (c1 : W0), l + k = 170 → 0 ≤ l → k + 1 ≤ fuel → Fr (fun q => q = m + 3) c c1 → (∀ y, 0 ≤ y → c1 (m + 3) y = if y < l then c (m + 3) (y + 34) else c (m + 3) y) → ∃ c2, f_X9_save_11 m κ fuel l c1 = κ c2 ∧ Fr (fun q => q = m + 3) c c2 ∧ ∀ y, 0 ≤ y → y < 170 → c2 (m + 3) y = c (m + 3) (y + 34) := by
      intro κ k
      induction k with
      | zero =>
        intro fuel l c1 hl h0 hf hFr hI
        obtain ⟨f, rfl⟩ : ∃ f, fuel = f + 1 := ⟨fuel - 1, by omega⟩
        rw [f_X9_save_11_s]
        unfold b_X9_save_11
        rw [gd_t (by omega), bq_p (by omega)]
        exact ⟨c1, rfl, hFr, fun y a b => by rw [hI y a, if_pos (by omega)]⟩
      | succ k ih =>
        intro fuel l c1 hl h0 hf hFr hI
        obtain ⟨f, rfl⟩ : ∃ f, fuel = f + 1 := ⟨fuel - 1, by omega⟩
        rw [f_X9_save_11_s]
        unfold b_X9_save_11
        rw [gd_t (by omega), bq_n (by omega), gd_t (by omega), gd_t (by omega), hI (l + 34) (by omega), if_neg (by omega)]
        simp only [sto]
        refine ih f (l + 1) _ (by omega) (by omega) (by omega) (hFr.tr (Fr.up rfl)) (fun y a => ?_)
        rw [upc_s]
        by_cases e : y = l
        · rw [e, updZ_s, if_pos (by omega)]
        · rw [updZ_n e, hI y a]
          by_cases e2 : y < l
          · rw [if_pos e2, if_pos (by omega)]
          · rw [if_neg e2, if_neg (by omega)]
    rw [h.1, gd_t (by omega), bq_p e]
    obtain ⟨c2, e2, hF2, h2⟩ := L (fun c3 => sto c3 m 4 ((c3 m 4) - 1) fun c4 => f_X9_save_51 m (fun c5 => sto c5 m 4 ((c5 m 4) + 1) fun c6 => some (0, c6)) LF 0 c4) 170 LF 0 c (by omega) (by omega) (by rw [LF_g]; omega) Fr.rf (fun y a => by rw [if_neg (by omega)])
    rw [e2]
    have em : c2 m = c m := hF2 m (by omega)
    generalize hc4 : upc c2 m (updZ (c2 m) 4 ((c2 m 4) - 1)) = c4
    have hF4 : Fr (fun q => q = m ∨ q = m + 3) c c4 := by rw [← hc4]; exact (hF2.mo (fun z h => Or.inr h)).tr (Fr.up (Or.inl rfl))
    have hS4 : SvM m 5 (fun k => S (k + 1)) c4 := by
      rw [← hc4]
      refine ⟨by rw [upc_s, updZ_s, em, h.1]; omega, fun k i a b a2 b2 => ?_⟩
      rw [upc_n (by omega), h2 _ (by omega) (by omega), show 34 * k + i + 34 = 34 * (k + 1) + i by omega]
      exact h.2 (k + 1) i (by omega) (by omega) a2 b2
    obtain ⟨c5, e5, hF5, hi5, hS5⟩ := save9a (F := F) ((hF4 _ (by omega)).trans hF) hS4 (by omega)
    refine ⟨c5, ?_, hF4.tr hF5, fun i hi => by rw [hi5 i hi, ← hc4, upc_s, updZ_n hi, em], ?_⟩
    · show (sto c2 m 4 ((c2 m 4) - 1) fun c4 => f_X9_save_51 m (fun c5 => sto c5 m 4 ((c5 m 4) + 1) fun c6 => some (0, c6)) LF 0 c4) = _
      simp only [sto]
      rw [hc4]
      simp only [sto] at e5
      exact e5
    · simp only [if_pos e]
      exact hS5
  · rw [h.1, gd_t (by omega), bq_n e]
    obtain ⟨c2, e2, hF2, hi2, hS2⟩ := save9a (F := F) hF h (by omega)
    refine ⟨c2, e2, hF2, hi2, ?_⟩
    simp only [if_neg e]
    exact hS2
end SV
