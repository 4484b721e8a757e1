section SS
/-! pivots, on both sides -/
theorem lr_min {F : Int → Int} (g : GdP F) {q : Int} : ∀ (j : Nat), (j : Int) ≤ F 1 → 0 ≤ lrI (lrP F q) (lrB F q) j → ∀ r : Int, 0 ≤ r → r < j → 0 < tF F r q → tF F (lrI (lrP F q) (lrB F q) j) (F 0 + F 1) * tF F r q ≤ tF F r (F 0 + F 1) * tF F (lrI (lrP F q) (lrB F q) j) q := by
  intro j
  induction j with
  | zero => intro _ _ r a b; omega
  | succ j ih =>
    intro hj h0 r a b hr
    have ih := ih (by omega)
    have hL := lrI_r (pos := lrP F q) (bt := lrB F q) (show 0 ≤ (j : Int) by omega)
    rw [show ((j + 1 : Nat) : Int) = (j : Int) + 1 by omega] at h0 b ⊢
    by_cases hc : lrP F q j ∧ (lrI (lrP F q) (lrB F q) j < 0 ∨ lrB F q j (lrI (lrP F q) (lrB F q) j))
    · rw [lrI_t (by omega) hc.1 hc.2]
      by_cases e : r = j
      · rw [e]
        exact Int.le_refl _
      · rcases hc.2 with h1 | h1
        · exact absurd hr ((lrI_n (by omega)).mp h1 r a (by omega))
        · rcases hL with h2 | h2
          · exact absurd hr ((lrI_n (pos := lrP F q) (bt := lrB F q) (j := (j : Int)) (by omega)).mp (by omega) r a (by omega))
          · have h3 := ih h2.1 r a (by omega) hr
            have h4 : tF F j (F 0 + F 1) * tF F (lrI (lrP F q) (lrB F q) j) q ≤ tF F (lrI (lrP F q) (lrB F q) j) (F 0 + F 1) * tF F j q := by
              rcases h1 with h5 | h5
              · unfold ordF at h5; omega
              · have := h5.1; unfold ordF at this; omega
            have h6 : 0 < tF F (lrI (lrP F q) (lrB F q) j) q := h2.2.2
            have h7 : 0 < tF F j q := hc.1
            generalize tF F (lrI (lrP F q) (lrB F q) j) q = bL at *
            generalize tF F (lrI (lrP F q) (lrB F q) j) (F 0 + F 1) = aL at *
            generalize tF F j q = bj at *
            generalize tF F j (F 0 + F 1) = aj at *
            generalize tF F r q = br at *
            generalize tF F r (F 0 + F 1) = ar at *
            refine Int.le_of_mul_le_mul_right (a := bL) ?_ h6
            have k1 := Int.mul_le_mul_of_nonneg_right h4 (show 0 ≤ br by omega)
            have k2 := Int.mul_le_mul_of_nonneg_right h3 (show 0 ≤ bj by omega)
            have e1 : aj * br * bL = aj * bL * br := by ac_rfl
            have e2 : aL * bj * br = aL * br * bj := by ac_rfl
            have e3 : ar * bj * bL = ar * bL * bj := by ac_rfl
            omega
    · rw [lrI_f (by omega) hc] at h0 ⊢
      by_cases e : r = j
      · subst e
        have h5 : ¬ lrB F q j (lrI (lrP F q) (lrB F q) j) := fun z => hc ⟨hr, Or.inr z⟩
        have h6 : ¬ ordF F q j (lrI (lrP F q) (lrB F q) j) < 0 := fun z => h5 (Or.inl z)
        unfold ordF at h6
        omega
      · exact ih h0 r a (by omega) hr
theorem lrV_min {F : Int → Int} (g : GdP F) {q : Int} (h0 : 0 ≤ lrV F q) {r : Int} (hr : 0 ≤ r ∧ r < F 1) (hp : 0 < tF F r q) : tF F (lrV F q) (F 0 + F 1) * tF F r q ≤ tF F r (F 0 + F 1) * tF F (lrV F q) q := by
  have g1 := g.2.1
  have h := lr_min g (q := q) (F 1).toNat (by omega)
  rw [show (((F 1).toNat : Nat) : Int) = F 1 by omega] at h
  exact h h0 r hr.1 hr.2 hp
/-- what a pivot makes of the numbers, with the counts -/
noncomputable def pvW (F : Int → Int) (r q : Int) : Int → Int := updZ (updZ (updZ (updZ F 33 (F 33 + pick (tF F r (F 0 + F 1) = 0) 1 0)) (27 + r) q) 31 (F 31 + 1)) 32 (F 32 + 1)
theorem pvW_v {F : Int → Int} {r q : Int} (hr : 0 ≤ r ∧ r < 4) (hm : F 1 ≤ 4) : PvF F (pvW F r q) r q := by
  refine ⟨fun i h => ?_, ?_, fun x h0 h1 h2 => ?_⟩
  · unfold pvW; rw [updZ_n (by omega), updZ_n (by omega), updZ_n (by omega), updZ_n (by omega)]
  · unfold pvW; rw [updZ_n (by omega), updZ_n (by omega), updZ_s]
  · unfold pvW; rw [updZ_n (by omega), updZ_n (by omega), updZ_n (by omega), updZ_n (by omega)]
def Good (K : Int) (F : Int → Int) : Prop := GdP F ∧ GdB F ∧ (0 ≤ F 26 ∧ F 26 ≤ 2) ∧ (0 ≤ F 31 ∧ F 31 ≤ K) ∧ (0 ≤ F 32 ∧ F 32 ≤ K) ∧ (0 ≤ F 33 ∧ F 33 ≤ K)
theorem Good.mo {K K' : Int} {F : Int → Int} (h : Good K F) (hk : K ≤ K') : Good K' F := ⟨h.1, h.2.1, h.2.2.1, by have := h.2.2.2.1; omega, by have := h.2.2.2.2.1; omega, by have := h.2.2.2.2.2; omega⟩
/-- a pivot that may be made -/
def PvOK (F : Int → Int) (r q : Int) : Prop := (0 ≤ r ∧ r < F 1) ∧ (0 ≤ q ∧ q < F 0 + F 1) ∧ 0 < rF F q ∧ 0 < tF F r q ∧ ∀ k, 0 ≤ k → k < F 1 → 0 < tF F k q → tF F r (F 0 + F 1) * tF F k q ≤ tF F k (F 0 + F 1) * tF F r q
theorem pv_good {K : Int} {F : Int → Int} (h : Good K F) {r q : Int} (hv : PvOK F r q) : Good (K + 1) (pvW F r q) := by
  obtain ⟨g, hb, h26, h31, h32, h33⟩ := h
  obtain ⟨hr, hq, h1, h2, h3⟩ := hv
  have g1 := g.2.1
  have hp := pvW_v (F := F) (r := r) (q := q) (by omega) g1.2
  refine ⟨GdP_e hp.1 g, GdB_p g hb hp hr hq h2 (by omega) h3, ?_, ?_, ?_, ?_⟩
  · unfold pvW; rw [updZ_n (by omega), updZ_n (by omega), updZ_n (by omega), updZ_n (by omega)]; exact h26
  · unfold pvW; rw [updZ_n (by omega), updZ_s]; omega
  · unfold pvW; rw [updZ_s]; omega
  · unfold pvW
    rw [updZ_n (by omega), updZ_n (by omega), updZ_n (by omega), updZ_s]
    unfold pick
    split <;> omega
theorem opn_pv {F : Int → Int} (g : GdP F) (h : opn F) : PvOK F (lrV F (chV F)) (chV F) := by
  have hc := chV_r g h.1
  have ho := opn_o g h (chV F) hc.1 hc.2.1 hc.2.2
  have hl : lrV F (chV F) < F 1 ∧ 0 < tF F (lrV F (chV F)) (chV F) := by
    rcases lrV_r g (chV F) with e | e
    · omega
    · exact e.2
  exact ⟨⟨ho, hl.1⟩, ⟨hc.1, hc.2.1⟩, hc.2.2, hl.2, fun k a b hp => lrV_min g ho ⟨a, b⟩ hp⟩
noncomputable def stp (F : Int → Int) : Int → Int := pvW F (lrV F (chV F)) (chV F)
/-- up to k pivots by the rule: how many, and what is there then -/
noncomputable def slF : Nat → (Int → Int) → Int × (Int → Int)
  | 0, F => (0, F)
  | k + 1, F => @ite _ (opn F) (Classical.propDecidable _) ((slF k (stp F)).1 + 1, (slF k (stp F)).2) (0, F)
theorem slF_y {k : Nat} {F : Int → Int} (h : opn F) : slF (k + 1) F = ((slF k (stp F)).1 + 1, (slF k (stp F)).2) := if_pos h
theorem slF_n {k : Nat} {F : Int → Int} (h : ¬ opn F) : slF (k + 1) F = (0, F) := if_neg h
theorem slF_g {K : Int} : ∀ (k : Nat) {F : Int → Int}, Good K F → Good (K + k) (slF k F).2
  | 0, F, h => by
    show Good (K + (0 : Nat)) F
    exact h.mo (by omega)
  | k + 1, F, h => by
    by_cases ho : opn F
    · rw [slF_y ho]
      have h2 := slF_g (K := K + 1) k (pv_good h (opn_pv h.1 ho))
      exact h2.mo (by omega)
    · rw [slF_n ho]
      exact h.mo (by omega)
theorem slF_r : ∀ (k : Nat) (F : Int → Int), 0 ≤ (slF k F).1 ∧ (slF k F).1 ≤ k
  | 0, F => by
    show 0 ≤ (0 : Int) ∧ (0 : Int) ≤ (0 : Nat)
    omega
  | k + 1, F => by
    by_cases ho : opn F
    · rw [slF_y ho]
      have := slF_r k (stp F)
      show 0 ≤ (slF k (stp F)).1 + 1 ∧ (slF k (stp F)).1 + 1 ≤ ((k + 1 : Nat) : Int)
      omega
    · rw [slF_n ho]
      show 0 ≤ (0 : Int) ∧ (0 : Int) ≤ ((k + 1 : Nat) : Int)
      omega
/-- what stays: the problem and the rule -/
theorem slF_e {K : Int} : ∀ (k : Nat) {F : Int → Int}, Good K F → ∀ i, i < 27 → (slF k F).2 i = F i
  | 0, F, _, i, _ => rfl
  | k + 1, F, h, i, hi => by
    by_cases ho : opn F
    · rw [slF_y ho]
      have hp := opn_pv h.1 ho
      show (slF k (stp F)).2 i = F i
      rw [slF_e k (K := K + 1) (F := stp F) (pv_good h hp) i hi]
      unfold stp pvW
      have := hp.1
      rw [updZ_n (by omega), updZ_n (by omega), updZ_n (by omega), updZ_n (by omega)]
    · rw [slF_n ho]
def P8 (th q : Nat) : Prop := q = th + 1 ∨ P7 th q
section
variable {th : Nat} {F : Int → Int} {c : W0} {K : Int}
theorem turns9 (hL : Laid th F c) (h : Good K F) {r q : Int} (hv : PvOK F r q) : ∃ c', f_X9_turns th r q c = some (0, c') ∧ Qs th (P8 th) c c' ∧ Laid th (pvW F r q) c' := by
  obtain ⟨g, hb, -⟩ := id h
  have g0 := g.1; have g1 := g.2.1
  have hr := hv.1
  have hg := pv_good h hv
  have b1 := tF_b9 g hb.1 (r := r) (q := F 0 + F 1) (by omega) (by omega)
  have n1 := nu_n (n := tF F r (F 0 + F 1)) (d := dF F)
  have hz := (nu_s (n := tF F r (F 0 + F 1)) hb.2.1).2.2
  have fin : ∀ v : Int, v = pick (tF F r (F 0 + F 1) = 0) 1 0 → ∃ c', (sto c (th + 1) 33 ((c (th + 1) 33) + v) fun c4 => gd (0 ≤ (27 + r) ∧ (27 + r) < 34) <| sto c4 (th + 1) (27 + r) q fun c5 => sto c5 (th + 1) 31 ((c5 (th + 1) 31) + 1) fun c6 => sto c6 (th + 1) 32 ((c6 (th + 1) 32) + 1) fun c7 => cl (f_X9_laysNow th c7) fun _ c8 => some ((0 : Int), c8)) = some (0, c') ∧ Qs th (P8 th) c c' ∧ Laid th (pvW F r q) c' := by
    intro v ev
    simp only [sto]
    rw [gd_t (by omega)]
    simp only [upc_u, upc_s, hL.1]
    have eF : updZ (updZ (updZ (updZ F 33 (F 33 + v)) (27 + r) q) 31 (updZ (updZ F 33 (F 33 + v)) (27 + r) q 31 + 1)) 32 (updZ (updZ (updZ F 33 (F 33 + v)) (27 + r) q) 31 (updZ (updZ F 33 (F 33 + v)) (27 + r) q 31 + 1) 32 + 1) = pvW F r q := by
      unfold pvW
      rw [ev, updZ_n (show (31 : Int) ≠ 27 + r by omega), updZ_n (show (31 : Int) ≠ 33 by decide), updZ_n (show (32 : Int) ≠ 31 by decide), updZ_n (show (32 : Int) ≠ 27 + r by omega), updZ_n (show (32 : Int) ≠ 33 by decide)]
    rw [eF]
    obtain ⟨c2, e2, hQ, hL2⟩ := laysNow_s (th := th) (F := pvW F r q) (c := upc c (th + 1) (pvW F r q)) hg.1 hg.2.1.1 (by have := hg.2.1.2.1; omega) upc_s
    rw [e2, cl_s]
    exact ⟨c2, rfl, (Qs.up (by omega) (Or.inl rfl)).tr (hQ.mo (fun z h => Or.inr h)), hL2⟩
  unfold f_X9_turns
  simp only [jn]
  rw [entry9 hL g hr (by omega), cv_s, tQ_8, gd_t (by omega)]
  by_cases h0 : tF F r (F 0 + F 1) = 0
  · rw [bq_p (hz.mpr h0)]
    exact fin 1 (by rw [pick_t h0])
  · rw [bq_n (fun z => h0 (hz.mp z))]
    exact fin 0 (by rw [pick_f h0])
theorem isOver9 (hL : Laid th F c) (h : Good K F) : ∃ b x y, f_X9_isOver th c = some (b, fs c th x y) ∧ ((b = 1 ∧ ¬ opn F) ∨ (b = 0 ∧ opn F)) := by
  obtain ⟨g, hb, -⟩ := h
  have g0 := g.1; have g1 := g.2.1
  obtain ⟨b, x, y, e1, h1⟩ := isBest9 hL g hb.1 hb.2.1
  unfold f_X9_isOver
  rw [e1, cl_s]
  rcases h1 with ⟨rfl, h1⟩ | ⟨rfl, h1⟩
  · rw [gd_t (by omega), bq_n (by omega)]
    exact ⟨1, x, y, rfl, Or.inl ⟨rfl, fun z => z.1 h1⟩⟩
  · obtain ⟨v, x2, y2, e2, h2⟩ := endless9 (hL.fs (x := x) (y := y)) g hb.1 hb.2.1
    rw [gd_t (by omega), bq_p rfl, e2, cl_s, fs_fs]
    rcases h2 with ⟨rfl, h2⟩ | ⟨h3, h4, h5, -⟩
    · rw [gd_t (by omega), bq_p (by omega)]
      exact ⟨0, x2, y2, rfl, Or.inr ⟨rfl, h1, h2⟩⟩
    · rw [gd_t (by omega), bq_n (by omega)]
      exact ⟨1, x2, y2, rfl, Or.inl ⟨rfl, fun z => z.2 v h3 h4 h5⟩⟩
theorem solves9_l (κ : Int → W0 → Option (Int × W0)) : ∀ (k fuel : Nat) (l K : Int) (F : Int → Int) (c : W0), l + k = 40 → 0 ≤ l → k + 1 ≤ fuel → Good K F → Laid th F c → ∃ c', f_X9_solves_6 th κ fuel l c = κ (l + (slF k F).1) c' ∧ Qs th (P8 th) c c' ∧ Laid th (slF k F).2 c' := by
  intro k
  induction k with
  | zero =>
    intro fuel l K F c hl h0 hf hG hL
    obtain ⟨f, rfl⟩ : ∃ f, fuel = f + 1 := ⟨fuel - 1, by omega⟩
    rw [f_X9_solves_6_s]
    unfold b_X9_solves_6
    rw [gd_t (by omega), bq_p (by omega)]
    refine ⟨c, ?_, Qs.rf, hL⟩
    show κ l c = κ (l + 0) c
    rw [Int.add_zero]
  | succ k ih =>
    intro fuel l K F c hl h0 hf hG hL
    obtain ⟨f, rfl⟩ : ∃ f, fuel = f + 1 := ⟨fuel - 1, by omega⟩
    obtain ⟨b, x, y, e1, h1⟩ := isOver9 hL hG
    rw [f_X9_solves_6_s]
    unfold b_X9_solves_6
    rw [gd_t (by omega), bq_n (by omega), e1, cl_s]
    rcases h1 with ⟨rfl, h1⟩ | ⟨rfl, h1⟩
    · rw [gd_t (by omega), bq_n (by omega), slF_n h1]
      refine ⟨fs c th x y, ?_, Qs.fs, hL.fs⟩
      show κ l _ = κ (l + 0) _
      rw [Int.add_zero]
    · have hc := chV_r hG.1 h1.1
      obtain ⟨x2, y2, e2⟩ := bestColumn9 (hL.fs (x := x) (y := y)) hG.1 hG.2.1 hG.2.2.1 (opn_o hG.1 h1)
      rw [gd_t (by omega), bq_p rfl, e2, cl_s, fs_fs, leastRow9 hL.fs hG.1 hG.2.1.1 hG.2.1.2.1 ⟨hc.1, hc.2.1⟩, cv_s]
      obtain ⟨c3, e3, hQ3, hL3⟩ := turns9 (hL.fs (x := x2) (y := y2)) hG (opn_pv hG.1 h1)
      rw [e3, cl_s, slF_y h1]
      obtain ⟨c4, e4, hQ4, hL4⟩ := ih f (l + 1) (K + 1) (stp F) c3 (by omega) (by omega) (by omega) (pv_good hG (opn_pv hG.1 h1)) hL3
      refine ⟨c4, ?_, (Qs.fs.tr hQ3).tr hQ4, hL4⟩
      rw [e4]
      congr 1
      show l + 1 + (slF k (stp F)).1 = l + ((slF k (stp F)).1 + 1)
      omega
theorem solves9 (h : Good K F) (hF : c (th + 1) = F) : ∃ c', f_X9_solves th c = some ((slF 40 F).1, c') ∧ Qs th (P8 th) c c' ∧ Laid th (slF 40 F).2 c' := by
  obtain ⟨c1, e1, hQ1, hL⟩ := laysNow_s h.1 h.2.1.1 (by have := h.2.1.2.1; omega) hF
  unfold f_X9_solves
  rw [e1, cl_s]
  obtain ⟨c2, e2, hQ2, hL2⟩ := solves9_l (th := th) (fun v3 c4 => some (v3, c4)) 40 LF 0 K F c1 (by omega) (by omega) (by rw [LF_g]; omega) h hL
  rw [e2]
  refine ⟨c2, ?_, (hQ1.mo (fun z h => Or.inr h)).tr hQ2, hL2⟩
  show some (0 + (slF 40 F).1, c2) = some ((slF 40 F).1, c2)
  rw [Int.zero_add]
/-! the class's state -/
def RepS (s : Nat) (F : Int → Int) (c : W0) : Prop := RepP (s + 1) F c ∧ RepT (s + 4) F c ∧ c s 2 = F 26 ∧ c s 3 = F 31 ∧ c s 4 = F 32 ∧ c s 5 = F 33
def SS9 (s q : Nat) : Prop := s ≤ q ∧ q < s + 9
theorem RepP_e {p : Nat} {F F' : Int → Int} {c : W0} (g : GdP F) (h : RepP p F c) (e : ∀ i, i < 26 → F' i = F i) : RepP p F' c := by
  have g0 := g.1; have g1 := g.2.1
  obtain ⟨h1, h2, h3, h4, h5, h6⟩ := h
  refine ⟨by rw [e 0 (by omega)]; exact h1, by rw [e 1 (by omega)]; exact h2, fun r v a b a2 b2 => ?_, fun v a b => ?_, fun r a b => ?_, fun r v a b a2 b2 => ?_⟩
  · rw [e 1 (by omega)] at b
    rw [e _ (by omega)]
    exact h3 r v a b a2 b2
  · rw [e _ (by omega)]
    exact h4 v a b
  · rw [e 1 (by omega)] at b
    rw [e _ (by omega)]
    exact h5 r a b
  · rw [e 0 (by omega)] at a2
    exact h6 r v a b a2 b2
theorem turnS8 {s : Nat} (hS : RepS s F c) (h : Good K F) {r q : Int} (hv : PvOK F r q) : ∃ c', f_X4_turn s r q c = some (0, c') ∧ Fr (SS9 s) c c' ∧ RepS s (pvW F r q) c' := by
  obtain ⟨g, hb, -⟩ := id h
  have g0 := g.1; have g1 := g.2.1
  obtain ⟨hP, hT, h26, h31, h32, h33⟩ := hS
  have hr := hv.1
  have hp := pvW_v (F := F) (r := r) (q := q) (by omega) g1.2
  have b1 := tF_b9 g hb.1 (r := r) (q := F 0 + F 1) (by omega) (by omega)
  have fin : ∀ c3 : W0, (∀ z, z ≠ s → c3 z = c z) → c3 s 2 = c s 2 → c3 s 3 = c s 3 → c3 s 4 = c s 4 → c3 s 5 = F 33 + pick (tF F r (F 0 + F 1) = 0) 1 0 → ∃ c', (cl (f_X6_turn (s + 4) r q c3) fun _ c4 => sto c4 s 3 ((c4 s 3) + 1) fun c6 => sto c6 s 4 ((c6 s 4) + 1) fun c7 => some ((0 : Int), c7)) = some (0, c') ∧ Fr (SS9 s) c c' ∧ RepS s (pvW F r q) c' := by
    intro c3 hz k2 k3 k4 k5
    obtain ⟨c4, e4, hF4, hT4⟩ := turn8 (RepT_c hT (hz _ (by omega)) (hz _ (by omega)) (hz _ (by omega))) g hb.1 hb.2.1 hp hr hv.2.1 hv.2.2.2.1
    have hs : c4 s = c3 s := hF4 s (by unfold ST; omega)
    rw [e4, cl_s]
    simp only [sto]
    refine ⟨_, rfl, fun z hz2 => ?_, RepP_c (RepP_e g (RepP_c hP (hz _ (by omega)) (hz _ (by omega))) hp.1) ?_ ?_, RepT_c hT4 ?_ ?_ ?_, ?_, ?_, ?_, ?_⟩
    · unfold SS9 at hz2
      rw [upc_n (by omega), upc_n (by omega), hF4 z (by unfold ST; omega), hz z (by omega)]
    · rw [upc_n (by omega), upc_n (by omega)]; exact hF4 _ (by unfold ST; omega)
    · rw [upc_n (by omega), upc_n (by omega)]; exact hF4 _ (by unfold ST; omega)
    · rw [upc_n (by omega), upc_n (by omega)]
    · rw [upc_n (by omega), upc_n (by omega)]
    · rw [upc_n (by omega), upc_n (by omega)]
    · rw [upc_s, updZ_n (by decide), upc_s, updZ_n (by decide), hs, k2, h26]
      unfold pvW
      rw [updZ_n (by omega), updZ_n (by omega), updZ_n (by omega), updZ_n (by omega)]
    · rw [upc_s, updZ_n (by decide), upc_s, updZ_s, hs, k3, h31]
      unfold pvW
      rw [updZ_n (by omega), updZ_s]
    · rw [upc_s, updZ_s, upc_s, updZ_n (by decide), hs, k4, h32]
      unfold pvW
      rw [updZ_s]
    · rw [upc_s, updZ_n (by decide), upc_s, updZ_n (by decide), hs, k5]
      unfold pvW
      rw [updZ_n (by omega), updZ_n (by omega), updZ_n (by omega), updZ_s]
  unfold f_X4_turn
  simp only [jn]
  rw [side8 hT g hr, cv_s, gd_t (by omega)]
  by_cases h0 : tF F r (F 0 + F 1) = 0
  · rw [bq_p h0]
    exact fin (upc c s (updZ (c s) 5 (c s 5 + 1))) (fun z hz => upc_n hz) (by rw [upc_s, updZ_n (by decide)]) (by rw [upc_s, updZ_n (by decide)]) (by rw [upc_s, updZ_n (by decide)]) (by rw [upc_s, updZ_s, h33, pick_t h0])
  · rw [bq_n h0]
    exact fin c (fun _ _ => rfl) rfl rfl rfl (by rw [h33, pick_f h0]; omega)
theorem run8_l {s : Nat} (κ : Int → W0 → Option (Int × W0)) : ∀ (k fuel : Nat) (l K : Int) (F : Int → Int) (c : W0), l + k = 40 → 0 ≤ l → k + 1 ≤ fuel → Good K F → RepS s F c → ∃ c', f_X4_run_2 s κ fuel l c = κ (l + (slF k F).1) c' ∧ Fr (SS9 s) c c' ∧ RepS s (slF k F).2 c' := by
  intro k
  induction k with
  | zero =>
    intro fuel l K F c hl h0 hf hG hS
    obtain ⟨f, rfl⟩ : ∃ f, fuel = f + 1 := ⟨fuel - 1, by omega⟩
    rw [f_X4_run_2_s]
    unfold b_X4_run_2
    rw [gd_t (by omega), bq_p (by omega)]
    refine ⟨c, ?_, Fr.rf, hS⟩
    show κ l c = κ (l + 0) c
    rw [Int.add_zero]
  | succ k ih =>
    intro fuel l K F c hl h0 hf hG hS
    obtain ⟨f, rfl⟩ : ∃ f, fuel = f + 1 := ⟨fuel - 1, by omega⟩
    obtain ⟨b, e1, h1⟩ := isOpen8 hS.2.1 hG.1 hG.2.1.1
    rw [f_X4_run_2_s]
    unfold b_X4_run_2
    rw [gd_t (by omega), bq_n (by omega), e1, cv_s]
    rcases h1 with ⟨rfl, h1⟩ | ⟨rfl, h1⟩
    · have hc := chV_r hG.1 h1.1
      rw [gd_t (by omega), bq_n (by omega), hS.2.2.1, chosenColumn8 hS.2.1 hG.1 hG.2.1.1 hG.2.2.1 (opn_o hG.1 h1), cv_s, leastRow8 hS.2.1 hG.1 hG.2.1.1 ⟨hc.1, hc.2.1⟩, cv_s]
      obtain ⟨c3, e3, hF3, hS3⟩ := turnS8 hS hG (opn_pv hG.1 h1)
      rw [e3, cl_s, slF_y h1]
      obtain ⟨c4, e4, hF4, hS4⟩ := ih f (l + 1) (K + 1) (stp F) c3 (by omega) (by omega) (by omega) (pv_good hG (opn_pv hG.1 h1)) hS3
      refine ⟨c4, ?_, hF3.tr hF4, hS4⟩
      rw [e4]
      congr 1
      show l + 1 + (slF k (stp F)).1 = l + ((slF k (stp F)).1 + 1)
      omega
    · rw [gd_t (by omega), bq_p rfl, slF_n h1]
      refine ⟨c, ?_, Fr.rf, hS⟩
      show κ l _ = κ (l + 0) _
      rw [Int.add_zero]
theorem run8 {s : Nat} (h : Good K F) (hS : RepS s F c) : ∃ c', f_X4_run s c = some ((slF 40 F).1, c') ∧ Fr (SS9 s) c c' ∧ RepS s (slF 40 F).2 c' := by
  unfold f_X4_run
  obtain ⟨c2, e2, hF2, hS2⟩ := run8_l (s := s) (fun v1 c2 => some (v1, c2)) 40 LF 0 K F c (by omega) (by omega) (by rw [LF_g]; omega) h hS
  rw [e2]
  refine ⟨c2, ?_, hF2, hS2⟩
  show some (0 + (slF 40 F).1, c2) = some ((slF 40 F).1, c2)
  rw [Int.zero_add]
theorem startS8 {s : Nat} (g : GdP F) (hP : RepP (s + 1) F c) (hs : Slk F) (e26 : c s 2 = F 26) (e32 : c s 4 = F 32) (e33 : c s 5 = F 33) (e31 : F 31 = 0) : ∃ c', f_X4_start s c = some (0, c') ∧ Fr (SS9 s) c c' ∧ RepS s F c' := by
  obtain ⟨c1, e1, hF1, hT1⟩ := start8 (t := s + 4) g hP (by omega) hs
  unfold f_X4_start
  rw [e1, cl_s]
  simp only [sto]
  have es : c1 s = c s := hF1 s (by unfold ST; omega)
  refine ⟨_, rfl, fun z hz => ?_, RepP_c hP ?_ ?_, RepT_c hT1 ?_ ?_ ?_, ?_, ?_, ?_, ?_⟩
  · unfold SS9 at hz
    rw [upc_n (by omega)]; exact hF1 z (by unfold ST; omega)
  · rw [upc_n (by omega)]; exact hF1 _ (by unfold ST; omega)
  · rw [upc_n (by omega)]; exact hF1 _ (by unfold ST; omega)
  · rw [upc_n (by omega)]
  · rw [upc_n (by omega)]
  · rw [upc_n (by omega)]
  · rw [upc_s, updZ_n (by decide), es, e26]
  · rw [upc_s, updZ_s, e31]
  · rw [upc_s, updZ_n (by decide), es, e32]
  · rw [upc_s, updZ_n (by decide), es, e33]
theorem copyS8 {s u : Nat} (hS : RepS u F c) (hne : u + 9 ≤ s ∨ s + 9 ≤ u) : ∃ c', f_X4_copy s u c = some (0, c') ∧ Fr (SS9 s) c c' ∧ RepS s F c' := by
  obtain ⟨hP, hT, h26, h31, h32, h33⟩ := hS
  unfold f_X4_copy f_X2_copy
  rw [gd_t (by omega), cl_s]
  generalize hc1 : upc (upc c (s + 1) (updZ (updZ (c (s + 1)) 0 (c (u + 1) 0)) 1 (c (u + 1) 1))) (s + 1 + 2) (c (u + 1 + 2)) = c1
  have hF1 : Fr (fun z => z = s + 1 ∨ z = s + 3) c c1 := by
    rw [← hc1]
    exact (Fr.up (Or.inl rfl)).tr (Fr.up (Or.inr (by omega)))
  have hP1 : RepP (s + 1) F c1 := by
    have a1 : c1 (s + 1) 0 = c (u + 1) 0 := by rw [← hc1, upc_n (by omega), upc_s, updZ_n (by decide), updZ_s]
    have a2 : c1 (s + 1) 1 = c (u + 1) 1 := by rw [← hc1, upc_n (by omega), upc_s, updZ_s]
    have a3 : c1 (s + 1 + 2) = c (u + 1 + 2) := by rw [← hc1, upc_s]
    unfold RepP
    rw [a1, a2, a3]
    exact hP
  obtain ⟨c2, e2, hF2, hT2⟩ := copy8 (t := s + 4) (u := u + 4) (c := c1) (RepT_c hT (hF1 _ (by omega)) (hF1 _ (by omega)) (hF1 _ (by omega))) (by omega)
  rw [e2, cl_s]
  simp only [sto, upc_u, upc_s, upc_n (show u ≠ s by omega)]
  have eu : c2 u = c u := by rw [hF2 u (by unfold ST; omega), hF1 u (by omega)]
  rw [eu]
  refine ⟨_, rfl, fun z hz => ?_, RepP_c hP1 ?_ ?_, RepT_c hT2 ?_ ?_ ?_, ?_, ?_, ?_, ?_⟩
  · unfold SS9 at hz
    rw [upc_n (by omega), hF2 z (by unfold ST; omega), hF1 z (by omega)]
  · rw [upc_n (by omega)]; exact hF2 _ (by unfold ST; omega)
  · rw [upc_n (by omega)]; exact hF2 _ (by unfold ST; omega)
  · rw [upc_n (by omega)]
  · rw [upc_n (by omega)]
  · rw [upc_n (by omega)]
  · rw [upc_s, updZ_n (by decide), updZ_n (by decide), updZ_n (by decide), updZ_s]; exact h26
  · rw [upc_s, updZ_n (by decide), updZ_n (by decide), updZ_s]; exact h31
  · rw [upc_s, updZ_n (by decide), updZ_s]; exact h32
  · rw [upc_s, updZ_s]; exact h33
end
end SS
