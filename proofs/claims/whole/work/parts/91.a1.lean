section TM
/-! the reference reads -/
def RR (m : Nat) (len : Int) (B : Int → Int) (x : Xs) (rd : Int → Int) (c : W0) : Prop := (c m 18 = x.1 ∧ c m 19 = x.2) ∧ (∀ i, 0 ≤ i → i < 26 → c (m + 13) i = rd i) ∧ c m 8 = len ∧ ∀ k, 0 ≤ k → k < len → c (m + 5) k = B k
def RF (m : Nat) (c c' : W0) : Prop := (∀ q, q ≠ m → q ≠ m + 13 → c' q = c q) ∧ ∀ i : Int, i ≠ 18 → i ≠ 19 → c' m i = c m i
theorem RF.rf {m : Nat} {c : W0} : RF m c c := ⟨fun _ _ _ => rfl, fun _ _ _ => rfl⟩
theorem RF.tr {m : Nat} {c c1 c2 : W0} (h : RF m c c1) (h2 : RF m c1 c2) : RF m c c2 := ⟨fun q a b => (h2.1 q a b).trans (h.1 q a b), fun i a b => (h2.2 i a b).trans (h.2 i a b)⟩
def xs (c : W0) (m : Nat) (s w : Int) : W0 := upc c m (updZ (updZ (c m) 18 s) 19 w)
section
variable {m : Nat} {len lo hi : Int} {B : Int → Int} {x : Xs} {rd : Int → Int} {c : W0}
theorem RR_xs (h : RR m len B x rd c) {s w : Int} : RR m len B (s, w) rd (xs c m s w) := ⟨⟨by unfold xs; rw [upc_s, updZ_n (by decide), updZ_s], by unfold xs; rw [upc_s, updZ_s]⟩, by unfold xs; rw [upc_n (by omega)]; exact h.2.1, by unfold xs; rw [upc_s, updZ_n (by decide), updZ_n (by decide)]; exact h.2.2.1, by unfold xs; rw [upc_n (by omega)]; exact h.2.2.2⟩
theorem RF_xs {s w : Int} : RF m c (xs c m s w) := ⟨fun q a _ => upc_n a, fun i a b => by unfold xs; rw [upc_s, updZ_n b, updZ_n a]⟩
theorem RR_w (h : RR m len B x rd c) {i v : Int} : RR m len B x (updZ rd i v) (upc c (m + 13) (updZ (c (m + 13)) i v)) := by
  refine ⟨by rw [upc_n (by omega)]; exact h.1, fun j a b => ?_, by rw [upc_n (by omega)]; exact h.2.2.1, by rw [upc_n (by omega)]; exact h.2.2.2⟩
  rw [upc_s]
  by_cases e : j = i
  · rw [e, updZ_s, updZ_s]
  · rw [updZ_n e, updZ_n e]
    exact h.2.1 j a b
theorem RF_w {F : Int → Int} : RF m c (upc c (m + 13) F) := ⟨fun q _ b => upc_n b, fun i _ _ => by rw [upc_n (by omega)]⟩
theorem isNext9 (hR : RR m len B x rd c) (hT : Tx len B) (hx : OkX len x) (hl : R32 lo) (hh : R32 hi) : ∃ b, f_X9_isNext m lo hi c = some b ∧ ((b = 1 ∧ nxT len B lo hi x) ∨ (b = 0 ∧ ¬ nxT len B lo hi x)) := by
  have h1 := hT.1; have h2 := hx.1; have h3 := hx.2
  unfold f_X9_isNext
  rw [hR.1.1, hR.1.2, hR.2.2.1, gd_t (by omega)]
  by_cases y : x.2 = 0
  · rw [bq_p y, gd_t (by omega)]
    by_cases w : len ≤ x.1
    · rw [bq_p w]
      exact ⟨0, rfl, Or.inr ⟨rfl, fun z => by have := z.2.1; omega⟩⟩
    · have h4 := hT.2 x.1 h2.1 (by omega)
      obtain ⟨v, ev, hv⟩ := in9 (a := B x.1) (b := lo) (c := hi) (by omega) hl hh
      rw [bq_n w, gd_t (by omega), hR.2.2.2 x.1 h2.1 (by omega), ev, cv_s, gd_t (by omega)]
      by_cases z : v = 0
      · rw [bq_p z]
        exact ⟨0, rfl, Or.inr ⟨rfl, fun q => by have := q.2.2; omega⟩⟩
      · rw [bq_n z]
        exact ⟨1, rfl, Or.inl ⟨rfl, y, by omega, by omega, by omega⟩⟩
  · rw [bq_n y]
    exact ⟨0, rfl, Or.inr ⟨rfl, fun z => y z.1⟩⟩
theorem takes9 (hR : RR m len B x rd c) (hT : Tx len B) (hx : OkX len x) (hl : R32 lo) (hh : R32 hi) : ∃ c', f_X9_takes m lo hi c = some ((tkT len B lo hi x).1, c') ∧ RF m c c' ∧ RR m len B (tkT len B lo hi x).2 rd c' := by
  have h1 := hT.1; have h2 := hx.1; have h3 := hx.2
  obtain ⟨b, eb, hb⟩ := isNext9 hR hT hx hl hh
  unfold f_X9_takes
  rw [eb, cv_s]
  dsimp only [jn, sto]
  have k : ∀ z : Int, upc c m (updZ (c m) 18 z) m 19 = x.2 := fun z => by rw [upc_s, updZ_n (by decide)]; exact hR.1.2
  have k2 : ∀ z w : Int, upc (upc c m (updZ (c m) 18 z)) m (updZ (upc c m (updZ (c m) 18 z) m) 19 w) = xs c m z w := fun z w => by
    unfold xs
    rw [upc_s, upc_u]
  rcases hb with ⟨rfl, n⟩ | ⟨rfl, n⟩
  · have n1 := n.1; have n2 := n.2.1
    have h4 := hT.2 x.1 h2.1 n2
    rw [gd_t (by omega), bq_n (by omega), hR.1.1, gd_t (by omega), gd_t (by omega), bq_n (by omega), k, gd_t (by omega), bq_p n1, gd_t (by omega), bq_n (by omega), k2, tkT_t n, hR.2.2.2 x.1 h2.1 n2]
    exact ⟨_, rfl, RF_xs, RR_xs hR⟩
  · rw [gd_t (by omega), bq_p rfl, gd_t (by omega), bq_p rfl, hR.1.1, k, gd_t (by omega), tkT_f n]
    by_cases y : x.2 = 0
    · rw [bq_p y, gd_t (by omega), bq_p rfl, k2, show x.1 + 0 = x.1 by omega]
      exact ⟨_, rfl, RF_xs, RR_xs hR⟩
    · rw [bq_n y, k2, show x.1 + 0 = x.1 by omega]
      exact ⟨_, rfl, RF_xs, RR_xs hR⟩
theorem factor9 (hR : RR m len B x rd c) (hT : Tx len B) (hx : OkX len x) : ∃ c', f_X9_factor m c = some ((fcT len B x).1, c') ∧ RF m c c' ∧ RR m len B (fcT len B x).2 rd c' := by
  have h2 := hx.1
  obtain ⟨b, eb, hb⟩ := isNext9 (lo := 45) (hi := 45) hR hT hx (by omega) (by omega)
  have hb1 : b = 1 ∨ b = 0 := hb.elim (fun h => Or.inl h.1) (fun h => Or.inr h.1)
  unfold f_X9_factor
  rw [eb, cv_s, gd_t (by omega)]
  rcases hb with ⟨rfl, n⟩ | ⟨rfl, n⟩
  · have n2 := n.2.1
    rw [bq_n (by omega), fcT_p n]
    dsimp only [sto]
    have e : upc c m (updZ (c m) 18 (c m 18 + 1)) = xs c m (x.1 + 1) x.2 := by
      unfold xs
      rw [hR.1.1]
      congr 1
      funext i
      by_cases y : i = 19
      · rw [y, updZ_s, updZ_n (by decide)]; exact hR.1.2
      · rw [updZ_n y]
    rw [e]
    obtain ⟨c1, e1, hF1, hR1⟩ := takes9 (lo := 49) (hi := 57) (RR_xs (s := x.1 + 1) (w := x.2) hR) hT ⟨⟨by show 0 ≤ x.1 + 1; omega, by show x.1 + 1 ≤ len; omega⟩, hx.2⟩ (by omega) (by omega)
    rw [e1, cl_s]
    exact ⟨c1, rfl, RF_xs.tr hF1, hR1⟩
  · rw [bq_p rfl, fcT_n n]
    obtain ⟨c1, e1, hF1, hR1⟩ := takes9 (lo := 48) (hi := 57) hR hT hx (by omega) (by omega)
    rw [e1, cl_s]
    exact ⟨c1, rfl, hF1, hR1⟩
theorem bound9 (hR : RR m len B x rd c) (hT : Tx len B) (hx : OkX len x) : ∃ c', f_X9_bound m c = some ((bnT len B x).1, c') ∧ RF m c c' ∧ RR m len B (bnT len B x).2 rd c' := by
  obtain ⟨c1, e1, hF1, hR1⟩ := takes9 (lo := 48) (hi := 57) hR hT hx (by omega) (by omega)
  have hv := tkT_v (len := len) (B := B) (lo := 48) (hi := 57) (x := x) (by decide)
  have hx1 := tkT_ok (lo := 48) (hi := 57) (B := B) hx
  unfold f_X9_bound
  rw [e1, cl_s, gd_t (by omega)]
  by_cases y : (tkT len B 48 57 x).1 ≤ 0
  · rw [bq_p y, bnT_n (fun z => by have := z.1; omega)]
    exact ⟨c1, rfl, hF1, hR1⟩
  · obtain ⟨b, eb, hb⟩ := isNext9 (lo := 48) (hi := 57) hR1 hT hx1 (by omega) (by omega)
    have hb1 : b = 1 ∨ b = 0 := hb.elim (fun h => Or.inl h.1) (fun h => Or.inr h.1)
    rw [bq_n y, eb, cv_s, gd_t (by omega)]
    rcases hb with ⟨rfl, n⟩ | ⟨rfl, n⟩
    · obtain ⟨c2, e2, hF2, hR2⟩ := takes9 (lo := 48) (hi := 57) hR1 hT hx1 (by omega) (by omega)
      rw [bq_n (by omega), e2, cl_s, bnT_p (by omega) n]
      exact ⟨c2, rfl, hF1.tr hF2, hR2⟩
    · rw [bq_p rfl, bnT_n (fun z => n z.2)]
      exact ⟨c1, rfl, hF1, hR1⟩
theorem factors9 {place : Int} (hR : RR m len B x rd c) (hT : Tx len B) (hx : OkX len x) (h0 : 0 ≤ rd 0 ∧ rd 0 ≤ 4) (hp : 2 ≤ place ∧ place ≤ 18) : ∃ c', f_X9_readFactors m place c = some (0, c') ∧ RF m c c' ∧ RR m len B (fsT len B place (rd 0).toNat 0 (x, rd)).1 (fsT len B place (rd 0).toNat 0 (x, rd)).2 c' := by
  have L : ∀ (k fuel : Nat) (l : Int) (x : Xs) (rd1 : Int → Int) (c1 : W0), l + k = rd 0 → 0 ≤ l → k + 1 ≤ fuel → rd1 0 = rd 0 → OkX len x → RR m len B x rd1 c1 → ∃ c', f_X9_readFactors_2 m place (fun c1 => some (0, c1)) fuel l c1 = some (0, c') ∧ RF m c1 c' ∧ RR m len B (fsT len B place k l (x, rd1)).1 (fsT len B place k l (x, rd1)).2 c' := by
    intro k
    induction k with
    | zero =>
      intro fuel l x rd1 c1 hl hl0 hf hr hx hR
      obtain ⟨f, rfl⟩ : ∃ f, fuel = f + 1 := ⟨fuel - 1, by omega⟩
      have e0 := hR.2.1 0 (by decide) (by decide)
      rw [f_X9_readFactors_2_s]
      unfold b_X9_readFactors_2
      rw [e0, hr, gd_t (by omega), bq_p (by omega)]
      exact ⟨c1, rfl, RF.rf, hR⟩
    | succ k ih =>
      intro fuel l x rd1 c1 hl hl0 hf hr hx hR
      obtain ⟨f, rfl⟩ : ∃ f, fuel = f + 1 := ⟨fuel - 1, by omega⟩
      have e0 := hR.2.1 0 (by decide) (by decide)
      rw [f_X9_readFactors_2_s]
      unfold b_X9_readFactors_2
      rw [e0, hr, gd_t (by omega), bq_n (by omega), gd_t (by omega), jn_e]
      have body : ∀ c2, RR m len B (cmT len B l x) rd1 c2 → ∃ c', (cl (f_X9_factor m c2) fun v4 c5 => gd (0 ≤ (place + l) ∧ (place + l) < 26) <| sto c5 (m + 13) (place + l) v4 fun c6 => f_X9_readFactors_2 m place (fun c1 => some (0, c1)) f (l + 1) c6) = some (0, c') ∧ RF m c2 c' ∧ RR m len B (fsT len B place (k + 1) l (x, rd1)).1 (fsT len B place (k + 1) l (x, rd1)).2 c' := fun c2 h2 => by
        obtain ⟨c3, e3, hF3, hR3⟩ := factor9 h2 hT (cmT_ok hx)
        rw [e3, cl_s, gd_t (by omega)]
        dsimp only [sto]
        obtain ⟨c4, e4, hF4, hR4⟩ := ih f (l + 1) _ _ _ (by omega) (by omega) (by omega) (by rw [updZ_n (by omega)]; exact hr) (fcT_ok (cmT_ok hx)) (RR_w (i := place + l) (v := (fcT len B (cmT len B l x)).1) hR3)
        exact ⟨c4, e4, (hF3.tr RF_w).tr hF4, hR4⟩
      by_cases y : l ≤ 0
      · rw [bq_p y]
        exact body c1 (by rw [cmT_p y]; exact hR)
      · obtain ⟨c2, e2, hF2, hR2⟩ := takes9 (lo := 44) (hi := 44) hR hT hx (by omega) (by omega)
        rw [bq_n y, e2, cl_s]
        obtain ⟨c', e', hF', hR'⟩ := body c2 (by rw [cmT_n y]; exact hR2)
        exact ⟨c', e', hF2.tr hF', hR'⟩
  unfold f_X9_readFactors
  exact L (rd 0).toNat LF 0 x rd c (by omega) (by omega) (by rw [LF_g]; omega) rfl hx hR
theorem cons9 {X : Rs} (hR : RR m len B X.1 X.2 c) (hT : Tx len B) (hx : OkX len X.1) (h0 : 0 ≤ X.2 0 ∧ X.2 0 ≤ 4) (h1 : 0 ≤ X.2 1 ∧ X.2 1 < 4) (κ : W0 → Option (Int × W0)) : ∃ c', (cl (f_X9_takes m 59 59 c) fun _ c2 =>
        cl (f_X9_takes m 99 99 c2) fun _ c4 =>
        cl (f_X9_readFactors m (6 + (4 * (c4 (m + 13) 1))) c4) fun _ c5 =>
        cl (f_X9_takes m 60 60 c5) fun _ c8 =>
        cl (f_X9_bound m c8) fun v9 c10 =>
        gd (0 ≤ (22 + (c8 (m + 13) 1)) ∧ (22 + (c8 (m + 13) 1)) < 26) <|
        sto c10 (m + 13) (22 + (c8 (m + 13) 1)) v9 fun c11 =>
        sto c11 (m + 13) 1 ((c11 (m + 13) 1) + 1) fun c12 =>
        κ c12) = κ c' ∧ RF m c c' ∧ RR m len B (cnT len B X).1 (cnT len B X).2 c' := by
  obtain ⟨c2, e2, hF2, hR2⟩ := takes9 (lo := 59) (hi := 59) hR hT hx (by omega) (by omega)
  have hx2 := tkT_ok (lo := 59) (hi := 59) (B := B) hx
  obtain ⟨c4, e4, hF4, hR4⟩ := takes9 (lo := 99) (hi := 99) hR2 hT hx2 (by omega) (by omega)
  have hx4 := tkT_ok (lo := 99) (hi := 99) (B := B) hx2
  have v4 := hR4.2.1 1 (by decide) (by decide)
  obtain ⟨c5, e5, hF5, hR5⟩ := factors9 (place := 6 + 4 * X.2 1) hR4 hT hx4 h0 (by omega)
  have hx5 := fsT_ok (B := B) (place := 6 + 4 * X.2 1) (X.2 0).toNat 0 ((tkT len B 99 99 (tkT len B 59 59 X.1).2).2, X.2) hx4
  obtain ⟨c8, e8, hF8, hR8⟩ := takes9 (lo := 60) (hi := 60) hR5 hT hx5 (by omega) (by omega)
  have hx8 := tkT_ok (lo := 60) (hi := 60) (B := B) hx5
  have v8 : c8 (m + 13) 1 = X.2 1 := by
    rw [hR8.2.1 1 (by decide) (by decide)]
    exact fsT_o _ _ _ 1 (by omega)
  obtain ⟨c10, e10, hF10, hR10⟩ := bound9 hR8 hT hx8
  have v10 : c10 (m + 13) 1 = X.2 1 := by
    rw [hR10.2.1 1 (by decide) (by decide)]
    exact fsT_o _ _ _ 1 (by omega)
  rw [e2, cl_s, e4, cl_s, v4, e5, cl_s, e8, cl_s, e10, cl_s, v8, gd_t (by omega)]
  dsimp only [sto]
  rw [upc_s, updZ_n (by omega), v10]
  refine ⟨_, rfl, ((((((hF2.tr hF4).tr hF5).tr hF8).tr hF10).tr RF_w).tr RF_w), ?_⟩
  have h := RR_w (i := 1) (v := X.2 1 + 1) (RR_w (i := 22 + X.2 1) (v := (bnT len B (tkT len B 60 60 (fsT len B (6 + 4 * X.2 1) (X.2 0).toNat 0 ((tkT len B 99 99 (tkT len B 59 59 X.1).2).2, X.2)).1).2).1) hR10)
  rw [upc_s] at h
  exact h
theorem loop9 (hT : Tx len B) (κ : W0 → Option (Int × W0)) : ∀ (k fuel : Nat) (X : Rs) (c : W0), 5 ≤ X.2 1 + k → k + 1 ≤ fuel → OkX len X.1 → (0 ≤ X.2 0 ∧ X.2 0 ≤ 4) → (0 ≤ X.2 1 ∧ X.2 1 ≤ 4) → RR m len B X.1 X.2 c → ∃ c', f_X9_readProblem_77 m κ fuel c = κ c' ∧ RF m c c' ∧ RR m len B (lpT len B k X).1 (lpT len B k X).2 c' := by
  intro k
  induction k with
  | zero =>
    intro fuel X c hk hf hx h0 h1 hR
    omega
  | succ k ih =>
    intro fuel X c hk hf hx h0 h1 hR
    obtain ⟨f, rfl⟩ : ∃ f, fuel = f + 1 := ⟨fuel - 1, by omega⟩
    have t1 := hT.1; have x1 := hx.1; have x2 := hx.2
    have v1 := hR.2.1 1 (by decide) (by decide)
    rw [f_X9_readProblem_77_s]
    unfold b_X9_readProblem_77
    rw [hR.1.1, hR.1.2, hR.2.2.1, v1, gd_t (by omega)]
    have stop : ¬ (X.1.2 = 0 ∧ X.1.1 < len ∧ X.2 1 < 4) → ∃ c', κ c = κ c' ∧ RF m c c' ∧ RR m len B (lpT len B (k + 1) X).1 (lpT len B (k + 1) X).2 c' := fun z => ⟨c, rfl, RF.rf, by rw [lpT_f z]; exact hR⟩
    by_cases y : X.1.2 = 0
    · rw [bq_p y, gd_t (by omega)]
      by_cases w : len ≤ X.1.1
      · rw [bq_p w]
        exact stop (fun z => by omega)
      · rw [bq_n w, gd_t (by omega)]
        by_cases u : 4 ≤ X.2 1
        · rw [bq_p u]
          exact stop (fun z => by omega)
        · rw [bq_n u, lpT_t (X := X) (k := k) ⟨y, by omega, by omega⟩]
          obtain ⟨c1, e1, hF1, hR1⟩ := cons9 hR hT hx h0 ⟨h1.1, by omega⟩ (f_X9_readProblem_77 m κ f)
          obtain ⟨n0, n1⟩ := cnT_0 (len := len) (B := B) h1.1 h0.2
          obtain ⟨c2, e2, hF2, hR2⟩ := ih f (cnT len B X) c1 (by omega) (by omega) (cnT_ok hx) (by omega) (by omega) hR1
          rw [e1, e2]
          exact ⟨c2, rfl, hF1.tr hF2, hR2⟩
    · rw [bq_n y]
      exact stop (fun z => y z.1)
/-- the whole reading -/
theorem read9 (hT : Tx len B) (h8 : c m 8 = len) (h5 : ∀ k, 0 ≤ k → k < len → c (m + 5) k = B k) : ∃ c', f_X9_readProblem m c = some (0, c') ∧ RF m c c' ∧ RR m len B ((prF len B).1.1, prW len B) (prF len B).2 c' := by
  have L : ∀ (κ : W0 → Option (Int × W0)) (k fuel : Nat) (l : Int) (c1 : W0), l + k = 26 → 0 ≤ l → k + 1 ≤ fuel → Fr (fun q => q = m + 13) c c1 → (∀ i, 0 ≤ i → i < l → c1 (m + 13) i = 0) → ∃ c2, f_X9_readProblem_2 m κ fuel l c1 = κ c2 ∧ Fr (fun q => q = m + 13) c c2 ∧ ∀ i, 0 ≤ i → i < 26 → c2 (m + 13) i = 0 := by
    intro κ k
    induction k with
    | zero =>
      intro fuel l c1 hl h0 hf hFr hI
      obtain ⟨f, rfl⟩ : ∃ f, fuel = f + 1 := ⟨fuel - 1, by omega⟩
      rw [f_X9_readProblem_2_s]
      unfold b_X9_readProblem_2
      rw [gd_t (by omega), bq_p (by omega)]
      exact ⟨c1, rfl, hFr, fun i a b => hI i a (by omega)⟩
    | succ k ih =>
      intro fuel l c1 hl h0 hf hFr hI
      obtain ⟨f, rfl⟩ : ∃ f, fuel = f + 1 := ⟨fuel - 1, by omega⟩
      rw [f_X9_readProblem_2_s]
      unfold b_X9_readProblem_2
      rw [gd_t (by omega), bq_n (by omega), gd_t (by omega)]
      dsimp only [sto]
      refine ih f (l + 1) _ (by omega) (by omega) (by omega) (hFr.tr (Fr.up rfl)) (fun i a b => ?_)
      rw [upc_s]
      by_cases e : i = l
      · rw [e, updZ_s]
      · rw [updZ_n e]; exact hI i a (by omega)
  unfold f_X9_readProblem
  obtain ⟨c1, e1, hF1, h1⟩ := L (fun c1 =>
      sto c1 m 18 0 fun c2 =>
      sto c2 m 19 0 fun c3 =>
      cl (f_X9_takes m 118 118 c3) fun v4 c5 =>
      cl (f_X9_takes m 49 52 c5) fun v6 c7 =>
      sto c7 (m + 13) 0 v6 fun c8 =>
      cl (f_X9_takes m 59 59 c8) fun v9 c10 =>
      cl (f_X9_takes m 109 109 c10) fun v11 c12 =>
      cl (f_X9_readFactors m 2 c12) fun _ c13 =>
      f_X9_readProblem_77 m (fun c15 =>
          gd (R32 (c15 m 19)) <|
          bq ((c15 m 19) = 0) (
            gd (R32 (c15 m 18) ∧ R32 (c15 m 8)) <|
            bq ((c15 m 8) ≤ (c15 m 18)) (
              sto c15 m 19 0 fun c17 =>
              some (0, c17)) (
              sto c15 m 19 1 fun c18 =>
              some (0, c18))) (
            sto c15 m 19 1 fun c16 =>
            some (0, c16))) LF c13) 26 LF 0 c (by omega) (by omega) (by rw [LF_g]; omega) Fr.rf (fun i a b => by omega)
  have t1 := hT.1
  have hRF1 : RF m c c1 := ⟨fun q _ b => hF1 q b, fun i _ _ => by rw [hF1 m (by omega)]⟩
  have hR0 : RR m len B (c1 m 18, c1 m 19) (fun _ => 0) c1 := ⟨⟨rfl, rfl⟩, h1, by rw [hF1 m (by omega)]; exact h8, by rw [hF1 _ (by omega)]; exact h5⟩
  have e3 : upc (upc c1 m (updZ (c1 m) 18 0)) m (updZ (upc c1 m (updZ (c1 m) 18 0) m) 19 0) = xs c1 m 0 0 := by
    unfold xs
    rw [upc_s, upc_u]
  have hR3 := RR_xs (s := 0) (w := 0) hR0
  have hx0 : OkX len ((0, 0) : Xs) := ⟨⟨Int.le_refl 0, t1.1⟩, Or.inl rfl⟩
  obtain ⟨c5, e5, hF5, hR5⟩ := takes9 (lo := 118) (hi := 118) hR3 hT hx0 (by omega) (by omega)
  obtain ⟨c7, e7, hF7, hR7⟩ := takes9 (lo := 49) (hi := 52) hR5 hT (prA_ok hT) (by omega) (by omega)
  have hR8 := RR_w (i := 0) (v := (prB len B).1) hR7
  obtain ⟨c10, e10, hF10, hR10⟩ := takes9 (lo := 59) (hi := 59) hR8 hT (prB_ok hT) (by omega) (by omega)
  obtain ⟨c12, e12, hF12, hR12⟩ := takes9 (lo := 109) (hi := 109) hR10 hT (tkT_ok (prB_ok hT)) (by omega) (by omega)
  have hb := prB_r (len := len) (B := B)
  have hd0 : prD len B 0 = (prB len B).1 := updZ_s
  have hR12' : RR m len B (prC len B) (prD len B) c12 := hR12
  obtain ⟨c13, e13, hF13, hR13⟩ := factors9 (place := 2) hR12' hT (prC_ok hT) (by omega) (by omega)
  rw [hd0] at hR13
  have hR13' : RR m len B (prE len B).1 (prE len B).2 c13 := hR13
  obtain ⟨p0, p1⟩ := prE_01 (len := len) (B := B)
  obtain ⟨c15, e15, hF15, hR15⟩ := loop9 hT (fun c15 =>
          gd (R32 (c15 m 19)) <|
          bq ((c15 m 19) = 0) (
            gd (R32 (c15 m 18) ∧ R32 (c15 m 8)) <|
            bq ((c15 m 8) ≤ (c15 m 18)) (
              sto c15 m 19 0 fun c17 =>
              some (0, c17)) (
              sto c15 m 19 1 fun c18 =>
              some (0, c18))) (
            sto c15 m 19 1 fun c16 =>
            some ((0 : Int), c16))) 5 LF (prE len B) c13 (by omega) (by rw [LF_g]; omega) (prE_ok hT) (by omega) (by omega) hR13'
  have hR15' : RR m len B (prF len B).1 (prF len B).2 c15 := hR15
  have hok := prF_ok hT
  have ok1 := hok.1; have ok2 := hok.2
  have hFa : RF m c c15 := ((((((((hRF1.tr RF_xs).tr hF5).tr hF7).tr RF_w).tr hF10).tr hF12).tr hF13).tr hF15)
  have fin : ∀ w : Int, w = prW len B → ∃ c', some ((0 : Int), upc c15 m (updZ (c15 m) 19 w)) = some (0, c') ∧ RF m c c' ∧ RR m len B ((prF len B).1.1, prW len B) (prF len B).2 c' := fun w hw => by
    refine ⟨_, rfl, hFa.tr ⟨fun q a _ => upc_n a, fun i _ b => by rw [upc_s, updZ_n b]⟩, ⟨⟨by rw [upc_s, updZ_n (by decide)]; exact hR15'.1.1, by rw [upc_s, updZ_s]; exact hw⟩, by rw [upc_n (by omega)]; exact hR15'.2.1, by rw [upc_s, updZ_n (by decide)]; exact hR15'.2.2.1, by rw [upc_n (by omega)]; exact hR15'.2.2.2⟩⟩
  have e7' : f_X9_takes m 49 52 c5 = some ((prB len B).1, c7) := e7
  dsimp only [sto] at e15
  rw [e1]
  dsimp only [sto]
  rw [e3, e5, cl_s, e7', cl_s, e10, cl_s, e12, cl_s, e13, cl_s, e15, hR15'.1.2, gd_t (by omega)]
  by_cases y : (prF len B).1.2 = 0
  · rw [bq_p y, hR15'.1.1, hR15'.2.2.1, gd_t (by omega)]
    by_cases w : len ≤ (prF len B).1.1
    · rw [bq_p w]
      exact fin 0 (by unfold prW; rw [if_pos (show (prF len B).1.2 = 0 ∧ len ≤ (prF len B).1.1 from ⟨y, w⟩)])
    · rw [bq_n w]
      exact fin 1 (by unfold prW; rw [if_neg (show ¬ ((prF len B).1.2 = 0 ∧ len ≤ (prF len B).1.1) from fun z => w z.2)])
  · rw [bq_n y]
    exact fin 1 (by unfold prW; rw [if_neg (show ¬ ((prF len B).1.2 = 0 ∧ len ≤ (prF len B).1.1) from fun z => y z.1)])
end
end TM
