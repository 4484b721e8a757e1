section TE
/-! problems are written -/
abbrev Tw : Type := Int × (Int → Int)
def wA (T : Tw) (x : Int) : Tw := (T.1 + 1, updZ T.2 T.1 x)
def wC (T : Tw) (l : Int) : Tw := if l ≤ 0 then T else wA T 44
def wM (T : Tw) (v : Int) : Tw := if 0 ≤ v then T else wA T 45
def wFa (T : Tw) (l v : Int) : Tw := wA (wM (wC T l) v) (48 + (if 0 ≤ v then v else -v))
def wFs (F : Int → Int) (place : Int) : Nat → Int → Tw → Tw
  | 0, _, T => T
  | k + 1, l, T => wFs F place k (l + 1) (wFa T l (F (place + l)))
def wD (T : Tw) (b : Int) : Tw := if b ≤ 9 then T else wA T (48 + Int.tdiv b 10)
def wBd (T : Tw) (b : Int) : Tw := wA (wD T b) (48 + Int.tmod b 10)
def wCf (F : Int → Int) (l : Int) (T : Tw) : Tw := wFs F (6 + 4 * l) (F 0).toNat 0 (wA (wA T 59) 99)
def wCn (F : Int → Int) (l : Int) (T : Tw) : Tw := wBd (wA (wCf F l T) 60) (F (22 + l))
def wCs (F : Int → Int) : Nat → Int → Tw → Tw
  | 0, _, T => T
  | k + 1, l, T => wCs F k (l + 1) (wCn F l T)
def wH (F : Int → Int) : Tw := wA (wA (wA (wA (0, fun _ => 0) 118) (48 + F 0)) 59) 109
def wG (F : Int → Int) : Tw := wFs F 2 (F 0).toNat 0 (wH F)
def wPr (F : Int → Int) : Tw := wCs F (F 1).toNat 0 (wG F)
def Wk (a : Int) (T : Tw) : Prop := (0 ≤ T.1 ∧ T.1 ≤ a) ∧ ∀ k, 0 ≤ k → k < T.1 → 33 ≤ T.2 k ∧ T.2 k ≤ 126
theorem Wk.mo {a a' : Int} {T : Tw} (h : Wk a T) (ha : a ≤ a') : Wk a' T := ⟨⟨h.1.1, by have := h.1.2; omega⟩, h.2⟩
theorem wA_k {a x : Int} {T : Tw} (h : Wk a T) (hx : 33 ≤ x ∧ x ≤ 126) : Wk (a + 1) (wA T x) := by
  obtain ⟨h1, h2⟩ := h
  refine ⟨⟨by show 0 ≤ T.1 + 1; omega, by show T.1 + 1 ≤ a + 1; omega⟩, fun k x1 y => ?_⟩
  have y2 : k < T.1 + 1 := y
  show 33 ≤ updZ T.2 T.1 x k ∧ updZ T.2 T.1 x k ≤ 126
  by_cases e : k = T.1
  · rw [e, updZ_s]; exact hx
  · rw [updZ_n e]; exact h2 k x1 (by omega)
theorem wC_k {a l : Int} {T : Tw} (h : Wk a T) : Wk (a + 1) (wC T l) ∧ (l ≤ 0 → Wk a (wC T l)) := by
  unfold wC
  by_cases y : l ≤ 0
  · rw [if_pos y]; exact ⟨h.mo (by omega), fun _ => h⟩
  · rw [if_neg y]; exact ⟨wA_k h (by omega), fun z => absurd z y⟩
theorem wM_k {a v : Int} {T : Tw} (h : Wk a T) : Wk (a + 1) (wM T v) := by
  unfold wM
  by_cases y : 0 ≤ v
  · rw [if_pos y]; exact h.mo (by omega)
  · rw [if_neg y]; exact wA_k h (by omega)
theorem wFa_k {a l v : Int} {T : Tw} (h : Wk a T) (hv : B9 v) : Wk (a + 3) (wFa T l v) ∧ (l ≤ 0 → Wk (a + 2) (wFa T l v)) := by
  have h1 := wC_k (l := l) h
  have hx : 33 ≤ 48 + (if 0 ≤ v then v else -v) ∧ 48 + (if 0 ≤ v then v else -v) ≤ 126 := by split <;> omega
  exact ⟨(wA_k (wM_k h1.1) hx).mo (by omega), fun y => (wA_k (wM_k (h1.2 y)) hx).mo (by omega)⟩
theorem wFs_k {F : Int → Int} {place : Int} : ∀ (k : Nat) (l a : Int) (T : Tw), 0 ≤ l → (∀ v, l ≤ v → v < l + k → B9 (F (place + v))) → Wk a T → Wk (a + 3 * k) (wFs F place k l T) := by
  intro k
  induction k with
  | zero => intro l a T _ _ h; exact h.mo (by omega)
  | succ k ih =>
    intro l a T h0 hv h
    exact (ih (l + 1) (a + 3) _ (by omega) (fun v x y => hv v (by omega) (by omega)) (wFa_k h (hv l (by omega) (by omega))).1).mo (by omega)
theorem wFs_k0 {F : Int → Int} {place a : Int} {k : Nat} {T : Tw} (hk : 1 ≤ k) (hv : ∀ v, 0 ≤ v → v < (k : Int) → B9 (F (place + v))) (h : Wk a T) : Wk (a + 3 * k - 1) (wFs F place k 0 T) := by
  obtain ⟨j, rfl⟩ : ∃ j, k = j + 1 := ⟨k - 1, by omega⟩
  exact (wFs_k j (0 + 1) (a + 2) _ (by omega) (fun v x y => hv v (by omega) (by omega)) ((wFa_k h (hv 0 (by omega) (by omega))).2 (by omega))).mo (by omega)
theorem tdm {b : Int} (hb : 0 ≤ b ∧ b ≤ 99) : (0 ≤ Int.tdiv b 10 ∧ Int.tdiv b 10 ≤ 9) ∧ 0 ≤ Int.tmod b 10 ∧ Int.tmod b 10 ≤ 9 := by
  rw [Int.tdiv_eq_ediv_of_nonneg hb.1, Int.tmod_eq_emod_of_nonneg hb.1]
  omega
theorem wD_k {a b : Int} {T : Tw} (h : Wk a T) (hb : 0 ≤ b ∧ b ≤ 99) : Wk (a + 1) (wD T b) := by
  have := tdm hb
  unfold wD
  by_cases y : b ≤ 9
  · rw [if_pos y]; exact h.mo (by omega)
  · rw [if_neg y]; exact wA_k h (by omega)
theorem wBd_k {a b : Int} {T : Tw} (h : Wk a T) (hb : 0 ≤ b ∧ b ≤ 99) : Wk (a + 2) (wBd T b) := by
  have := tdm hb
  exact (wA_k (wD_k h hb) (by omega)).mo (by omega)
section
variable {F : Int → Int} {l a : Int} {T : Tw}
theorem wCf_k (g : GdP F) (hl : 0 ≤ l ∧ l < 4) (h : Wk a T) : Wk (a + 13) (wCf F l T) := by
  have g0 := g.1
  exact (wFs_k0 (by omega) (fun v x y => g.2.2.2.1 l v hl.1 hl.2 x (by omega)) (wA_k (wA_k h (by omega)) (by omega))).mo (by omega)
theorem wCn_k (g : GdP F) (hl : 0 ≤ l ∧ l < 4) (h : Wk a T) : Wk (a + 16) (wCn F l T) :=
  (wBd_k (wA_k (wCf_k g hl h) (by omega)) (g.2.2.2.2 l hl.1 hl.2)).mo (by omega)
theorem wCs_k (g : GdP F) : ∀ (k : Nat) (l a : Int) (T : Tw), 0 ≤ l → l + k = F 1 → Wk a T → Wk (a + 16 * k) (wCs F k l T) := by
  have g1 := g.2.1
  intro k
  induction k with
  | zero => intro l a T _ _ h; exact h.mo (by omega)
  | succ k ih =>
    intro l a T h0 hl h
    exact (ih (l + 1) (a + 16) _ (by omega) (by omega) (wCn_k g ⟨h0, by omega⟩ h)).mo (by omega)
theorem wH_k (g : GdP F) : Wk 4 (wH F) := by
  have g0 := g.1
  exact wA_k (a := 3) (wA_k (a := 2) (wA_k (a := 1) (wA_k (a := 0) ⟨⟨Int.le_refl 0, Int.le_refl 0⟩, fun k x y => by
    have y2 : k < 0 := y
    omega⟩ (by omega)) (by omega)) (by omega)) (by omega)
theorem wG_k (g : GdP F) : Wk 15 (wG F) := by
  have g0 := g.1
  exact (wFs_k0 (by omega) (fun v x y => g.2.2.1 v x (by omega)) (wH_k g)).mo (by omega)
theorem wPr_k (g : GdP F) : Wk 79 (wPr F) := by
  have g1 := g.2.1
  exact (wCs_k g (F 1).toNat 0 15 _ (by omega) (by omega) (wG_k g)).mo (by omega)
end
/-! the class -/
def WT (th : Nat) (T : Tw) (c : W0) : Prop := c th 0 = T.1 ∧ ∀ k, 0 ≤ k → k < T.1 → c (th + 2) k = T.2 k
def Tq (th q : Nat) : Prop := q = th ∨ q = th + 2
section
variable {th p : Nat} {a l v b : Int} {T : Tw} {F : Int → Int} {c : W0}
theorem add8 {x : Int} (h : WT th T c) (hT : 0 ≤ T.1 ∧ T.1 < 80) (hx : R32 x) : ∃ c', f_X7_add th x c = some (0, c') ∧ Fr (Tq th) c c' ∧ WT th (wA T x) c' := by
  unfold f_X7_add
  rw [gd_t hx, h.1, gd_t hT]
  dsimp only [sto]
  refine ⟨_, rfl, (Fr.up (Or.inr rfl)).tr (Fr.up (Or.inl rfl)), ?_, fun k y z => ?_⟩
  · rw [upc_s, updZ_s, upc_n (by omega), h.1]
    rfl
  · have z2 : k < T.1 + 1 := z
    rw [upc_n (show th + 2 ≠ th by omega), upc_s]
    show _ = updZ T.2 T.1 x k
    by_cases e : k = T.1
    · rw [e, updZ_s, updZ_s]
    · rw [updZ_n e, updZ_n e]
      exact h.2 k y (by omega)
theorem fct8w (h : WT th T c) (hk : Wk a T) (ha : a + 3 ≤ 80 ∨ (l ≤ 0 ∧ a + 2 ≤ 80)) (hl : R32 l) (hv : B9 v) : ∃ c', f_X7_addFactor th l v c = some (0, c') ∧ Fr (Tq th) c c' ∧ WT th (wFa T l v) c' := by
  have mid : ∀ (c2 : W0) (T1 : Tw), Fr (Tq th) c c2 → WT th T1 c2 → (0 ≤ T1.1 ∧ T1.1 + 2 ≤ 80) → ∃ c', (gd (R32 v) <| jn (fun (c4 : W0) => gd (R32 v) <| cl (f_X7_add th (48 + (if 0 ≤ v then v else -v)) c4) fun _ c5 => some ((0 : Int), c5)) fun k3 => bq (0 ≤ v) (k3 c2) (cl (f_X7_add th 45 c2) fun _ c7 => k3 c7)) = some (0, c') ∧ Fr (Tq th) c c' ∧ WT th (wA (wM T1 v) (48 + (if 0 ≤ v then v else -v))) c' := by
    intro c2 T1 hF2 h2 hT1
    have hx : R32 (48 + (if 0 ≤ v then v else -v)) := by split <;> omega
    rw [gd_t (by omega), jn_e]
    by_cases y : 0 ≤ v
    · obtain ⟨c3, e3, hF3, h3⟩ := add8 h2 (by omega) hx
      have em : wM T1 v = T1 := if_pos y
      rw [bq_p y]
      try dsimp only
      rw [gd_t (by omega), e3, cl_s, em]
      exact ⟨c3, rfl, hF2.tr hF3, h3⟩
    · obtain ⟨c3, e3, hF3, h3⟩ := add8 (x := 45) h2 (by omega) (by omega)
      obtain ⟨c4, e4, hF4, h4⟩ := add8 h3 ⟨by show 0 ≤ T1.1 + 1; omega, by show T1.1 + 1 < 80; omega⟩ hx
      have em : wM T1 v = wA T1 45 := if_neg y
      rw [bq_n y, e3, cl_s]
      try dsimp only
      rw [gd_t (by omega), e4, cl_s, em]
      exact ⟨c4, rfl, (hF2.tr hF3).tr hF4, h4⟩
  have h1 := hk.1
  unfold f_X7_addFactor
  rw [gd_t hl, jn_e]
  by_cases y : l ≤ 0
  · have em : wC T l = T := if_pos y
    rw [bq_p y]
    unfold wFa
    rw [em]
    exact mid c T Fr.rf h (by omega)
  · obtain ⟨c3, e3, hF3, h3⟩ := add8 (x := 44) h (by omega) (by omega)
    have em : wC T l = wA T 44 := if_neg y
    rw [bq_n y, e3, cl_s]
    unfold wFa
    rw [em]
    exact mid c3 (wA T 44) hF3 h3 ⟨by show 0 ≤ T.1 + 1; omega, by show T.1 + 1 + 2 ≤ 80; omega⟩
theorem bnd8w (h : WT th T c) (hk : Wk a T) (ha : a + 2 ≤ 80) (hb : 0 ≤ b ∧ b ≤ 99) : ∃ c', f_X7_addBound th b c = some (0, c') ∧ Fr (Tq th) c c' ∧ WT th (wBd T b) c' := by
  have h1 := hk.1
  have ht := tdm hb
  unfold f_X7_addBound
  rw [gd_t (by omega), jn_e]
  by_cases y : b ≤ 9
  · obtain ⟨c3, e3, hF3, h3⟩ := add8 (x := 48 + Int.tmod b 10) h (by omega) (by omega)
    have em : wD T b = T := if_pos y
    unfold wBd
    rw [bq_p y]
    try dsimp only
    rw [gd_t (by omega), e3, cl_s, em]
    exact ⟨c3, rfl, hF3, h3⟩
  · obtain ⟨c3, e3, hF3, h3⟩ := add8 (x := 48 + Int.tdiv b 10) h (by omega) (by omega)
    obtain ⟨c4, e4, hF4, h4⟩ := add8 (x := 48 + Int.tmod b 10) h3 ⟨by show 0 ≤ T.1 + 1; omega, by show T.1 + 1 < 80; omega⟩ (by omega)
    have em : wD T b = wA T (48 + Int.tdiv b 10) := if_neg y
    unfold wBd
    rw [bq_n y, gd_t (by omega), e3, cl_s]
    try dsimp only
    rw [gd_t (by omega), e4, cl_s, em]
    exact ⟨c4, rfl, hF3.tr hF4, h4⟩
theorem pr36 (hq : p + 2 < th) (g : GdP F) (hP : RepP p F c) (κ : W0 → Option (Int × W0)) : ∀ (k fuel : Nat) (l : Int) (a : Int) (T : Tw) (c1 : W0), l + k = F 0 → 0 ≤ l → k + 1 ≤ fuel → Fr (Tq th) c c1 → WT th T c1 → Wk a T → (a + 3 * k ≤ 80 ∨ (l ≤ 0 ∧ a + 3 * k ≤ 81)) → ∃ c', f_X7_addProblem_36 th p κ fuel l c1 = κ c' ∧ Fr (Tq th) c c' ∧ WT th (wFs F 2 k l T) c' := by
  have g0 := g.1
  intro k
  induction k with
  | zero =>
    intro fuel l a T c1 hl h0 hf hF h hk ha
    obtain ⟨f, rfl⟩ : ∃ f, fuel = f + 1 := ⟨fuel - 1, by omega⟩
    have e0 : c1 p 0 = F 0 := by rw [hF p (by unfold Tq; omega)]; exact hP.1
    rw [f_X7_addProblem_36_s]
    unfold b_X7_addProblem_36
    rw [e0, gd_t (by omega), bq_p (by omega)]
    exact ⟨c1, rfl, hF, h⟩
  | succ k ih =>
    intro fuel l a T c1 hl h0 hf hF h hk ha
    obtain ⟨f, rfl⟩ : ∃ f, fuel = f + 1 := ⟨fuel - 1, by omega⟩
    have hP1 : RepP p F c1 := RepP_c hP (hF p (by unfold Tq; omega)) (hF _ (by unfold Tq; omega))
    have hv := g.2.2.1 l h0 (by omega)
    have ep : f_X2_profit p l c1 = some (F (2 + l)) := by
      unfold f_X2_profit
      rw [gd_t (by omega), hP1.2.2.2.1 l h0 (by omega)]
    obtain ⟨c2, e2, hF2, h2⟩ := fct8w (l := l) (v := F (2 + l)) h hk (by omega) (by omega) hv
    have hw := wFa_k (l := l) hk hv
    rw [f_X7_addProblem_36_s]
    unfold b_X7_addProblem_36
    rw [hP1.1, gd_t (by omega), bq_n (by omega), ep, cv_s, e2, cl_s]
    by_cases y : l ≤ 0
    · obtain ⟨c3, e3, hF3, h3⟩ := ih f (l + 1) (a + 2) _ c2 (by omega) (by omega) (by omega) (hF.tr hF2) h2 (hw.2 y) (by omega)
      exact ⟨c3, e3, hF3, h3⟩
    · obtain ⟨c3, e3, hF3, h3⟩ := ih f (l + 1) (a + 3) _ c2 (by omega) (by omega) (by omega) (hF.tr hF2) h2 hw.1 (by omega)
      exact ⟨c3, e3, hF3, h3⟩
theorem pr84 {r : Int} (hq : p + 2 < th) (g : GdP F) (hP : RepP p F c) (hr : 0 ≤ r ∧ r < F 1) (κ : W0 → Option (Int × W0)) : ∀ (k fuel : Nat) (l : Int) (a : Int) (T : Tw) (c1 : W0), l + k = F 0 → 0 ≤ l → k + 1 ≤ fuel → Fr (Tq th) c c1 → WT th T c1 → Wk a T → (a + 3 * k ≤ 80 ∨ (l ≤ 0 ∧ a + 3 * k ≤ 81)) → ∃ c', f_X7_addProblem_84 th p r κ fuel l c1 = κ c' ∧ Fr (Tq th) c c' ∧ WT th (wFs F (6 + 4 * r) k l T) c' := by
  have g0 := g.1; have g1 := g.2.1
  intro k
  induction k with
  | zero =>
    intro fuel l a T c1 hl h0 hf hF h hk ha
    obtain ⟨f, rfl⟩ : ∃ f, fuel = f + 1 := ⟨fuel - 1, by omega⟩
    have e0 : c1 p 0 = F 0 := by rw [hF p (by unfold Tq; omega)]; exact hP.1
    rw [f_X7_addProblem_84_s]
    unfold b_X7_addProblem_84
    rw [e0, gd_t (by omega), bq_p (by omega)]
    exact ⟨c1, rfl, hF, h⟩
  | succ k ih =>
    intro fuel l a T c1 hl h0 hf hF h hk ha
    obtain ⟨f, rfl⟩ : ∃ f, fuel = f + 1 := ⟨fuel - 1, by omega⟩
    have hP1 : RepP p F c1 := RepP_c hP (hF p (by unfold Tq; omega)) (hF _ (by unfold Tq; omega))
    have hv := g.2.2.2.1 r l hr.1 (by omega) h0 (by omega)
    have ep : f_X2_coefficient p r l c1 = some (F (6 + 4 * r + l)) := by
      unfold f_X2_coefficient
      rw [gd_t (by omega), hP1.2.2.1 r l hr.1 hr.2 h0 (by omega)]
    obtain ⟨c2, e2, hF2, h2⟩ := fct8w (l := l) (v := F (6 + 4 * r + l)) h hk (by omega) (by omega) hv
    have hw := wFa_k (l := l) hk hv
    rw [f_X7_addProblem_84_s]
    unfold b_X7_addProblem_84
    rw [hP1.1, gd_t (by omega), bq_n (by omega), ep, cv_s, e2, cl_s]
    by_cases y : l ≤ 0
    · obtain ⟨c3, e3, hF3, h3⟩ := ih f (l + 1) (a + 2) _ c2 (by omega) (by omega) (by omega) (hF.tr hF2) h2 (hw.2 y) (by omega)
      exact ⟨c3, e3, hF3, h3⟩
    · obtain ⟨c3, e3, hF3, h3⟩ := ih f (l + 1) (a + 3) _ c2 (by omega) (by omega) (by omega) (hF.tr hF2) h2 hw.1 (by omega)
      exact ⟨c3, e3, hF3, h3⟩
theorem pr62 (hq : p + 2 < th) (g : GdP F) (hP : RepP p F c) (κ : W0 → Option (Int × W0)) : ∀ (k fuel : Nat) (l : Int) (a : Int) (T : Tw) (c1 : W0), l + k = F 1 → 0 ≤ l → k + 1 ≤ fuel → Fr (Tq th) c c1 → WT th T c1 → Wk a T → a + 16 * k ≤ 79 → ∃ c', f_X7_addProblem_62 th p κ fuel l c1 = κ c' ∧ Fr (Tq th) c c' ∧ WT th (wCs F k l T) c' := by
  have g0 := g.1; have g1 := g.2.1
  intro k
  induction k with
  | zero =>
    intro fuel l a T c1 hl h0 hf hF h hk ha
    obtain ⟨f, rfl⟩ : ∃ f, fuel = f + 1 := ⟨fuel - 1, by omega⟩
    have e0 : c1 p 1 = F 1 := by rw [hF p (by unfold Tq; omega)]; exact hP.2.1
    rw [f_X7_addProblem_62_s]
    unfold b_X7_addProblem_62
    rw [e0, gd_t (by omega), bq_p (by omega)]
    exact ⟨c1, rfl, hF, h⟩
  | succ k ih =>
    intro fuel l a T c1 hl h0 hf hF h hk ha
    obtain ⟨f, rfl⟩ : ∃ f, fuel = f + 1 := ⟨fuel - 1, by omega⟩
    have e0 : c1 p 1 = F 1 := by rw [hF p (by unfold Tq; omega)]; exact hP.2.1
    have k1 := hk.1
    obtain ⟨c2, e2, hF2, h2⟩ := add8 (x := 59) h (by omega) (by omega)
    have w2 := wA_k (x := 59) hk (by omega)
    have k2 := w2.1
    obtain ⟨c3, e3, hF3, h3⟩ := add8 (x := 99) h2 (by omega) (by omega)
    have w3 := wA_k (x := 99) w2 (by omega)
    rw [f_X7_addProblem_62_s]
    unfold b_X7_addProblem_62
    rw [e0, gd_t (by omega), bq_n (by omega), e2, cl_s, e3, cl_s]
    obtain ⟨c5, e5, hF5, h5⟩ := pr84 (r := l) hq g hP ⟨h0, by omega⟩ (fun c5 => cl (f_X7_add th 60 c5) fun _ c6 => cv (f_X2_bound p l c6) fun v8 => cl (f_X7_addBound th v8 c6) fun _ c9 => f_X7_addProblem_62 th p κ f (l + 1) c9) (F 0).toNat LF 0 (a + 1 + 1) _ c3 (by omega) (by omega) (by rw [LF_g]; omega) ((hF.tr hF2).tr hF3) h3 w3 (by omega)
    have w5 : Wk (a + 13) (wCf F l T) := wCf_k g ⟨h0, by omega⟩ hk
    have h5' : WT th (wCf F l T) c5 := h5
    have k5 := w5.1
    rw [e5]
    try dsimp only
    obtain ⟨c6, e6, hF6, h6⟩ := add8 (x := 60) h5' (by omega) (by omega)
    have w6 := wA_k (x := 60) w5 (by omega)
    have hb := g.2.2.2.2 l h0 (by omega)
    have f6 : Fr (Tq th) c c6 := hF5.tr hF6
    have eb := bd8 (RepP_c hP (f6 p (by unfold Tq; omega)) (f6 _ (by unfold Tq; omega))) g (r := l) ⟨h0, by omega⟩
    obtain ⟨c9, e9, hF9, h9⟩ := bnd8w (b := F (22 + l)) h6 w6 (by omega) hb
    rw [e6, cl_s, eb, cv_s, e9, cl_s]
    obtain ⟨c10, e10, hF10, h10⟩ := ih f (l + 1) (a + 16) (wCn F l T) c9 (by omega) (by omega) (by omega) (f6.tr hF9) h9 (wCn_k g ⟨h0, by omega⟩ hk) (by omega)
    exact ⟨c10, e10, hF10, h10⟩
theorem addProblem8 (hq : p + 2 < th) (g : GdP F) (hP : RepP p F c) (h0 : c th 0 = 0) : ∃ c', f_X7_addProblem th p c = some (0, c') ∧ Fr (Tq th) c c' ∧ WT th (wPr F) c' := by
  have g0 := g.1; have g1 := g.2.1
  have h : WT th (0, fun _ => 0) c := ⟨h0, fun k x y => by
    have y2 : k < 0 := y
    omega⟩
  obtain ⟨c1, e1, hF1, h1⟩ := add8 (x := 118) h ⟨Int.le_refl 0, by show (0 : Int) < 80; omega⟩ (by omega)
  have r1 : c1 p 0 = F 0 := by rw [hF1 p (by unfold Tq; omega)]; exact hP.1
  obtain ⟨c3, e3, hF3, h3⟩ := add8 (x := 48 + F 0) h1 ⟨by show (0 : Int) ≤ 0 + 1; omega, by show (0 : Int) + 1 < 80; omega⟩ (by omega)
  obtain ⟨c5, e5, hF5, h5⟩ := add8 (x := 59) h3 ⟨by show (0 : Int) ≤ 0 + 1 + 1; omega, by show (0 : Int) + 1 + 1 < 80; omega⟩ (by omega)
  obtain ⟨c7, e7, hF7, h7⟩ := add8 (x := 109) h5 ⟨by show (0 : Int) ≤ 0 + 1 + 1 + 1; omega, by show (0 : Int) + 1 + 1 + 1 < 80; omega⟩ (by omega)
  have f7 : Fr (Tq th) c c7 := ((hF1.tr hF3).tr hF5).tr hF7
  obtain ⟨c9, e9, hF9, h9⟩ := pr36 hq g hP (fun c9 => f_X7_addProblem_62 th p (fun c10 => some (0, c10)) LF 0 c9) (F 0).toNat LF 0 4 (wH F) c7 (by omega) (by omega) (by rw [LF_g]; omega) f7 h7 (wH_k g) (by omega)
  obtain ⟨c10, e10, hF10, h10⟩ := pr62 hq g hP (fun c10 => some (0, c10)) (F 1).toNat LF 0 15 (wG F) c9 (by omega) (by omega) (by rw [LF_g]; omega) hF9 h9 (wG_k g) (by omega)
  unfold f_X7_addProblem
  rw [e1, cl_s, r1, e3, cl_s, e5, cl_s, e7, cl_s, e9]
  try dsimp only
  rw [e10]
  exact ⟨c10, rfl, hF10, h10⟩
end
/-! the reference -/
def WR (m : Nat) (F : Int → Int) (T : Tw) (c : W0) : Prop := c (m + 1) = F ∧ c m 22 = T.1 ∧ ∀ k, 0 ≤ k → k < T.1 → c (m + 14) k = T.2 k
def RW (m : Nat) (c c' : W0) : Prop := (∀ q, q ≠ m → q ≠ m + 14 → c' q = c q) ∧ ∀ i : Int, i ≠ 22 → c' m i = c m i
theorem RW.rf {m : Nat} {c : W0} : RW m c c := ⟨fun _ _ _ => rfl, fun _ _ => rfl⟩
theorem RW.tr {m : Nat} {c c1 c2 : W0} (h : RW m c c1) (h2 : RW m c1 c2) : RW m c c2 := ⟨fun q a b => (h2.1 q a b).trans (h.1 q a b), fun i a => (h2.2 i a).trans (h.2 i a)⟩
section
variable {m : Nat} {a : Int} {T : Tw} {F : Int → Int} {c : W0}
theorem wr9 {x : Int} (h : WR m F T c) (hT : 0 ≤ T.1 ∧ T.1 < 80) : ∃ c', f_X9_writes m x c = some (0, c') ∧ RW m c c' ∧ WR m F (wA T x) c' := by
  unfold f_X9_writes
  rw [h.2.1, gd_t hT]
  dsimp only [sto]
  refine ⟨_, rfl, ⟨fun q a b => by rw [upc_n a, upc_n b], fun i a => by rw [upc_s, updZ_n a, upc_n (by omega)]⟩, ?_, ?_, fun k y z => ?_⟩
  · rw [upc_n (by omega), upc_n (by omega)]; exact h.1
  · rw [upc_s, updZ_s, upc_n (by omega), h.2.1]
    rfl
  · have z2 : k < T.1 + 1 := z
    rw [upc_n (show m + 14 ≠ m by omega), upc_s]
    show _ = updZ T.2 T.1 x k
    by_cases e : k = T.1
    · rw [e, updZ_s, updZ_s]
    · rw [updZ_n e, updZ_n e]
      exact h.2.2 k y (by omega)
theorem wfs9 {place : Int} (g : GdP F) (hp : 0 ≤ place ∧ place ≤ 30) : ∀ (k fuel : Nat) (l : Int) (a : Int) (T : Tw) (c1 : W0), l + k = F 0 → 0 ≤ l → k + 1 ≤ fuel → (∀ v, l ≤ v → v < F 0 → B9 (F (place + v))) → WR m F T c1 → Wk a T → (a + 3 * k ≤ 80 ∨ (l ≤ 0 ∧ a + 3 * k ≤ 81)) → ∃ c', f_X9_writesFactors_2 m place (fun c1 => some (0, c1)) fuel l c1 = some (0, c') ∧ RW m c1 c' ∧ WR m F (wFs F place k l T) c' := by
  have g0 := g.1
  intro k
  induction k with
  | zero =>
    intro fuel l a T c1 hl h0 hf hv h hk ha
    obtain ⟨f, rfl⟩ : ∃ f, fuel = f + 1 := ⟨fuel - 1, by omega⟩
    rw [f_X9_writesFactors_2_s]
    unfold b_X9_writesFactors_2
    rw [h.1, gd_t (by omega), bq_p (by omega)]
    exact ⟨c1, rfl, RW.rf, h⟩
  | succ k ih =>
    intro fuel l a T c1 hl h0 hf hv h hk ha
    obtain ⟨f, rfl⟩ : ∃ f, fuel = f + 1 := ⟨fuel - 1, by omega⟩
    have hv0 := hv l (by omega) (by omega)
    have k1 := hk.1
    have hw := wFa_k (l := l) hk hv0
    -- behind the factor
    have rest : ∀ c2, RW m c1 c2 → WR m F (wFa T l (F (place + l))) c2 → ∃ c', f_X9_writesFactors_2 m place (fun c1 => some (0, c1)) f (l + 1) c2 = some (0, c') ∧ RW m c1 c' ∧ WR m F (wFs F place (k + 1) l T) c' := fun c2 hF2 h2 => by
      by_cases y : l ≤ 0
      · obtain ⟨c3, e3, hF3, h3⟩ := ih f (l + 1) (a + 2) _ c2 (by omega) (by omega) (by omega) (fun v x y => hv v (by omega) y) h2 (hw.2 y) (by omega)
        exact ⟨c3, e3, hF2.tr hF3, h3⟩
      · obtain ⟨c3, e3, hF3, h3⟩ := ih f (l + 1) (a + 3) _ c2 (by omega) (by omega) (by omega) (fun v x y => hv v (by omega) y) h2 hw.1 (by omega)
        exact ⟨c3, e3, hF2.tr hF3, h3⟩
    have mid : ∀ (c2 : W0) (T1 : Tw), wC T l = T1 → RW m c1 c2 → WR m F T1 c2 → (0 ≤ T1.1 ∧ T1.1 + 2 ≤ 80) → ∃ c', (gd (0 ≤ (place + l) ∧ (place + l) < 34) <|
        gd (R32 (c2 (m + 1) (place + l))) <|
        jn (fun (c4 : W0) =>
            gd (R32 (c2 (m + 1) (place + l))) <|
            bq (0 ≤ (c2 (m + 1) (place + l))) (
              cl (f_X9_writes m (48 + (c2 (m + 1) (place + l))) c4) fun _ c5 =>
              f_X9_writesFactors_2 m place (fun c1 => some (0, c1)) f (l + 1) c5) (
              cl (f_X9_writes m (48 + (-(c2 (m + 1) (place + l)))) c4) fun _ c7 =>
              f_X9_writesFactors_2 m place (fun c1 => some (0, c1)) f (l + 1) c7)) fun k3 =>
        bq (0 ≤ (c2 (m + 1) (place + l))) (
          k3 c2) (
          cl (f_X9_writes m 45 c2) fun _ c9 =>
          k3 c9)) = some (0, c') ∧ RW m c1 c' ∧ WR m F (wFs F place (k + 1) l T) c' := by
      intro c2 T1 hc hF2 h2 hT1
      rw [h2.1, gd_t (by omega), gd_t (by omega), jn_e]
      by_cases y : 0 ≤ F (place + l)
      · have em : wFa T l (F (place + l)) = wA T1 (48 + F (place + l)) := by
          unfold wFa wM
          rw [hc, if_pos y, if_pos y]
        obtain ⟨c3, e3, hF3, h3⟩ := wr9 (x := 48 + F (place + l)) h2 (by omega)
        rw [bq_p y]
        try dsimp only
        rw [gd_t (by omega), bq_p y, e3, cl_s]
        exact rest c3 (hF2.tr hF3) (by rw [em]; exact h3)
      · have em : wFa T l (F (place + l)) = wA (wA T1 45) (48 + -F (place + l)) := by
          unfold wFa wM
          rw [hc, if_neg y, if_neg y]
        obtain ⟨c3, e3, hF3, h3⟩ := wr9 (x := 45) h2 (by omega)
        obtain ⟨c4, e4, hF4, h4⟩ := wr9 (x := 48 + -F (place + l)) h3 ⟨by show 0 ≤ T1.1 + 1; omega, by show T1.1 + 1 < 80; omega⟩
        rw [bq_n y, e3, cl_s]
        try dsimp only
        rw [gd_t (by omega), bq_n y, e4, cl_s]
        exact rest c4 ((hF2.tr hF3).tr hF4) (by rw [em]; exact h4)
    rw [f_X9_writesFactors_2_s]
    unfold b_X9_writesFactors_2
    rw [h.1, gd_t (by omega), bq_n (by omega), gd_t (by omega), jn_e]
    by_cases y : l ≤ 0
    · rw [bq_p y]
      exact mid c1 T (if_pos y) RW.rf h (by omega)
    · obtain ⟨c3, e3, hF3, h3⟩ := wr9 (x := 44) h (by omega)
      rw [bq_n y, e3, cl_s]
      exact mid c3 (wA T 44) (if_neg y) hF3 h3 ⟨by show 0 ≤ T.1 + 1; omega, by show T.1 + 1 + 2 ≤ 80; omega⟩
theorem wcs9 (g : GdP F) : ∀ (k fuel : Nat) (l : Int) (a : Int) (T : Tw) (c1 : W0), l + k = F 1 → 0 ≤ l → k + 1 ≤ fuel → WR m F T c1 → Wk a T → a + 16 * k ≤ 79 → ∃ c', f_X9_writesProblem_43 m (fun c12 => some (0, c12)) fuel l c1 = some (0, c') ∧ RW m c1 c' ∧ WR m F (wCs F k l T) c' := by
  have g0 := g.1; have g1 := g.2.1
  intro k
  induction k with
  | zero =>
    intro fuel l a T c1 hl h0 hf h hk ha
    obtain ⟨f, rfl⟩ : ∃ f, fuel = f + 1 := ⟨fuel - 1, by omega⟩
    rw [f_X9_writesProblem_43_s]
    unfold b_X9_writesProblem_43
    rw [h.1, gd_t (by omega), bq_p (by omega)]
    exact ⟨c1, rfl, RW.rf, h⟩
  | succ k ih =>
    intro fuel l a T c1 hl h0 hf h hk ha
    obtain ⟨f, rfl⟩ : ∃ f, fuel = f + 1 := ⟨fuel - 1, by omega⟩
    have k1 := hk.1
    obtain ⟨c2, e2, hF2, h2⟩ := wr9 (x := 59) h (by omega)
    have w2 := wA_k (x := 59) hk (by omega)
    have k2 := w2.1
    obtain ⟨c3, e3, hF3, h3⟩ := wr9 (x := 99) h2 (by omega)
    have w3 := wA_k (x := 99) w2 (by omega)
    obtain ⟨c5, e5, hF5, h5⟩ := wfs9 (place := 6 + 4 * l) g (by omega) (F 0).toNat LF 0 (a + 1 + 1) _ c3 (by omega) (by omega) (by rw [LF_g]; omega) (fun v x y => g.2.2.2.1 l v h0 (by omega) x (by omega)) h3 w3 (by omega)
    have w5 : Wk (a + 13) (wCf F l T) := wCf_k g ⟨h0, by omega⟩ hk
    have h5' : WR m F (wCf F l T) c5 := h5
    have k5 := w5.1
    obtain ⟨c7, e7, hF7, h7⟩ := wr9 (x := 60) h5' (by omega)
    have w7 := wA_k (x := 60) w5 (by omega)
    have k7 := w7.1
    have hb := g.2.2.2.2 l h0 (by omega)
    have ht := tdm hb
    have wn := wCn_k (T := T) g ⟨h0, by omega⟩ hk
    have f7 : RW m c1 c7 := ((hF2.tr hF3).tr hF5).tr hF7
    rw [f_X9_writesProblem_43_s]
    unfold b_X9_writesProblem_43
    rw [h.1, gd_t (by omega), bq_n (by omega), e2, cl_s, e3, cl_s]
    unfold f_X9_writesFactors
    rw [e5, cl_s, e7, cl_s, h7.1, gd_t (by omega), gd_t (by omega), jn_e]
    by_cases y : F (22 + l) ≤ 9
    · have ed : wD (wA (wCf F l T) 60) (F (22 + l)) = wA (wCf F l T) 60 := if_pos y
      obtain ⟨c8, e8, hF8, h8⟩ := wr9 (x := 48 + Int.tmod (F (22 + l)) 10) h7 (by omega)
      obtain ⟨c9, e9, hF9, h9⟩ := ih f (l + 1) (a + 16) (wCn F l T) c8 (by omega) (by omega) (by omega) (by unfold wCn wBd; rw [ed]; exact h8) wn (by omega)
      rw [bq_p y]
      try dsimp only
      rw [gd_t (by omega), h7.1, gd_t (by omega), e8, cl_s]
      exact ⟨c9, e9, (f7.tr hF8).tr hF9, h9⟩
    · have ed : wD (wA (wCf F l T) 60) (F (22 + l)) = wA (wA (wCf F l T) 60) (48 + Int.tdiv (F (22 + l)) 10) := if_neg y
      obtain ⟨c8, e8, hF8, h8⟩ := wr9 (x := 48 + Int.tdiv (F (22 + l)) 10) h7 (by omega)
      obtain ⟨c9, e9, hF9, h9⟩ := wr9 (x := 48 + Int.tmod (F (22 + l)) 10) h8 ⟨by show 0 ≤ (wA (wCf F l T) 60).1 + 1; omega, by show (wA (wCf F l T) 60).1 + 1 < 80; omega⟩
      obtain ⟨c10, e10, hF10, h10⟩ := ih f (l + 1) (a + 16) (wCn F l T) c9 (by omega) (by omega) (by omega) (by unfold wCn wBd; rw [ed]; exact h9) wn (by omega)
      rw [bq_n y, gd_t (by omega), gd_t (by omega), e8, cl_s]
      try dsimp only
      rw [gd_t (by omega), h8.1, gd_t (by omega), e9, cl_s]
      exact ⟨c10, e10, ((f7.tr hF8).tr hF9).tr hF10, h10⟩
theorem wpr9 (g : GdP F) (hF : c (m + 1) = F) : ∃ c', f_X9_writesProblem m c = some (0, c') ∧ RW m c c' ∧ WR m F (wPr F) c' := by
  have g0 := g.1; have g1 := g.2.1
  unfold f_X9_writesProblem
  dsimp only [sto]
  have hR0 : RW m c (upc c m (updZ (c m) 22 0)) := ⟨fun q a _ => upc_n a, fun i a => by rw [upc_s, updZ_n a]⟩
  have h : WR m F (0, fun _ => 0) (upc c m (updZ (c m) 22 0)) := ⟨by rw [upc_n (by omega)]; exact hF, by rw [upc_s, updZ_s], fun k x y => by
    have y2 : k < 0 := y
    omega⟩
  generalize upc c m (updZ (c m) 22 0) = c0 at *
  obtain ⟨c1, e1, hF1, h1⟩ := wr9 (x := 118) h ⟨Int.le_refl 0, by show (0 : Int) < 80; omega⟩
  obtain ⟨c3, e3, hF3, h3⟩ := wr9 (x := 48 + F 0) h1 ⟨by show (0 : Int) ≤ 0 + 1; omega, by show (0 : Int) + 1 < 80; omega⟩
  obtain ⟨c5, e5, hF5, h5⟩ := wr9 (x := 59) h3 ⟨by show (0 : Int) ≤ 0 + 1 + 1; omega, by show (0 : Int) + 1 + 1 < 80; omega⟩
  obtain ⟨c7, e7, hF7, h7⟩ := wr9 (x := 109) h5 ⟨by show (0 : Int) ≤ 0 + 1 + 1 + 1; omega, by show (0 : Int) + 1 + 1 + 1 < 80; omega⟩
  obtain ⟨c9, e9, hF9, h9⟩ := wfs9 (place := 2) g (by omega) (F 0).toNat LF 0 4 (wH F) c7 (by omega) (by omega) (by rw [LF_g]; omega) (fun v x y => g.2.2.1 v x (by omega)) h7 (wH_k g) (by omega)
  obtain ⟨c10, e10, hF10, h10⟩ := wcs9 g (F 1).toNat LF 0 15 (wG F) c9 (by omega) (by omega) (by rw [LF_g]; omega) h9 (wG_k g) (by omega)
  rw [e1, cl_s, h1.1, e3, cl_s, e5, cl_s, e7, cl_s]
  unfold f_X9_writesFactors
  rw [e9, cl_s, e10]
  exact ⟨c10, rfl, (((((hR0.tr hF1).tr hF3).tr hF5).tr hF7).tr hF9).tr hF10, h10⟩
end
/-! the calls -/
section
variable {d m : Nat} {z : St} {K : Int}
def wrS (z : St) : St := wb z (wPr z.1).1 (wPr z.1).2
theorem wr_li (hL : LI K z) (h : (wPr z.1).1 ≤ 60) : LI K (wrS z) := by
  have hk := wPr_k hL.1.1
  exact LI_b hL ⟨hk.1.1, h⟩ hk.2
theorem c8_write (hL : LI K z) : ((wPr z.1).1 ≤ 60 → ClX d z (f_X8_write d) 0 (wPr z.1).1 (wrS z)) ∧ (¬ (wPr z.1).1 ≤ 60 → ClX d z (f_X8_write d) 2 0 z) := by
  have hk := wPr_k hL.1.1
  have k1 := hk.1
  have main : ∀ c, CI d z c → ∃ c3, f_X7_addProblem (d + 32) (d + 2) (upc c (d + 32) (updZ (c (d + 32)) 0 0)) = some (0, c3) ∧ Fr (Tq (d + 32)) c c3 ∧ WT (d + 32) (wPr z.1) c3 := fun c hC => by
    obtain ⟨c3, e3, hF3, h3⟩ := addProblem8 (th := d + 32) (p := d + 2) (F := z.1) (c := upc c (d + 32) (updZ (c (d + 32)) 0 0)) (by omega) hL.1.1 (RepP_c hC.1.1 (upc_n (by omega)) (upc_n (by omega))) (by rw [upc_s, updZ_s])
    exact ⟨c3, e3, Fr.tr (Fr.up (Or.inl rfl)) hF3, h3⟩
  refine ⟨fun h c hC => ?_, fun h c hC => ?_⟩
  · obtain ⟨c3, e3, hF3, h3⟩ := main c hC
    unfold f_X8_write f_X7_clear
    dsimp only [sto]
    rw [cl_s, e3, cl_s, h3.1, gd_t (by omega), bq_p h]
    unfold f_X7_copy
    dsimp only [sto, stw]
    rw [cl_s, h3.1, upc_n (show d + 29 ≠ d + 29 + 2 by omega), upc_s, updZ_s]
    have nc : ∀ q, d ≤ q → q < d + 105 → (q < d + 29 ∨ d + 35 ≤ q) → c3 q = c q := fun q a b x => hF3 q (by unfold Tq; omega)
    refine ⟨_, rfl, fun q hq => by rw [upc_n (by omega), upc_n (by omega), hF3 q (by unfold Tq; omega)], ?_⟩
    obtain ⟨j1, j2, j3, j4, j5⟩ := hC
    refine ⟨RepS_fr j1 (fun q a b => by rw [upc_n (by omega), upc_n (by omega), nc q (by omega) (by omega) (by omega)]), SvC_fr j2 (by rw [upc_n (by omega), upc_n (by omega), nc d (by omega) (by omega) (by omega)]) (by rw [upc_n (by omega), upc_n (by omega), nc _ (by omega) (by omega) (by omega)]) (fun q a b => by rw [upc_n (by omega), upc_n (by omega), nc q (by omega) (by omega) (by omega)]), ⟨by rw [upc_n (by omega), upc_n (by omega), nc d (by omega) (by omega) (by omega)]; exact j3.1, fun hz => RepS_fr (j3.2 hz) (fun q a b => by rw [upc_n (by omega), upc_n (by omega), nc q (by omega) (by omega) (by omega)])⟩, ?_, fun k a b => ?_⟩
    · rw [upc_n (by omega), upc_s, updZ_s]
      rfl
    · show upc (upc c3 (d + 29) (updZ (c3 (d + 29)) 0 (wPr z.1).1)) (d + 29 + 2) _ (d + 29 + 2) k = (wPr z.1).2 k
      rw [upc_s, upc_n (by omega)]
      exact h3.2 k a b
  · obtain ⟨c3, e3, hF3, h3⟩ := main c hC
    unfold f_X8_write f_X7_clear
    dsimp only [sto]
    rw [cl_s, e3, cl_s, h3.1, gd_t (by omega), bq_n h]
    exact ⟨c3, rfl, fun q hq => hF3 q (by unfold Tq; omega), CI_f2 hC (fun q a b x => hF3 q (by unfold Tq; omega))⟩
theorem m9_write (hL : LI K z) : ((wPr z.1).1 ≤ 60 → Mo m z (f_X9_write m) 0 (wPr z.1).1 (wrS z)) ∧ (¬ (wPr z.1).1 ≤ 60 → Mo m z (f_X9_write m) 1 0 z) := by
  have hk := wPr_k hL.1.1
  have k1 := hk.1
  have mi : ∀ c c', MI m z c → RW m c c' → FrM m c c' ∧ MI m z c' := fun c c' hM h => ⟨fun q a => h.1 q (by omega) (by omega), MI_sc hM (h.1 _ (by omega) (by omega)) (h.1 _ (by omega) (by omega)) (h.1 _ (by omega) (by omega)) (h.1 _ (by omega) (by omega)) (h.2 4 (by decide)) (h.2 6 (by decide)) (h.2 8 (by decide))⟩
  refine ⟨fun h c hM => ?_, fun h c hM => ?_⟩
  · obtain ⟨c1, e1, hF1, h1⟩ := wpr9 (m := m) hL.1.1 hM.1
    obtain ⟨hFM, hM1⟩ := mi c c1 hM hF1
    unfold f_X9_write
    rw [e1, cl_s, h1.2.1, gd_t (by omega), jn_e, bq_p h]
    try dsimp only
    rw [holds9 (by omega), cl_s, if_pos rfl, gd_t (by omega), bq_n (by omega)]
    have hM6 : MI m z (upc c1 m (updZ (c1 m) 0 0)) := MI_t hM1
    have t6 : upc c1 m (updZ (c1 m) 0 0) m 0 = 0 := by rw [upc_s, updZ_s]
    have q6 : ∀ q, q ≠ m → upc c1 m (updZ (c1 m) 0 0) q = c1 q := fun q a => upc_n a
    have i22 : upc c1 m (updZ (c1 m) 0 0) m 22 = (wPr z.1).1 := by rw [upc_s, updZ_n (by decide)]; exact h1.2.1
    generalize upc c1 m (updZ (c1 m) 0 0) = c6 at *
    have L : ∀ (κ : W0 → Option (Int × W0)) (k fuel : Nat) (l : Int) (c7 : W0), l + k = (wPr z.1).1 → 0 ≤ l → k + 1 ≤ fuel → Fr (fun q => q = m + 5) c6 c7 → (∀ i, 0 ≤ i → i < l → c7 (m + 5) i = (wPr z.1).2 i) → ∃ c8, f_X9_write_29 m κ fuel l c7 = κ c8 ∧ Fr (fun q => q = m + 5) c6 c8 ∧ ∀ i, 0 ≤ i → i < (wPr z.1).1 → c8 (m + 5) i = (wPr z.1).2 i := by
      intro κ k
      induction k with
      | zero =>
        intro fuel l c7 hl h0 hf hFr hI
        obtain ⟨f, rfl⟩ : ∃ f, fuel = f + 1 := ⟨fuel - 1, by omega⟩
        rw [f_X9_write_29_s]
        unfold b_X9_write_29
        rw [hFr m (by omega), i22, gd_t (by omega), bq_p (by omega)]
        exact ⟨c7, rfl, hFr, fun i a b => hI i a (by omega)⟩
      | succ k ih =>
        intro fuel l c7 hl h0 hf hFr hI
        obtain ⟨f, rfl⟩ : ∃ f, fuel = f + 1 := ⟨fuel - 1, by omega⟩
        rw [f_X9_write_29_s]
        unfold b_X9_write_29
        rw [hFr m (by omega), i22, gd_t (by omega), bq_n (by omega), gd_t (by omega), gd_t (by omega)]
        dsimp only [sto]
        refine ih f (l + 1) _ (by omega) (by omega) (by omega) (hFr.tr (Fr.up rfl)) (fun i a b => ?_)
        rw [upc_s]
        by_cases e : i = l
        · rw [e, updZ_s, hFr _ (by omega), q6 _ (by omega)]
          exact h1.2.2 l h0 (by omega)
        · rw [updZ_n e]; exact hI i a (by omega)
    obtain ⟨c8, e8, hF8, h8⟩ := L (fun c7 => sto c7 m 8 (c7 m 22) fun c8 => some ((c8 m 8), c8)) (wPr z.1).1.toNat LF 0 c6 (by omega) (by omega) (by rw [LF_g]; omega) Fr.rf (fun i a b => by omega)
    have em : c8 m = c6 m := hF8 m (by omega)
    rw [e8]
    dsimp only [sto]
    rw [upc_s, updZ_s, em, i22]
    refine ⟨_, rfl, fun q hq => ?_, MI_b hM6 (fun q a b => by rw [upc_n a, hF8 q b]) (by rw [upc_s, updZ_n (by decide)]) (by rw [upc_s, updZ_n (by decide)]) (by rw [upc_s, updZ_s]) (fun k a b => by rw [upc_n (by omega)]; exact h8 k a b), by rw [upc_s, updZ_n (by decide)]; exact t6⟩
    rw [upc_n (by omega), hF8 q (by omega), q6 q (by omega)]
    exact hFM q hq
  · obtain ⟨c1, e1, hF1, h1⟩ := wpr9 (m := m) hL.1.1 hM.1
    obtain ⟨hFM, hM1⟩ := mi c c1 hM hF1
    unfold f_X9_write
    rw [e1, cl_s, h1.2.1, gd_t (by omega), jn_e, bq_n h]
    try dsimp only
    rw [holds9 (by omega), cl_s, if_neg (by omega), gd_t (by omega), bq_p rfl]
    exact ⟨_, rfl, FrM.tr hFM FrM_t, MI_t hM1, by rw [upc_s, updZ_s]⟩
end
end TE
