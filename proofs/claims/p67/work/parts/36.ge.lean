section GE
variable {d m : Nat} {z : St} {K : Int}
/-! calls that change nothing that counts -/
def Q0 (m : Nat) (c c1 : W0) : Prop := (∀ q, q ≠ m → ¬ P7 m q → c1 q = c q) ∧ ∀ i : Int, i ≠ 0 → i ≠ 16 → i ≠ 17 → c1 m i = c m i
theorem Q0.rf {c : W0} : Q0 m c c := ⟨fun _ _ _ => rfl, fun _ _ _ _ => rfl⟩
theorem Q0.tr {c c1 c2 : W0} (h : Q0 m c c1) (h2 : Q0 m c1 c2) : Q0 m c c2 := ⟨fun q a b => (h2.1 q a b).trans (h.1 q a b), fun i a b e => (h2.2 i a b e).trans (h.2 i a b e)⟩
theorem Q0.q {P : Nat → Prop} {c c1 : W0} (h : Qs m P c c1) (hP : ∀ q, P q → P7 m q) : Q0 m c c1 := ⟨fun q a b => h.1 q a (fun e => b (hP q e)), fun i _ b e => h.2 i b e⟩
theorem Q0.t {c : W0} {t : Int} : Q0 m c (upc c m (updZ (c m) 0 t)) := ⟨fun q a _ => upc_n a, fun i a _ _ => by rw [upc_s, updZ_n a]⟩
theorem Q0.f {c : W0} {x y : Int} : Q0 m c (fs c m x y) := ⟨fun q a _ => fs_n a, fun i _ b e => fs_i ⟨b, e⟩⟩
theorem tz_0 {c : W0} {t : Int} : (upc c m (updZ (c m) 0 t)) m 0 = t := by rw [upc_s, updZ_s]
theorem tz_q {c : W0} {t : Int} {q : Nat} (h : q ≠ m) : (upc c m (updZ (c m) 0 t)) q = c q := upc_n h
theorem MI_q0 {c c1 : W0} (h : MI m z c) (hQ : Q0 m c c1) : MI m z c1 ∧ FrM m c c1 := ⟨MI_sc h (hQ.1 _ (by omega) (by unfold P7; omega)) (hQ.1 _ (by omega) (by unfold P7; omega)) (hQ.1 _ (by omega) (by unfold P7; omega)) (hQ.1 _ (by omega) (by unfold P7; omega)) (hQ.2 4 (by decide) (by decide) (by decide)) (hQ.2 6 (by decide) (by decide) (by decide)) (hQ.2 8 (by decide) (by decide) (by decide)), fun q hq => hQ.1 q (by omega) (by unfold P7; omega)⟩
theorem Mo_q {f : W0 → Option (Int × W0)} {t v : Int} (h : ∀ c, MI m z c → ∃ c1, f c = some (v, c1) ∧ Q0 m c c1 ∧ c1 m 0 = t) : Mo m z f t v z := fun c hM => by
  obtain ⟨c1, e, hQ, ht⟩ := h c hM
  obtain ⟨a, b⟩ := MI_q0 hM hQ
  exact ⟨c1, e, b, a, ht⟩
/-- the error's sign first, then what reads -/
theorem Mo_s {f : W0 → Option (Int × W0)} {t v : Int} (h : ∀ c, MI m z c → ∃ c1, f c = some (v, c1) ∧ Qs m (P7 m) (upc c m (updZ (c m) 0 t)) c1) : Mo m z f t v z := Mo_q (fun c hM => by
  obtain ⟨c1, e, hQ⟩ := h c hM
  exact ⟨c1, e, Q0.t.tr (Q0.q hQ (fun _ a => a)), (hQ.2 0 (by decide) (by decide)).trans tz_0⟩)
theorem ClX_v {f : W0 → Option (Int × Int × W0)} {e v : Int} (h : ∀ c, CI d z c → f c = some (e, v, c)) : ClX d z f e v z := fun c hC => ⟨c, h c hC, FrD.rf, hC⟩
theorem reqR8 {F : Int → Int} {c : W0} {k : Int} (hT : RepT (d + 5) F c) (g : GdP F) (hk : R32 k) : (0 ≤ k ∧ k < F 1 ∧ f_X8_requireRow d k c = some (0, 0, c)) ∨ (¬ (0 ≤ k ∧ k < F 1) ∧ f_X8_requireRow d k c = some (3, 0, c)) := by
  have g0 := g.2.1
  unfold f_X8_requireRow
  simp only [jn]
  rw [hT.1, gd_t hk]
  by_cases h : k < 0
  · rw [bq_p h]; exact Or.inr ⟨by omega, rfl⟩
  · rw [bq_n h, gd_t ⟨hk, by omega⟩]
    by_cases h2 : k < F 1
    · rw [bq_p h2]; exact Or.inl ⟨by omega, h2, rfl⟩
    · rw [bq_n h2]; exact Or.inr ⟨by omega, rfl⟩
theorem reqK8 {F : Int → Int} {c : W0} {k : Int} (hT : RepT (d + 5) F c) (g : GdP F) (hk : R32 k) : (0 ≤ k ∧ k < F 0 + F 1 ∧ f_X8_requireColumn d k c = some (0, 0, c)) ∨ (¬ (0 ≤ k ∧ k < F 0 + F 1) ∧ f_X8_requireColumn d k c = some (3, 0, c)) := by
  have g0 := g.2.1; have g1 := g.1
  unfold f_X8_requireColumn
  simp only [jn]
  rw [hT.2.1, gd_t hk]
  by_cases h : k < 0
  · rw [bq_p h]; exact Or.inr ⟨by omega, rfl⟩
  · rw [bq_n h, gd_t ⟨hk, by omega⟩]
    by_cases h2 : k < F 0 + F 1
    · rw [bq_p h2]; exact Or.inl ⟨by omega, h2, rfl⟩
    · rw [bq_n h2]; exact Or.inr ⟨by omega, rfl⟩
/-- a place of the tableau, or what the class throws -/
def Plc (F : Int → Int) (p q : Int) : Prop := (0 ≤ p ∧ p < F 1) ∧ 0 ≤ q ∧ q < F 0 + F 1
theorem rqP8 {F : Int → Int} {c : W0} {p q : Int} (hT : RepT (d + 5) F c) (g : GdP F) (hp : R32 p) (hq : R32 q) (κ : Int → W0 → Option (Int × Int × W0)) : (Plc F p q → (cx (f_X8_requireRow d p c) fun _ c1 => cx (f_X8_requireColumn d q c1) κ) = κ 0 c) ∧ (¬ Plc F p q → (cx (f_X8_requireRow d p c) fun _ c1 => cx (f_X8_requireColumn d q c1) κ) = some (3, 0, c)) := by
  unfold Plc
  rcases reqR8 hT g hp with ⟨a, b, e⟩ | ⟨a, e⟩
  · rw [e, cx_s]
    rcases reqK8 hT g hq with ⟨a2, b2, e2⟩ | ⟨a2, e2⟩
    · rw [e2, cx_s]
      exact ⟨fun _ => rfl, fun h => absurd ⟨⟨a, b⟩, a2, b2⟩ h⟩
    · rw [e2, cx_x (by decide)]
      exact ⟨fun h => absurd h.2 a2, fun _ => rfl⟩
  · rw [e, cx_x (by decide)]
    exact ⟨fun h => absurd h.1 a, fun _ => rfl⟩
theorem rqK8 {F : Int → Int} {c : W0} {q : Int} (hT : RepT (d + 5) F c) (g : GdP F) (hq : R32 q) (κ : Int → W0 → Option (Int × Int × W0)) : ((0 ≤ q ∧ q < F 0 + F 1) → (cx (f_X8_requireColumn d q c) κ) = κ 0 c) ∧ (¬ (0 ≤ q ∧ q < F 0 + F 1) → (cx (f_X8_requireColumn d q c) κ) = some (3, 0, c)) := by
  rcases reqK8 hT g hq with ⟨a2, b2, e2⟩ | ⟨a2, e2⟩
  · rw [e2, cx_s]
    exact ⟨fun _ => rfl, fun h => absurd ⟨a2, b2⟩ h⟩
  · rw [e2, cx_x (by decide)]
    exact ⟨fun h => absurd h a2, fun _ => rfl⟩
theorem rqR8 {F : Int → Int} {c : W0} {q : Int} (hT : RepT (d + 5) F c) (g : GdP F) (hq : R32 q) (κ : Int → W0 → Option (Int × Int × W0)) : ((0 ≤ q ∧ q < F 1) → (cx (f_X8_requireRow d q c) κ) = κ 0 c) ∧ (¬ (0 ≤ q ∧ q < F 1) → (cx (f_X8_requireRow d q c) κ) = some (3, 0, c)) := by
  rcases reqR8 hT g hq with ⟨a2, b2, e2⟩ | ⟨a2, e2⟩
  · rw [e2, cx_s]
    exact ⟨fun _ => rfl, fun h => absurd ⟨a2, b2⟩ h⟩
  · rw [e2, cx_x (by decide)]
    exact ⟨fun h => absurd h a2, fun _ => rfl⟩
theorem rqC8 {F : Int → Int} {c : W0} {q : Int} (hP : RepP (d + 2) F c) (g : GdP F) (hq : R32 q) (κ : Int → W0 → Option (Int × Int × W0)) : ((0 ≤ q ∧ q < F 1) → (cx (f_X8_requireConstraint d q c) κ) = κ 0 c) ∧ (¬ (0 ≤ q ∧ q < F 1) → (cx (f_X8_requireConstraint d q c) κ) = some (3, 0, c)) := by
  rcases reqC8 hP g hq with ⟨a2, b2, e2⟩ | ⟨a2, e2⟩
  · rw [e2, cx_s]
    exact ⟨fun _ => rfl, fun h => absurd ⟨a2, b2⟩ h⟩
  · rw [e2, cx_x (by decide)]
    exact ⟨fun h => absurd h a2, fun _ => rfl⟩
theorem rqV8 {F : Int → Int} {c : W0} {q : Int} (hP : RepP (d + 2) F c) (g : GdP F) (hq : R32 q) (κ : Int → W0 → Option (Int × Int × W0)) : ((0 ≤ q ∧ q < F 0) → (cx (f_X8_requireVariable d q c) κ) = κ 0 c) ∧ (¬ (0 ≤ q ∧ q < F 0) → (cx (f_X8_requireVariable d q c) κ) = some (3, 0, c)) := by
  rcases reqV8 hP g hq with ⟨a2, b2, e2⟩ | ⟨a2, e2⟩
  · rw [e2, cx_s]
    exact ⟨fun _ => rfl, fun h => absurd ⟨a2, b2⟩ h⟩
  · rw [e2, cx_x (by decide)]
    exact ⟨fun h => absurd h a2, fun _ => rfl⟩
/-- the reference: a test, the error's sign, then k -/
theorem tst9 {v : Int} {P : Prop} {c : W0} (hv : (v = 1 ∧ P) ∨ (v = 0 ∧ ¬ P)) (k : Int → W0 → Option (Int × W0)) : (P → (gd (R32 v) <| jn (fun (v3 : Int) => cl (f_X9_holds m v3 c) k) fun k2 => bq (v = 0) (k2 1) (k2 0)) = k 1 (upc c m (updZ (c m) 0 0))) ∧ (¬ P → (gd (R32 v) <| jn (fun (v3 : Int) => cl (f_X9_holds m v3 c) k) fun k2 => bq (v = 0) (k2 1) (k2 0)) = k 0 (upc c m (updZ (c m) 0 1))) := by
  simp only [jn]
  rcases hv with ⟨rfl, h⟩ | ⟨rfl, h⟩
  · rw [gd_t (by omega), bq_n (by omega), holds9 (by omega), cl_s, if_pos rfl]
    exact ⟨fun _ => rfl, fun z => absurd h z⟩
  · rw [gd_t (by omega), bq_p rfl, holds9 (by omega), cl_s, if_neg (by omega)]
    exact ⟨fun z => absurd z h, fun _ => rfl⟩
/-! getters -/
theorem c8_savedStates {c : W0} (hC : CI d z c) : f_X8_savedStates d c = some z.2.1 := by
  unfold f_X8_savedStates
  rw [hC.2.1.2.1]
theorem c8_variables {c : W0} (hC : CI d z c) : f_X8_variables d c = some (z.1 0) := by
  unfold f_X8_variables
  rw [hC.1.1.1]
theorem c8_constraints {c : W0} (hC : CI d z c) : f_X8_constraints d c = some (z.1 1) := by
  unfold f_X8_constraints
  rw [hC.1.1.2.1]
theorem c8_rule {c : W0} (hC : CI d z c) : f_X8_rule d c = some (z.1 26) := by
  unfold f_X8_rule
  rw [hC.1.2.2.1]
theorem c8_pivots {c : W0} (hC : CI d z c) : f_X8_pivots d c = some (z.1 31) := by
  unfold f_X8_pivots
  rw [hC.1.2.2.2.1]
theorem c8_allPivots {c : W0} (hC : CI d z c) : f_X8_allPivots d c = some (z.1 32) := by
  unfold f_X8_allPivots
  rw [hC.1.2.2.2.2.1]
theorem c8_idlePivots {c : W0} (hC : CI d z c) : f_X8_idlePivots d c = some (z.1 33) := by
  unfold f_X8_idlePivots
  rw [hC.1.2.2.2.2.2]
theorem m9_savedStates : Mo m z (f_X9_savedStates m) 0 z.2.1 z := Mo_s (fun c hM => by
  unfold f_X9_savedStates
  simp only [sto]
  rw [upc_s, updZ_n (by decide), hM.2.1.1]
  exact ⟨_, rfl, Qs.rf⟩)
theorem m9_variables : Mo m z (f_X9_variables m) 0 (z.1 0) z := Mo_s (fun c hM => by
  unfold f_X9_variables
  simp only [sto]
  rw [tz_q (by omega), hM.1]
  exact ⟨_, rfl, Qs.rf⟩)
theorem m9_constraints : Mo m z (f_X9_constraints m) 0 (z.1 1) z := Mo_s (fun c hM => by
  unfold f_X9_constraints
  simp only [sto]
  rw [tz_q (by omega), hM.1]
  exact ⟨_, rfl, Qs.rf⟩)
theorem m9_rule : Mo m z (f_X9_rule m) 0 (z.1 26) z := Mo_s (fun c hM => by
  unfold f_X9_rule
  simp only [sto]
  rw [tz_q (by omega), hM.1]
  exact ⟨_, rfl, Qs.rf⟩)
theorem m9_pivots : Mo m z (f_X9_pivots m) 0 (z.1 31) z := Mo_s (fun c hM => by
  unfold f_X9_pivots
  simp only [sto]
  rw [tz_q (by omega), hM.1]
  exact ⟨_, rfl, Qs.rf⟩)
theorem m9_allPivots : Mo m z (f_X9_allPivots m) 0 (z.1 32) z := Mo_s (fun c hM => by
  unfold f_X9_allPivots
  simp only [sto]
  rw [tz_q (by omega), hM.1]
  exact ⟨_, rfl, Qs.rf⟩)
theorem m9_idlePivots : Mo m z (f_X9_idlePivots m) 0 (z.1 33) z := Mo_s (fun c hM => by
  unfold f_X9_idlePivots
  simp only [sto]
  rw [tz_q (by omega), hM.1]
  exact ⟨_, rfl, Qs.rf⟩)
theorem c8_profitOf (hL : LI K z) {p : Int} (hp : R32 p) : ((0 ≤ p ∧ p < z.1 0) → ClX d z (f_X8_profitOf d p) 0 (z.1 (2 + p)) z) ∧ (¬ (0 ≤ p ∧ p < z.1 0) → ClX d z (f_X8_profitOf d p) 3 0 z) := by
  have g := hL.1.1; have g0 := g.1
  refine ⟨fun h => ClX_v (fun c hC => ?_), fun h => ClX_v (fun c hC => ?_)⟩
  · unfold f_X8_profitOf
    rw [(rqV8 hC.1.1 g hp _).1 h]
    unfold f_X2_profit
    try dsimp only
    rw [gd_t (by omega), cv_s, hC.1.1.2.2.2.1 p h.1 (by omega)]
  · unfold f_X8_profitOf
    rw [(rqV8 hC.1.1 g hp _).2 h]
theorem m9_profitOf (hL : LI K z) {p : Int} (hp : R32 p) : ((0 ≤ p ∧ p < z.1 0) → Mo m z (f_X9_profitOf m p) 0 (z.1 (2 + p)) z) ∧ (¬ (0 ≤ p ∧ p < z.1 0) → Mo m z (f_X9_profitOf m p) 1 0 z) := by
  have g := hL.1.1; have g0 := g.1
  refine ⟨fun h => Mo_s (fun c hM => ?_), fun h => Mo_s (fun c hM => ?_)⟩ <;> obtain ⟨v, ev, hv⟩ := isV9 hM.1 g hp <;> unfold f_X9_profitOf <;> rw [ev, cv_s]
  · rw [(tst9 hv _).1 h]
    try dsimp only
    rw [gd_t (by omega), bq_n (by omega), gd_t (by omega), tz_q (by omega), hM.1]
    exact ⟨_, rfl, Qs.rf⟩
  · rw [(tst9 hv _).2 h]
    try dsimp only
    rw [gd_t (by omega), bq_p rfl]
    exact ⟨_, rfl, Qs.rf⟩
theorem c8_coefficientOf (hL : LI K z) {p q : Int} (hp : R32 p) (hq : R32 q) : (((0 ≤ p ∧ p < z.1 1) ∧ 0 ≤ q ∧ q < z.1 0) → ClX d z (f_X8_coefficientOf d p q) 0 (z.1 (6 + 4 * p + q)) z) ∧ (¬ ((0 ≤ p ∧ p < z.1 1) ∧ 0 ≤ q ∧ q < z.1 0) → ClX d z (f_X8_coefficientOf d p q) 3 0 z) := by
  have g := hL.1.1; have g0 := g.1; have g1 := g.2.1
  refine ⟨fun h => ClX_v (fun c hC => ?_), fun h => ClX_v (fun c hC => ?_)⟩
  · unfold f_X8_coefficientOf
    rw [(rqC8 hC.1.1 g hp _).1 h.1]
    try dsimp only
    rw [(rqV8 hC.1.1 g hq _).1 h.2]
    unfold f_X2_coefficient
    try dsimp only
    rw [gd_t (by omega), cv_s, hC.1.1.2.2.1 p q h.1.1 (by omega) h.2.1 (by omega)]
  · unfold f_X8_coefficientOf
    by_cases h1 : 0 ≤ p ∧ p < z.1 1
    · rw [(rqC8 hC.1.1 g hp _).1 h1]
      try dsimp only
      rw [(rqV8 hC.1.1 g hq _).2 (fun e => h ⟨h1, e⟩)]
    · rw [(rqC8 hC.1.1 g hp _).2 h1]
theorem m9_coefficientOf (hL : LI K z) {p q : Int} (hp : R32 p) (hq : R32 q) : (((0 ≤ p ∧ p < z.1 1) ∧ 0 ≤ q ∧ q < z.1 0) → Mo m z (f_X9_coefficientOf m p q) 0 (z.1 (6 + 4 * p + q)) z) ∧ (¬ ((0 ≤ p ∧ p < z.1 1) ∧ 0 ≤ q ∧ q < z.1 0) → Mo m z (f_X9_coefficientOf m p q) 1 0 z) := by
  have g := hL.1.1; have g0 := g.1; have g1 := g.2.1
  refine ⟨fun h => Mo_s (fun c hM => ?_), fun h => Mo_s (fun c hM => ?_)⟩ <;> obtain ⟨v, ev, hv⟩ := isC9 hM.1 g hp <;> obtain ⟨w, ew, hw⟩ := isV9 hM.1 g hq <;> unfold f_X9_coefficientOf <;> simp only [jn] <;> rw [ev, cv_s, gd_t (by omega)]
  · rw [bq_n (by omega), ew, cv_s, gd_t (by omega), bq_n (by omega), holds9 (by omega), cl_s, if_pos rfl, gd_t (by omega), bq_n (by omega), gd_t (by omega), tz_q (by omega), hM.1]
    exact ⟨_, rfl, Qs.rf⟩
  · by_cases h1 : v = 0
    · rw [bq_p h1, holds9 (by omega), cl_s, if_neg (by omega), gd_t (by omega), bq_p rfl]
      exact ⟨_, rfl, Qs.rf⟩
    · have hw0 : w = 0 := by omega
      rw [bq_n h1, ew, cv_s, gd_t (by omega), bq_p hw0, holds9 (by omega), cl_s, if_neg (by omega), gd_t (by omega), bq_p rfl]
      exact ⟨_, rfl, Qs.rf⟩
theorem c8_boundOf (hL : LI K z) {p : Int} (hp : R32 p) : ((0 ≤ p ∧ p < z.1 1) → ClX d z (f_X8_boundOf d p) 0 (z.1 (22 + p)) z) ∧ (¬ (0 ≤ p ∧ p < z.1 1) → ClX d z (f_X8_boundOf d p) 3 0 z) := by
  have g := hL.1.1; have g0 := g.2.1
  refine ⟨fun h => ClX_v (fun c hC => ?_), fun h => ClX_v (fun c hC => ?_)⟩
  · unfold f_X8_boundOf
    rw [(rqC8 hC.1.1 g hp _).1 h]
    try dsimp only
    rw [bd8 hC.1.1 g h, cv_s]
  · unfold f_X8_boundOf
    rw [(rqC8 hC.1.1 g hp _).2 h]
theorem m9_boundOf (hL : LI K z) {p : Int} (hp : R32 p) : ((0 ≤ p ∧ p < z.1 1) → Mo m z (f_X9_boundOf m p) 0 (z.1 (22 + p)) z) ∧ (¬ (0 ≤ p ∧ p < z.1 1) → Mo m z (f_X9_boundOf m p) 1 0 z) := by
  have g := hL.1.1; have g0 := g.2.1
  refine ⟨fun h => Mo_s (fun c hM => ?_), fun h => Mo_s (fun c hM => ?_)⟩ <;> obtain ⟨v, ev, hv⟩ := isC9 hM.1 g hp <;> unfold f_X9_boundOf <;> rw [ev, cv_s]
  · rw [(tst9 hv _).1 h]
    try dsimp only
    rw [gd_t (by omega), bq_n (by omega), gd_t (by omega), tz_q (by omega), hM.1]
    exact ⟨_, rfl, Qs.rf⟩
  · rw [(tst9 hv _).2 h]
    try dsimp only
    rw [gd_t (by omega), bq_p rfl]
    exact ⟨_, rfl, Qs.rf⟩
theorem c8_columnOf (hL : LI K z) {p : Int} (hp : R32 p) : ((0 ≤ p ∧ p < z.1 1) → ClX d z (f_X8_columnOf d p) 0 (z.1 (27 + p)) z) ∧ (¬ (0 ≤ p ∧ p < z.1 1) → ClX d z (f_X8_columnOf d p) 3 0 z) := by
  have g := hL.1.1; have g0 := g.2.1
  refine ⟨fun h => ClX_v (fun c hC => ?_), fun h => ClX_v (fun c hC => ?_)⟩
  · unfold f_X8_columnOf
    rw [(rqR8 hC.1.2.1 g hp _).1 h]
    try dsimp only
    rw [namedBy8 hC.1.2.1 g h, cv_s]
  · unfold f_X8_columnOf
    rw [(rqR8 hC.1.2.1 g hp _).2 h]
theorem m9_columnOf (hL : LI K z) {p : Int} (hp : R32 p) : ((0 ≤ p ∧ p < z.1 1) → Mo m z (f_X9_columnOf m p) 0 (z.1 (27 + p)) z) ∧ (¬ (0 ≤ p ∧ p < z.1 1) → Mo m z (f_X9_columnOf m p) 1 0 z) := by
  have g := hL.1.1; have g0 := g.2.1
  refine ⟨fun h => Mo_s (fun c hM => ?_), fun h => Mo_s (fun c hM => ?_)⟩ <;> obtain ⟨v, ev, hv⟩ := isC9 hM.1 g hp <;> unfold f_X9_columnOf <;> rw [ev, cv_s]
  · rw [(tst9 hv _).1 h]
    try dsimp only
    rw [gd_t (by omega), bq_n (by omega), gd_t (by omega), tz_q (by omega), hM.1]
    exact ⟨_, rfl, Qs.rf⟩
  · rw [(tst9 hv _).2 h]
    try dsimp only
    rw [gd_t (by omega), bq_p rfl]
    exact ⟨_, rfl, Qs.rf⟩
/-! in the basis -/
def nmd (F : Int → Int) (q : Int) : Prop := ∃ k, 0 ≤ k ∧ k < F 1 ∧ F (27 + k) = q
theorem fst_nmd {F : Int → Int} {q v : Int} (h : fstP (fun r => F (27 + r) = q) (F 1) v) : (v < 0 ∧ v = -1 ∧ ¬ nmd F q) ∨ (0 ≤ v ∧ v < F 1 ∧ F (27 + v) = q ∧ nmd F q) := by
  rcases h with ⟨h1, h2⟩ | ⟨h1, h2, h3, -⟩
  · exact Or.inl ⟨by omega, h1, fun ⟨k, a, b, e⟩ => h2 k a b e⟩
  · exact Or.inr ⟨h1, h2, h3, v, h1, h2, h3⟩
theorem isIn9 {F : Int → Int} {c : W0} {q : Int} (hF : c (m + 1) = F) (g : GdP F) (hN : GdN F) (hq : R32 q) : ∃ b, f_X9_isIn m q c = some b ∧ ((b = 1 ∧ nmd F q) ∨ (b = 0 ∧ ¬ nmd F q)) := by
  have g0 := g.1; have g1 := g.2.1
  have L : ∀ (k fuel : Nat) (v l : Int), l + k = F 1 → 0 ≤ l → k + 1 ≤ fuel → ((v = 1 ∧ nmd F q) ∨ (v = 0 ∧ ∀ x, 0 ≤ x → x < l → F (27 + x) ≠ q)) → ∃ b, f_X9_isIn_4 m q c (fun v1 => gd (0 ≤ v1 ∧ v1 ≤ 1) <| some v1) fuel v l = some b ∧ ((b = 1 ∧ nmd F q) ∨ (b = 0 ∧ ¬ nmd F q)) := by
    intro k
    induction k with
    | zero =>
      intro fuel v l hl h0 hf hv
      obtain ⟨f, rfl⟩ : ∃ f, fuel = f + 1 := ⟨fuel - 1, by omega⟩
      rw [f_X9_isIn_4_s]
      unfold b_X9_isIn_4
      rw [hF, gd_t (by omega), bq_p (by omega)]
      rcases hv with ⟨rfl, h⟩ | ⟨rfl, h⟩
      · exact ⟨1, gd_t (by omega), Or.inl ⟨rfl, h⟩⟩
      · exact ⟨0, gd_t (by omega), Or.inr ⟨rfl, fun ⟨x, a, b, e⟩ => h x a (by omega) e⟩⟩
    | succ k ih =>
      intro fuel v l hl h0 hf hv
      obtain ⟨f, rfl⟩ : ∃ f, fuel = f + 1 := ⟨fuel - 1, by omega⟩
      have hNl := hN l h0 (by omega)
      rw [f_X9_isIn_4_s]
      unfold b_X9_isIn_4
      simp only [jn]
      rw [hF, gd_t (by omega), bq_n (by omega)]
      rcases hv with ⟨rfl, h⟩ | ⟨rfl, h⟩
      · rw [gd_t (by omega), bq_n (by omega)]
        exact ih f 1 (l + 1) (by omega) (by omega) (by omega) (Or.inl ⟨rfl, h⟩)
      · rw [gd_t (by omega), bq_p rfl, gd_t (by omega), gd_t ⟨by omega, hq⟩]
        by_cases e : F (27 + l) = q
        · rw [bq_p e]
          exact ih f 1 (l + 1) (by omega) (by omega) (by omega) (Or.inl ⟨rfl, l, h0, by omega, e⟩)
        · rw [bq_n e]
          refine ih f 0 (l + 1) (by omega) (by omega) (by omega) (Or.inr ⟨rfl, fun x a b => ?_⟩)
          by_cases e2 : x = l
          · rw [e2]; exact e
          · exact h x a (by omega)
  unfold f_X9_isIn
  exact L (F 1).toNat LF 0 0 (by omega) (by omega) (by rw [LF_g]; omega) (Or.inr ⟨rfl, fun x a b => by omega⟩)
theorem c8_isNamed (hL : LI K z) {p : Int} (hp : R32 p) : ((0 ≤ p ∧ p < z.1 0 + z.1 1) → ClX d z (f_X8_isNamed d p) 0 (pick (nmd z.1 p) 1 0) z) ∧ (¬ (0 ≤ p ∧ p < z.1 0 + z.1 1) → ClX d z (f_X8_isNamed d p) 3 0 z) := by
  have g := hL.1.1; have g0 := g.2.1
  refine ⟨fun h => ClX_v (fun c hC => ?_), fun h => ClX_v (fun c hC => ?_)⟩
  · unfold f_X8_isNamed
    rw [(rqK8 hC.1.2.1 g hp _).1 h]
    try dsimp only
    obtain ⟨v, ev, hv⟩ := rowNaming8 hC.1.2.1 g hL.1.2.1.1 hp
    rw [ev, cv_s]
    rcases fst_nmd hv with ⟨h1, h2, h3⟩ | ⟨h1, h2, h3, h4⟩
    · rw [gd_t (by omega), bq_p h1, pick_f h3]
    · rw [gd_t (by omega), bq_n (by omega), pick_t h4]
  · unfold f_X8_isNamed
    rw [(rqK8 hC.1.2.1 g hp _).2 h]
theorem m9_isNamed (hL : LI K z) {p : Int} (hp : R32 p) : ((0 ≤ p ∧ p < z.1 0 + z.1 1) → Mo m z (f_X9_isNamed m p) 0 (pick (nmd z.1 p) 1 0) z) ∧ (¬ (0 ≤ p ∧ p < z.1 0 + z.1 1) → Mo m z (f_X9_isNamed m p) 1 0 z) := by
  have g := hL.1.1; have g0 := g.2.1
  refine ⟨fun h => Mo_s (fun c hM => ?_), fun h => Mo_s (fun c hM => ?_)⟩ <;> obtain ⟨v, ev, hv⟩ := isCol9 hM.1 g hp <;> unfold f_X9_isNamed <;> rw [ev, cv_s]
  · rw [(tst9 hv _).1 h]
    try dsimp only
    obtain ⟨w, ew, hw⟩ := isIn9 (m := m) (c := upc c m (updZ (c m) 0 0)) ((tz_q (by omega)).trans hM.1) g hL.1.2.1.1 hp
    rw [gd_t (by omega), bq_n (by omega), ew, cv_s]
    rcases hw with ⟨rfl, h1⟩ | ⟨rfl, h1⟩
    · rw [gd_t (by omega), bq_n (by omega), pick_t h1]
      exact ⟨_, rfl, Qs.rf⟩
    · rw [gd_t (by omega), bq_p rfl, pick_f h1]
      exact ⟨_, rfl, Qs.rf⟩
  · rw [(tst9 hv _).2 h]
    try dsimp only
    rw [gd_t (by omega), bq_p rfl]
    exact ⟨_, rfl, Qs.rf⟩
/-! optimal, a ray -/
theorem lays9 (hL : LI K z) {c : W0} (hF : c (m + 1) = z.1) : ∃ c1, f_X9_laysNow m c = some (0, c1) ∧ Qs m (P7 m) c c1 ∧ Laid m z.1 c1 := laysNow_s hL.1.1 hL.1.2.1.1 (by have := hL.1.2.1.2.1; omega) hF
theorem c8_isOptimal (hL : LI K z) {c : W0} (hC : CI d z c) : f_X8_isOptimal d c = some (pick (bestF z.1) 1 0) := by
  unfold f_X8_isOptimal
  obtain ⟨b, eb, hb⟩ := isBest8 hC.1.2.1 hL.1.1 hL.1.2.1.1
  rw [eb, cv_s]
  rcases hb with ⟨rfl, h⟩ | ⟨rfl, h⟩
  · rw [gd_t (by omega), pick_t h]
  · rw [gd_t (by omega), pick_f h]
theorem m9_isOptimal (hL : LI K z) : Mo m z (f_X9_isOptimal m) 0 (pick (bestF z.1) 1 0) z := Mo_s (fun c hM => by
  unfold f_X9_isOptimal
  simp only [sto]
  obtain ⟨c1, e1, hQ, hLd⟩ := lays9 (m := m) (c := upc c m (updZ (c m) 0 0)) hL ((tz_q (by omega)).trans hM.1)
  obtain ⟨b, x, y, eb, hb⟩ := isBest9 hLd hL.1.1 hL.1.2.1.1 hL.1.2.1.2.1
  rw [e1, cl_s, eb, cl_s]
  rcases hb with ⟨rfl, h⟩ | ⟨rfl, h⟩
  · rw [gd_t (by omega), pick_t h]
    exact ⟨_, rfl, hQ.tr Qs.fs⟩
  · rw [gd_t (by omega), pick_f h]
    exact ⟨_, rfl, hQ.tr Qs.fs⟩)
/-- the ray's column, -1 where there is none -/
theorem ray_ex (hL : LI K z) : ∃ v, fstP (rayF z.1) (z.1 0 + z.1 1) v := by
  have g0 := hL.1.1.1; have g1 := hL.1.1.2.1
  have h : ∀ n : Nat, (∃ v, fstP (rayF z.1) n v) := by
    intro n
    induction n with
    | zero => exact ⟨-1, Or.inl ⟨rfl, fun j a b => by omega⟩⟩
    | succ n ih =>
      obtain ⟨v, h | h⟩ := ih
      · by_cases e : rayF z.1 n
        · exact ⟨n, Or.inr ⟨by omega, by omega, e, fun j a b => h.2 j a b⟩⟩
        · refine ⟨-1, Or.inl ⟨rfl, fun j a b => ?_⟩⟩
          by_cases e2 : j = n
          · rw [e2]; exact e
          · exact h.2 j a (by omega)
      · exact ⟨v, Or.inr ⟨h.1, by have := h.2.1; omega, h.2.2⟩⟩
  have h2 := h (z.1 0 + z.1 1).toNat
  rw [show (((z.1 0 + z.1 1).toNat : Nat) : Int) = z.1 0 + z.1 1 by omega] at h2
  exact h2
theorem open8 (hL : LI K z) {v : Int} (hv : fstP (rayF z.1) (z.1 0 + z.1 1) v) {c : W0} (hC : CI d z c) : f_X6_openColumn (d + 5) c = some v := by
  obtain ⟨w, ew, hw⟩ := openColumn8 hC.1.2.1 hL.1.1 hL.1.2.1.1
  rw [ew, fstP_u hw hv (fun _ _ _ => Iff.rfl)]
theorem endl9 (hL : LI K z) {v : Int} (hv : fstP (rayF z.1) (z.1 0 + z.1 1) v) {c : W0} (hF : c (m + 1) = z.1) : ∃ c1, f_X9_endlessNow m c = some (v, c1) ∧ Qs m (P7 m) c c1 ∧ Laid m z.1 c1 := by
  obtain ⟨c1, e1, hQ, hLd⟩ := lays9 hL hF
  obtain ⟨w, x, y, ew, hw⟩ := endless9 hLd hL.1.1 hL.1.2.1.1 hL.1.2.1.2.1
  unfold f_X9_endlessNow
  rw [e1, cl_s, ew, cl_s, fstP_u hw hv (fun _ _ _ => Iff.rfl)]
  exact ⟨_, rfl, hQ.tr Qs.fs, hLd.fs⟩
theorem c8_hasRay (hL : LI K z) {v : Int} (hv : fstP (rayF z.1) (z.1 0 + z.1 1) v) {c : W0} (hC : CI d z c) : f_X8_hasRay d c = some (if v < 0 then 0 else 1) := by
  have g0 := hL.1.1.1; have g1 := hL.1.1.2.1
  have hr : R32 v := by rcases hv with h | h <;> omega
  unfold f_X8_hasRay
  rw [open8 hL hv hC, cv_s, gd_t hr]
  by_cases h : v < 0
  · rw [bq_p h, if_pos h]
  · rw [bq_n h, if_neg h]
theorem m9_hasRay (hL : LI K z) {v : Int} (hv : fstP (rayF z.1) (z.1 0 + z.1 1) v) : Mo m z (f_X9_hasRay m) 0 (if v < 0 then 0 else 1) z := Mo_s (fun c hM => by
  have g0 := hL.1.1.1; have g1 := hL.1.1.2.1
  have hr : R32 v := by rcases hv with h | h <;> omega
  unfold f_X9_hasRay
  simp only [sto]
  obtain ⟨c1, e1, hQ, hLd⟩ := lays9 (m := m) (c := upc c m (updZ (c m) 0 0)) hL ((tz_q (by omega)).trans hM.1)
  obtain ⟨w, x, y, ew, hw⟩ := endless9 hLd hL.1.1 hL.1.2.1.1 hL.1.2.1.2.1
  rw [e1, cl_s, ew, cl_s, fstP_u hw hv (fun _ _ _ => Iff.rfl), gd_t hr]
  by_cases h : v < 0
  · rw [bq_p h, if_pos h]
    exact ⟨_, rfl, hQ.tr Qs.fs⟩
  · rw [bq_n h, if_neg h]
    exact ⟨_, rfl, hQ.tr Qs.fs⟩)
theorem rqY8 (hL : LI K z) {v : Int} (hv : fstP (rayF z.1) (z.1 0 + z.1 1) v) {c : W0} (hC : CI d z c) (κ : Int → W0 → Option (Int × Int × W0)) : (0 ≤ v → (cx (f_X8_requireRay d c) κ) = κ 0 c) ∧ (¬ 0 ≤ v → (cx (f_X8_requireRay d c) κ) = some (2, 0, c)) := by
  have g0 := hL.1.1.1; have g1 := hL.1.1.2.1
  have hr : R32 v := by rcases hv with h | h <;> omega
  unfold f_X8_requireRay
  rw [open8 hL hv hC, cv_s, gd_t hr]
  refine ⟨fun h => ?_, fun h => ?_⟩
  · rw [bq_p h, cx_s]
  · rw [bq_n h, cx_x (by decide)]
theorem c8_rayColumn (hL : LI K z) {v : Int} (hv : fstP (rayF z.1) (z.1 0 + z.1 1) v) : (0 ≤ v → ClX d z (f_X8_rayColumn d) 0 v z) ∧ (¬ 0 ≤ v → ClX d z (f_X8_rayColumn d) 2 0 z) := by
  refine ⟨fun h => ClX_v (fun c hC => ?_), fun h => ClX_v (fun c hC => ?_)⟩
  · unfold f_X8_rayColumn
    rw [(rqY8 hL hv hC _).1 h]
    try dsimp only
    rw [open8 hL hv hC, cv_s]
  · unfold f_X8_rayColumn
    rw [(rqY8 hL hv hC _).2 h]
theorem m9_rayColumn (hL : LI K z) {v : Int} (hv : fstP (rayF z.1) (z.1 0 + z.1 1) v) : (0 ≤ v → Mo m z (f_X9_rayColumn m) 0 v z) ∧ (¬ 0 ≤ v → Mo m z (f_X9_rayColumn m) 1 0 z) := by
  have g0 := hL.1.1.1; have g1 := hL.1.1.2.1
  have hr : R32 v := by rcases hv with h | h <;> omega
  refine ⟨fun h => Mo_q (fun c hM => ?_), fun h => Mo_q (fun c hM => ?_)⟩ <;> obtain ⟨c1, e1, hQ, hLd⟩ := endl9 (m := m) hL hv hM.1 <;> unfold f_X9_rayColumn <;> simp only [jn] <;> rw [e1, cl_s, gd_t hr]
  · obtain ⟨c2, e2, hQ2, -⟩ := endl9 (m := m) (c := upc c1 m (updZ (c1 m) 0 0)) hL hv ((tz_q (by omega)).trans hLd.1)
    rw [bq_p h, holds9 (by omega), cl_s, if_pos rfl, gd_t (by omega), bq_n (by omega), e2, cl_s]
    exact ⟨c2, rfl, ((Q0.q hQ (fun _ a => a)).tr Q0.t).tr (Q0.q hQ2 (fun _ a => a)), (hQ2.2 0 (by decide) (by decide)).trans tz_0⟩
  · rw [bq_n h, holds9 (by omega), cl_s, if_neg (by omega), gd_t (by omega), bq_p rfl]
    exact ⟨_, rfl, (Q0.q hQ (fun _ a => a)).tr Q0.t, tz_0⟩
end GE
