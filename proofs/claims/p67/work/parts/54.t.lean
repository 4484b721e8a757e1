section TA
/-! steps of the law's functions: T is what is wanted of the answer, S what holds of the world -/
section
variable {α β : Type} {T : Option β → Prop} {S : W0 → Prop}
theorem st_gd {P : Prop} {x : Option β} (h : P) (k : T x) : T (gd P x) := by rw [gd_t h]; exact k
theorem st_p {P : Prop} {x y : Option β} (h : P) (k : T x) : T (bq P x y) := by rw [bq_p h]; exact k
theorem st_n {P : Prop} {x y : Option β} (h : ¬ P) (k : T y) : T (bq P x y) := by rw [bq_n h]; exact k
theorem st_j {k : α} {f : α → Option β} (h : T (f k)) : T (jn k f) := h
theorem st_cv {o : Option α} {v : α} {k : α → Option β} (e : o = some v) (h : T (k v)) : T (cv o k) := by rw [e]; exact h
def CnS (S : W0 → Prop) (f : W0 → Option (Int × Int × W0)) (v : Int) : Prop := ∀ c, S c → ∃ c1, f c = some (0, v, c1) ∧ S c1
def ClS (S : W0 → Prop) (f : W0 → Option (Int × W0)) (v : Int) : Prop := ∀ c, S c → ∃ c1, f c = some (v, c1) ∧ S c1
def CpS (S : W0 → Prop) (f : W0 → Option Int) (v : Int) : Prop := ∀ c, S c → f c = some v
theorem st_cn {f : W0 → Option (Int × Int × W0)} {v : Int} {c : W0} {κ : Int → W0 → Option β} (h : CnS S f v) (hS : S c) (k : ∀ c1, S c1 → T (κ v c1)) : T (cn (f c) κ) := by
  obtain ⟨c1, e, h1⟩ := h c hS
  rw [e, cn_s]
  exact k c1 h1
theorem st_cl {f : W0 → Option (Int × W0)} {v : Int} {c : W0} {κ : Int → W0 → Option β} (h : ClS S f v) (hS : S c) (k : ∀ c1, S c1 → T (κ v c1)) : T (cl (f c) κ) := by
  obtain ⟨c1, e, h1⟩ := h c hS
  rw [e, cl_s]
  exact k c1 h1
theorem st_cp {f : W0 → Option Int} {v : Int} {c : W0} {κ : Int → Option β} (h : CpS S f v) (hS : S c) (k : T (κ v)) : T (cv (f c) κ) := by
  rw [h c hS, cv_s]
  exact k
end
theorem st_end {S : W0 → Prop} {v : Int} {o : Option (Int × W0)} (h : ∀ T : Option (Int × W0) → Prop, (∀ c1, S c1 → T (some (v, c1))) → T o) : ∃ c1, o = some (v, c1) ∧ S c1 := h (fun o => ∃ c1, o = some (v, c1) ∧ S c1) (fun c1 h1 => ⟨c1, rfl, h1⟩)
/-- a world with a desk at d in state z, however the rest stands -/
def SOK (d : Nat) (z : St) (S : W0 → Prop) : Prop := (∀ c, S c → CI d z c) ∧ ∀ c c1, S c → FrD d c c1 → CI d z c1 → S c1
section
variable {S : W0 → Prop} {d : Nat} {z : St} {K : Int}
theorem SOK.n (hS : SOK d z S) {f : W0 → Option (Int × Int × W0)} {v : Int} (h : ClX d z f 0 v z) : CnS S f v := fun c hc => by
  obtain ⟨c1, e, h1, h2⟩ := h c (hS.1 c hc)
  exact ⟨c1, e, hS.2 c c1 hc h1 h2⟩
theorem SOK.l (hS : SOK d z S) {f : W0 → Option (Int × W0)} {v : Int} (h : ClI d z f v z) : ClS S f v := fun c hc => by
  obtain ⟨c1, e, h1, h2⟩ := h c (hS.1 c hc)
  exact ⟨c1, e, hS.2 c c1 hc h1 h2⟩
theorem SOK.p (hS : SOK d z S) {f : W0 → Option Int} {v : Int} (h : ∀ c, CI d z c → f c = some v) : CpS S f v := fun c hc => h c (hS.1 c hc)
end
/-- the law's divisor -/
theorem dvL (κ : Int → Option Int) : ∀ (k fuel a b : Nat), b < 2 ^ k → 2 * k + 1 ≤ fuel → a < 4611686018427387904 → b < 4611686018427387904 → f_L_divisor_17 κ fuel (a : Int) (b : Int) = κ (Nat.gcd a b : Nat) := by
  have h0 : ∀ fuel a : Nat, 1 ≤ fuel → a < 4611686018427387904 → f_L_divisor_17 κ fuel (a : Int) ((0 : Nat) : Int) = κ (Nat.gcd a 0 : Nat) := by
    intro fuel a hf ha
    obtain ⟨f, rfl⟩ : ∃ f, fuel = f + 1 := ⟨fuel - 1, by omega⟩
    rw [f_L_divisor_17_s]
    unfold b_L_divisor_17
    rw [gd_t (by omega), bq_p (by omega), Nat.gcd_zero_right]
  have hs : ∀ fuel a b : Nat, b ≠ 0 → a < 4611686018427387904 → b < 4611686018427387904 → f_L_divisor_17 κ (fuel + 1) (a : Int) (b : Int) = f_L_divisor_17 κ fuel (b : Int) ((a % b : Nat) : Int) := by
    intro fuel a b hb ha hb2
    rw [f_L_divisor_17_s]
    unfold b_L_divisor_17
    rw [gd_t (by omega), bq_n (by omega), gd_t ⟨by omega, by omega, by omega⟩]
    rfl
  intro k
  induction k with
  | zero =>
    intro fuel a b hb hf ha hb2
    obtain rfl : b = 0 := by omega
    exact h0 fuel a (by omega) ha
  | succ k ih =>
    intro fuel a b hb hf ha hb2
    by_cases hb0 : b = 0
    · subst hb0; exact h0 fuel a (by omega) ha
    obtain ⟨f, rfl⟩ : ∃ f, fuel = f + 1 + 1 := ⟨fuel - 2, by omega⟩
    have hr := Nat.mod_lt a (show b > 0 by omega)
    rw [hs _ a b hb0 ha hb2, ← gcd_m a b]
    by_cases hr0 : a % b = 0
    · rw [hr0]
      exact h0 (f + 1) b (by omega) hb2
    · have hr2 := Nat.mod_lt b (show a % b > 0 by omega)
      have h9 := md2 (show 0 < a % b by omega) hr
      rw [Nat.pow_succ] at hb
      rw [hs _ b (a % b) hr0 hb2 (by omega), ← gcd_m b (a % b)]
      exact ih f (a % b) (b % (a % b)) (by omega) (by omega) (by omega) (by omega)
theorem divL {a b : Int} (ha : -4611686018427387904 < a ∧ a < 4611686018427387904) (hb : 0 ≤ b ∧ b < 4611686018427387904) : f_L_divisor a b = some (Int.gcd a b : Int) := by
  unfold f_L_divisor
  rw [gd_t (by omega)]
  simp only [jn]
  have hf : 2 * 62 + 1 ≤ LF := by rw [LF_g]; omega
  have hb2 : b = ((b.natAbs : Nat) : Int) := by omega
  have hp : (2 : Nat) ^ 62 = 4611686018427387904 := rfl
  by_cases h : 0 ≤ a
  · rw [bq_p h]
    have e := dvL (fun v3 => some v3) 62 LF a.natAbs b.natAbs (by omega) hf (by omega) (by omega)
    rw [show ((a.natAbs : Nat) : Int) = a by omega, ← hb2] at e
    rw [e]
    rfl
  · rw [bq_n h]
    have e := dvL (fun v3 => some v3) 62 LF a.natAbs b.natAbs (by omega) hf (by omega) (by omega)
    rw [show ((a.natAbs : Nat) : Int) = -a by omega, ← hb2] at e
    rw [e]
    rfl
/-- adding a fraction, as the law does -/
theorem frL {X A D w : Int} (hD : 0 < D ∧ D ≤ 157464) (hX : -100000000000 ≤ X ∧ X ≤ 100000000000) (hA : 0 ≤ A ∧ A ≤ 1732104) (hw : -9 ≤ w ∧ w ≤ 9) : ∃ g : Int, f_L_divisor (nu X D * de A D + w * nu A D * de X D) (de X D * de A D) = some g ∧ ¬ g = 0 ∧ R64 (nu X D * de A D + w * nu A D * de X D) ∧ R64 g ∧ R64 (de X D * de A D) ∧ Int.tdiv (nu X D * de A D + w * nu A D * de X D) g = nu (X + w * A) D ∧ Int.tdiv (de X D * de A D) g = de (X + w * A) D := by
  obtain ⟨x1, x2, -⟩ := nu_e (n := X) (show D ≠ 0 by omega)
  obtain ⟨a1, a2, -⟩ := nu_e (n := A) (show D ≠ 0 by omega)
  have x3 := nu_n (n := X) (d := D); have x4 := de_n (n := X) (d := D)
  have a3 := nu_n (n := A) (d := D); have a4 := de_n (n := A) (d := D)
  generalize nu X D = x at *
  generalize de X D = y at *
  generalize nu A D = a at *
  generalize de A D = b at *
  have m1 := mbd (x := x) (A := 100000000000) (by omega) (show -200000 ≤ b ∧ b ≤ 200000 by omega)
  have m2 := mbd (mbd hw (show -1732104 ≤ a ∧ a ≤ 1732104 by omega)) (show -200000 ≤ y ∧ y ≤ 200000 by omega)
  have m3 := mbd (show -200000 ≤ y ∧ y ≤ 200000 by omega) (show -200000 ≤ b ∧ b ≤ 200000 by omega)
  have hyb := Int.mul_pos x2 a2
  obtain ⟨u1, u2⟩ := nu_u (n := x * b + w * a * y) (d := y * b) (n' := X + w * A) (d' := D) (by omega) (by omega) (by
    have q1 : x * b * D = X * (y * b) := by rw [Int.mul_assoc, Int.mul_comm b D, ← Int.mul_assoc, x1, Int.mul_assoc]
    have q2 : w * a * y * D = w * A * (y * b) := by rw [Int.mul_assoc w, Int.mul_assoc w, Int.mul_assoc w, Int.mul_assoc a, Int.mul_comm y D, ← Int.mul_assoc a, a1, Int.mul_assoc A, Int.mul_comm b y]
    rw [Int.add_mul, q1, q2, Int.add_mul])
  have hg := gcd_lt (a := x * b + w * a * y) (b := y * b) (by omega)
  refine ⟨_, divL ⟨by omega, by omega⟩ ⟨by omega, by omega⟩, by omega, ⟨by omega, by omega⟩, ⟨by omega, by omega⟩, ⟨by omega, by omega⟩, ?_, ?_⟩
  · rw [← u1]
    unfold nu
    rw [if_neg (by omega)]
  · rw [← u2]
    unfold de
    rw [if_neg (by omega)]
theorem frG {A D : Int} (hD : 0 < D ∧ D ≤ 157464) (hA : -100000000 ≤ A ∧ A ≤ 100000000) : f_L_divisor (nu A D) (de A D) = some 1 := by
  obtain ⟨-, a2, a3⟩ := nu_e (n := A) (show D ≠ 0 by omega)
  have a4 := nu_n (n := A) (d := D); have a5 := de_n (n := A) (d := D)
  rw [divL (by omega) (by omega), a3]
  rfl
/-! two desks alike -/
section
variable {S : W0 → Prop} {a b : Nat} {z y : St} {K K' : Int}
theorem F_r {F : Int → Int} (g : GdP F) (hN : GdN F) : (∀ v, 0 ≤ v → v < F 0 → R32 (F (2 + v))) ∧ (∀ c, 0 ≤ c → c < F 1 → R32 (F (22 + c)) ∧ R32 (F (27 + c)) ∧ ∀ v, 0 ≤ v → v < F 0 → R32 (F (6 + 4 * c + v))) := by
  have g0 := g.1; have g1 := g.2.1
  refine ⟨fun v p q => ?_, fun c p q => ⟨?_, ?_, fun v p2 q2 => ?_⟩⟩
  · have := g.2.2.1 v p (by omega); omega
  · have := g.2.2.2.2 c p (by omega); omega
  · have := hN c p q; omega
  · have := g.2.2.2.1 c v p (by omega) p2 (by omega); omega
theorem al_74 {T : Option (Int × W0) → Prop} {κ : Int → W0 → Option (Int × W0)} (hA : SOK a z S) (hB : SOK b y S) (hL : LI K z) (hL' : LI K' y) (e : y.1 = z.1) (hκ : ∀ c1, S c1 → T (κ 1 c1)) : ∀ (k fuel : Nat) (l : Int) (c : W0), l + k = z.1 0 → 0 ≤ l → k + 1 ≤ fuel → S c → T (f_L_areAlike_74 a b κ fuel 1 l c) := by
  have g := hL.1.1
  have g0 := g.1
  have hr := F_r g hL.1.2.1.1
  intro k
  induction k with
  | zero =>
    intro fuel l c hl h0 hf hS
    obtain ⟨f, rfl⟩ : ∃ f, fuel = f + 1 := ⟨fuel - 1, by omega⟩
    rw [f_L_areAlike_74_s]
    unfold b_L_areAlike_74
    refine st_cp (hA.p (fun c => c8_variables)) hS ?_
    refine st_gd ⟨by omega, by omega⟩ ?_
    refine st_p (by omega) ?_
    exact hκ c hS
  | succ k ih =>
    intro fuel l c hl h0 hf hS
    obtain ⟨f, rfl⟩ : ∃ f, fuel = f + 1 := ⟨fuel - 1, by omega⟩
    have hv := hr.1 l h0 (by omega)
    rw [f_L_areAlike_74_s]
    unfold b_L_areAlike_74
    refine st_cp (hA.p (fun c => c8_variables)) hS ?_
    refine st_gd ⟨by omega, by omega⟩ ?_
    refine st_n (by omega) ?_
    refine st_gd (by decide) ?_
    refine st_n (by decide) ?_
    refine st_cn (hA.n ((c8_profitOf hL (by omega)).1 ⟨h0, by omega⟩)) hS (fun c1 hS => ?_)
    refine st_cn (hB.n ((c8_profitOf hL' (by omega)).1 ⟨h0, by rw [e]; omega⟩)) hS (fun c2 hS => ?_)
    refine st_gd ⟨hv, by rw [e]; exact hv⟩ ?_
    refine st_p (by rw [e]) ?_
    exact ih f (l + 1) c2 (by omega) (by omega) (by omega) hS
theorem al_160 {T : Option (Int × W0) → Prop} {κ : Int → W0 → Option (Int × W0)} {r : Int} (hr1 : 0 ≤ r ∧ r < z.1 1) (hA : SOK a z S) (hB : SOK b y S) (hL : LI K z) (hL' : LI K' y) (e : y.1 = z.1) (hκ : ∀ c1, S c1 → T (κ 1 c1)) : ∀ (k fuel : Nat) (l : Int) (c : W0), l + k = z.1 0 → 0 ≤ l → k + 1 ≤ fuel → S c → T (f_L_areAlike_160 a b r κ fuel 1 l c) := by
  have g := hL.1.1
  have g0 := g.1; have g1 := g.2.1
  have hr := F_r g hL.1.2.1.1
  intro k
  induction k with
  | zero =>
    intro fuel l c hl h0 hf hS
    obtain ⟨f, rfl⟩ : ∃ f, fuel = f + 1 := ⟨fuel - 1, by omega⟩
    rw [f_L_areAlike_160_s]
    unfold b_L_areAlike_160
    refine st_cp (hA.p (fun c => c8_variables)) hS ?_
    refine st_gd ⟨by omega, by omega⟩ ?_
    refine st_p (by omega) ?_
    exact hκ c hS
  | succ k ih =>
    intro fuel l c hl h0 hf hS
    obtain ⟨f, rfl⟩ : ∃ f, fuel = f + 1 := ⟨fuel - 1, by omega⟩
    have hv := (hr.2 r hr1.1 hr1.2).2.2 l h0 (by omega)
    rw [f_L_areAlike_160_s]
    unfold b_L_areAlike_160
    refine st_cp (hA.p (fun c => c8_variables)) hS ?_
    refine st_gd ⟨by omega, by omega⟩ ?_
    refine st_n (by omega) ?_
    refine st_gd (by decide) ?_
    refine st_n (by decide) ?_
    refine st_cn (hA.n ((c8_coefficientOf hL (by omega) (by omega)).1 ⟨hr1, h0, by omega⟩)) hS (fun c1 hS => ?_)
    refine st_cn (hB.n ((c8_coefficientOf hL' (by omega) (by omega)).1 ⟨by rw [e]; exact hr1, h0, by rw [e]; omega⟩)) hS (fun c2 hS => ?_)
    refine st_gd ⟨hv, by rw [e]; exact hv⟩ ?_
    refine st_p (by rw [e]) ?_
    exact ih f (l + 1) c2 (by omega) (by omega) (by omega) hS
theorem al_113 {T : Option (Int × W0) → Prop} {κ : Int → W0 → Option (Int × W0)} (hA : SOK a z S) (hB : SOK b y S) (hL : LI K z) (hL' : LI K' y) (e : y.1 = z.1) (hκ : ∀ c1, S c1 → T (κ 1 c1)) : ∀ (k fuel : Nat) (l : Int) (c : W0), l + k = z.1 1 → 0 ≤ l → k + 1 ≤ fuel → S c → T (f_L_areAlike_113 a b κ fuel 1 l c) := by
  have g := hL.1.1
  have g0 := g.1; have g1 := g.2.1
  have hr := F_r g hL.1.2.1.1
  intro k
  induction k with
  | zero =>
    intro fuel l c hl h0 hf hS
    obtain ⟨f, rfl⟩ : ∃ f, fuel = f + 1 := ⟨fuel - 1, by omega⟩
    rw [f_L_areAlike_113_s]
    unfold b_L_areAlike_113
    refine st_cp (hA.p (fun c => c8_constraints)) hS ?_
    refine st_gd ⟨by omega, by omega⟩ ?_
    refine st_p (by omega) ?_
    exact hκ c hS
  | succ k ih =>
    intro fuel l c hl h0 hf hS
    obtain ⟨f, rfl⟩ : ∃ f, fuel = f + 1 := ⟨fuel - 1, by omega⟩
    have hv := hr.2 l h0 (by omega)
    rw [f_L_areAlike_113_s]
    unfold b_L_areAlike_113
    refine st_cp (hA.p (fun c => c8_constraints)) hS ?_
    refine st_gd ⟨by omega, by omega⟩ ?_
    refine st_n (by omega) ?_
    refine st_gd (by decide) ?_
    refine st_n (by decide) ?_
    refine st_cn (hA.n ((c8_boundOf hL (by omega)).1 ⟨h0, by omega⟩)) hS (fun c1 hS => ?_)
    refine st_cn (hB.n ((c8_boundOf hL' (by omega)).1 ⟨h0, by rw [e]; omega⟩)) hS (fun c2 hS => ?_)
    refine st_gd ⟨hv.1, by rw [e]; exact hv.1⟩ ?_
    refine st_j ?_
    refine st_p (by rw [e]) ?_
    refine st_cn (hA.n ((c8_columnOf hL (by omega)).1 ⟨h0, by omega⟩)) hS (fun c3 hS => ?_)
    refine st_cn (hB.n ((c8_columnOf hL' (by omega)).1 ⟨h0, by rw [e]; omega⟩)) hS (fun c4 hS => ?_)
    refine st_gd ⟨hv.2.1, by rw [e]; exact hv.2.1⟩ ?_
    refine st_p (by rw [e]) ?_
    exact al_160 (r := l) ⟨h0, by omega⟩ hA hB hL hL' e (fun c5 hS => ih f (l + 1) c5 (by omega) (by omega) (by omega) hS) (z.1 0).toNat LF 0 c4 (by omega) (by omega) (by rw [LF_g]; omega) hS
theorem L_alike (hA : SOK a z S) (hB : SOK b y S) (hL : LI K z) (hL' : LI K' y) (hK : K ≤ 1000000) (e : y.1 = z.1) : ClS S (f_L_areAlike a b) 1 := fun c hS => st_end fun T hT => by
  have g := hL.1.1
  have g0 := g.1; have g1 := g.2.1
  obtain ⟨-, -, h26, h31, h32, h33⟩ := hL.1
  unfold f_L_areAlike
  refine st_cp (hA.p (fun c => c8_variables)) hS ?_
  refine st_cp (hB.p (fun c => c8_variables)) hS ?_
  refine st_gd ⟨by omega, by rw [e]; omega⟩ ?_
  refine st_j ?_
  refine st_p (by rw [e]) ?_
  refine st_cp (hA.p (fun c => c8_constraints)) hS ?_
  refine st_cp (hB.p (fun c => c8_constraints)) hS ?_
  refine st_gd ⟨by omega, by rw [e]; omega⟩ ?_
  refine st_p (by rw [e]) ?_
  refine st_cp (hA.p (fun c => c8_rule)) hS ?_
  refine st_cp (hB.p (fun c => c8_rule)) hS ?_
  refine st_gd ⟨by omega, by rw [e]; omega⟩ ?_
  refine st_p (by rw [e]) ?_
  refine st_cp (hA.p (fun c => c8_pivots)) hS ?_
  refine st_cp (hB.p (fun c => c8_pivots)) hS ?_
  refine st_gd ⟨by omega, by rw [e]; omega⟩ ?_
  refine st_p (by rw [e]) ?_
  refine st_cp (hA.p (fun c => c8_allPivots)) hS ?_
  refine st_cp (hB.p (fun c => c8_allPivots)) hS ?_
  refine st_gd ⟨by omega, by rw [e]; omega⟩ ?_
  refine st_p (by rw [e]) ?_
  refine st_cp (hA.p (fun c => c8_idlePivots)) hS ?_
  refine st_cp (hB.p (fun c => c8_idlePivots)) hS ?_
  refine st_gd ⟨by omega, by rw [e]; omega⟩ ?_
  refine st_p (by rw [e]) ?_
  refine al_74 hA hB hL hL' e (fun c1 hS => ?_) (z.1 0).toNat LF 0 c (by omega) (by omega) (by rw [LF_g]; omega) hS
  refine al_113 hA hB hL hL' e (fun c1 hS => ?_) (z.1 1).toNat LF 0 c1 (by omega) (by omega) (by rw [LF_g]; omega) hS
  refine st_gd (by decide) ?_
  exact hT c1 hS
end
end TA
