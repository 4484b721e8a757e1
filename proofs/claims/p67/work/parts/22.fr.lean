section FR
/-! fractions in lowest terms, as both sides make them -/
def nu (n d : Int) : Int := if d < 0 then -(n.tdiv (Int.gcd n d)) else n.tdiv (Int.gcd n d)
def de (n d : Int) : Int := (if d < 0 then -d else d).tdiv (Int.gcd n d)
theorem nu_e {n d : Int} (hd : d ≠ 0) : nu n d * d = n * de n d ∧ 0 < de n d ∧ Int.gcd (nu n d) (de n d) = 1 := by
  have hg : 0 < Int.gcd n d := Int.gcd_pos_of_ne_zero_right n hd
  have hg0 : (0 : Int) < (Int.gcd n d : Int) := by omega
  obtain ⟨a, ha⟩ := Int.gcd_dvd_left n d
  obtain ⟨b, hb⟩ := Int.gcd_dvd_right n d
  have hc := Int.gcd_ediv_gcd_ediv_gcd hg
  have ea : n.tdiv (Int.gcd n d) = a := by
    have : (↑(Int.gcd n d) * a).tdiv (Int.gcd n d) = a := Int.mul_tdiv_cancel_left _ (by omega)
    rw [← ha] at this
    exact this
  have eb : d.tdiv (Int.gcd n d) = b := by
    have : (↑(Int.gcd n d) * b).tdiv (Int.gcd n d) = b := Int.mul_tdiv_cancel_left _ (by omega)
    rw [← hb] at this
    exact this
  have ea' : n / (Int.gcd n d : Int) = a := by
    have : (↑(Int.gcd n d) * a) / (Int.gcd n d : Int) = a := Int.mul_ediv_cancel_left _ (by omega)
    rw [← ha] at this
    exact this
  have eb' : d / (Int.gcd n d : Int) = b := by
    have : (↑(Int.gcd n d) * b) / (Int.gcd n d : Int) = b := Int.mul_ediv_cancel_left _ (by omega)
    rw [← hb] at this
    exact this
  rw [ea', eb'] at hc
  unfold nu de
  generalize (Int.gcd n d : Int) = g at *
  have hcr : a * d = n * b := by rw [ha, hb, Int.mul_left_comm, Int.mul_assoc]
  by_cases h : d < 0
  · have hb0 : b < 0 := by
      by_cases hb0 : b < 0
      · exact hb0
      · have := Int.mul_nonneg (show 0 ≤ g by omega) (show 0 ≤ b by omega)
        omega
    rw [if_pos h, if_pos h, ea, Int.neg_tdiv, eb]
    refine ⟨by rw [Int.neg_mul, Int.mul_neg, hcr], by omega, by rw [Int.neg_gcd, Int.gcd_neg]; exact hc⟩
  · have hb0 : 0 < b := by
      by_cases hb0 : 0 < b
      · exact hb0
      · have := Int.mul_nonneg (show 0 ≤ g by omega) (show 0 ≤ -b by omega)
        rw [Int.mul_neg] at this
        omega
    rw [if_neg h, if_neg h, ea, eb]
    exact ⟨hcr, hb0, hc⟩
theorem nu_n {n d : Int} : (nu n d).natAbs ≤ n.natAbs := by
  unfold nu
  split
  · rw [Int.natAbs_neg]; exact Int.natAbs_tdiv_le_natAbs _ _
  · exact Int.natAbs_tdiv_le_natAbs _ _
theorem de_n {n d : Int} : (de n d).natAbs ≤ d.natAbs := by
  unfold de
  split
  · have := Int.natAbs_tdiv_le_natAbs (-d) (Int.gcd n d)
    rw [Int.natAbs_neg] at this
    exact this
  · exact Int.natAbs_tdiv_le_natAbs _ _
theorem cop_u {a b a' b' : Int} (hb : 0 < b) (hb' : 0 < b') (hc : Int.gcd a b = 1) (hc' : Int.gcd a' b' = 1) (h : a * b' = a' * b) : a = a' ∧ b = b' := by
  have h1 : Nat.gcd b.natAbs a.natAbs = 1 := by rw [Nat.gcd_comm]; exact hc
  have h2 : Nat.gcd b'.natAbs a'.natAbs = 1 := by rw [Nat.gcd_comm]; exact hc'
  have h3 : a.natAbs * b'.natAbs = a'.natAbs * b.natAbs := by rw [← Int.natAbs_mul, ← Int.natAbs_mul, h]
  have h4 : b.natAbs ∣ b'.natAbs := Nat.Coprime.dvd_of_dvd_mul_left (m := a.natAbs) h1 ⟨a'.natAbs, by rw [h3, Nat.mul_comm]⟩
  have h5 : b'.natAbs ∣ b.natAbs := Nat.Coprime.dvd_of_dvd_mul_left (m := a'.natAbs) h2 ⟨a.natAbs, by rw [← h3, Nat.mul_comm]⟩
  have h6 := Nat.dvd_antisymm h4 h5
  have h7 : b = b' := by omega
  refine ⟨?_, h7⟩
  rw [← h7] at h
  exact Int.eq_of_mul_eq_mul_right (by omega) h
theorem nu_u {n d n' d' : Int} (hd : d ≠ 0) (hd' : d' ≠ 0) (h : n * d' = n' * d) : nu n d = nu n' d' ∧ de n d = de n' d' := by
  obtain ⟨h1, h2, h3⟩ := nu_e (n := n) hd
  obtain ⟨h4, h5, h6⟩ := nu_e (n := n') hd'
  refine cop_u h2 h5 h3 h6 ?_
  generalize nu n d = a at *
  generalize de n d = b at *
  generalize nu n' d' = a' at *
  generalize de n' d' = b' at *
  have h7 : d * d' ≠ 0 := Int.mul_ne_zero hd hd'
  refine Int.eq_of_mul_eq_mul_right h7 ?_
  have e1 : a * b' * (d * d') = (a * d) * (b' * d') := by rw [Int.mul_assoc, Int.mul_assoc, Int.mul_left_comm b']
  have e2 : a' * b * (d * d') = (a' * d') * (b * d) := by rw [Int.mul_assoc, Int.mul_assoc, Int.mul_comm d d', Int.mul_left_comm b]
  rw [e1, e2, h1, h4]
  have e3 : n * b * (b' * d') = n * d' * (b * b') := by rw [Int.mul_assoc, Int.mul_assoc, Int.mul_comm b' d', Int.mul_left_comm b]
  have e4 : n' * b' * (b * d) = n' * d * (b * b') := by rw [Int.mul_assoc, Int.mul_assoc, Int.mul_comm b d, Int.mul_left_comm b', Int.mul_comm b' b]
  rw [e3, e4, h]
theorem nu_1 {n : Int} : nu n 1 = n ∧ de n 1 = 1 := by
  unfold nu de
  rw [Int.gcd_one]
  simp
theorem nu_s {n d : Int} (hd : 0 < d) : (0 < nu n d ↔ 0 < n) ∧ (nu n d < 0 ↔ n < 0) ∧ (nu n d = 0 ↔ n = 0) := by
  obtain ⟨h1, h2, -⟩ := nu_e (n := n) (show d ≠ 0 by omega)
  generalize nu n d = a at *
  generalize de n d = b at *
  have p1 : 0 < a → 0 < n := fun h => by
    have := Int.mul_pos h hd
    by_cases hn : 0 < n
    · exact hn
    · have := Int.mul_nonneg (show 0 ≤ -n by omega) (show 0 ≤ b by omega)
      rw [Int.neg_mul] at this
      omega
  have p2 : a < 0 → n < 0 := fun h => by
    have := Int.mul_neg_of_neg_of_pos h hd
    by_cases hn : n < 0
    · exact hn
    · have := Int.mul_nonneg (show 0 ≤ n by omega) (show 0 ≤ b by omega)
      omega
  have p3 : a = 0 → n = 0 := fun h => by
    rw [h, Int.zero_mul] at h1
    rcases Int.mul_eq_zero.mp h1.symm with h3 | h3
    · exact h3
    · omega
  rcases Int.lt_trichotomy a 0 with h | h | h
  · have := p2 h; omega
  · have := p3 h; omega
  · have := p1 h; omega
/-- Euclid -/
theorem md2 {b r : Nat} (hr : 0 < r) (h : r < b) : 2 * (b % r) < b := by
  have h1 := Nat.mod_lt b hr
  have h2 := Nat.div_add_mod b r
  have h3 : 1 ≤ b / r := Nat.div_pos (by omega) hr
  have h4 : r * 1 ≤ r * (b / r) := Nat.mul_le_mul_left r h3
  omega
theorem gcd_m (a b : Nat) : Nat.gcd b (a % b) = Nat.gcd a b := by
  rw [Nat.gcd_comm b, ← Nat.gcd_rec, Nat.gcd_comm]
theorem dv9 (κ : Int → Option Int) : ∀ (k fuel a b : Nat), b < 2 ^ k → 2 * k + 1 ≤ fuel → a < 4611686018427387904 → b < 4611686018427387904 → f_X9_divisor_28 κ fuel (a : Int) (b : Int) = κ (Nat.gcd a b : Nat) := by
  have h0 : ∀ fuel a : Nat, 1 ≤ fuel → a < 4611686018427387904 → f_X9_divisor_28 κ fuel (a : Int) ((0 : Nat) : Int) = κ (Nat.gcd a 0 : Nat) := by
    intro fuel a hf ha
    obtain ⟨f, rfl⟩ : ∃ f, fuel = f + 1 := ⟨fuel - 1, by omega⟩
    rw [f_X9_divisor_28_s]
    unfold b_X9_divisor_28
    rw [gd_t (by omega), bq_p (by omega), Nat.gcd_zero_right]
  have hs : ∀ fuel a b : Nat, b ≠ 0 → a < 4611686018427387904 → b < 4611686018427387904 → f_X9_divisor_28 κ (fuel + 1) (a : Int) (b : Int) = f_X9_divisor_28 κ fuel (b : Int) ((a % b : Nat) : Int) := by
    intro fuel a b hb ha hb2
    rw [f_X9_divisor_28_s]
    unfold b_X9_divisor_28
    rw [gd_t (by omega), bq_n (by omega), gd_t ⟨by omega, by omega, by omega⟩]
    rfl
  intro k
  induction k with
  | zero =>
    intro fuel a b hb hf ha hb2
    obtain rfl : b = 0 := by omega
    exact h0 fuel a (by omega) ha
  | succ k ih =>
    intro fuel a b hb hf ha hb2
    by_cases hb0 : b = 0
    · subst hb0; exact h0 fuel a (by omega) ha
    obtain ⟨f, rfl⟩ : ∃ f, fuel = f + 1 + 1 := ⟨fuel - 2, by omega⟩
    have hr := Nat.mod_lt a (show b > 0 by omega)
    rw [hs _ a b hb0 ha hb2, ← gcd_m a b]
    by_cases hr0 : a % b = 0
    · rw [hr0]
      exact h0 (f + 1) b (by omega) hb2
    · have hr2 := Nat.mod_lt b (show a % b > 0 by omega)
      have h9 := md2 (show 0 < a % b by omega) hr
      rw [Nat.pow_succ] at hb
      rw [hs _ b (a % b) hr0 hb2 (by omega), ← gcd_m b (a % b)]
      exact ih f (a % b) (b % (a % b)) (by omega) (by omega) (by omega) (by omega)
theorem LF_g : LF = 3000 := rfl
theorem div9 {a b : Int} (ha : -4611686018427387904 < a ∧ a < 4611686018427387904) (hb : -4611686018427387904 < b ∧ b < 4611686018427387904) : f_X9_divisor a b = some (Int.gcd a b : Int) := by
  unfold f_X9_divisor
  simp only [jn]
  have h := dv9 (fun v5 => some v5) 62 LF a.natAbs b.natAbs (by omega) (by rw [LF_g]; omega) (by omega) (by omega)
  have e : Nat.gcd a.natAbs b.natAbs = Int.gcd a b := rfl
  rw [e] at h
  rw [gd_t (by omega)]
  by_cases h1 : 0 ≤ a <;> by_cases h2 : 0 ≤ b
  · rw [bq_p h1, gd_t (by omega), bq_p h2]
    rw [show ((a.natAbs : Nat) : Int) = a by omega, show ((b.natAbs : Nat) : Int) = b by omega] at h
    exact h
  · rw [bq_p h1, gd_t (by omega), bq_n h2]
    rw [show ((a.natAbs : Nat) : Int) = a by omega, show ((b.natAbs : Nat) : Int) = -b by omega] at h
    exact h
  · rw [bq_n h1, gd_t (by omega), bq_p h2]
    rw [show ((a.natAbs : Nat) : Int) = -a by omega, show ((b.natAbs : Nat) : Int) = b by omega] at h
    exact h
  · rw [bq_n h1, gd_t (by omega), bq_n h2]
    rw [show ((a.natAbs : Nat) : Int) = -a by omega, show ((b.natAbs : Nat) : Int) = -b by omega] at h
    exact h
theorem dv8 (κ : Int → Option Int) : ∀ (k fuel a b : Nat) (t : Int), b < 2 ^ k → 2 * k + 1 ≤ fuel → 0 ≤ t → t + 2 * k + 1 ≤ 100 → a < 4611686018427387904 → b < 4611686018427387904 → f_X8_commonDivisor_15 κ fuel (a : Int) (b : Int) t = κ (Nat.gcd a b : Nat) := by
  have h0 : ∀ (fuel a : Nat) (t : Int), 1 ≤ fuel → 0 ≤ t → t ≤ 100 → a < 4611686018427387904 → f_X8_commonDivisor_15 κ fuel (a : Int) ((0 : Nat) : Int) t = κ (Nat.gcd a 0 : Nat) := by
    intro fuel a t hf ht ht2 ha
    obtain ⟨f, rfl⟩ : ∃ f, fuel = f + 1 := ⟨fuel - 1, by omega⟩
    rw [f_X8_commonDivisor_15_s]
    unfold b_X8_commonDivisor_15
    rw [gd_t (by omega), Nat.gcd_zero_right]
    by_cases h : 100 ≤ t
    · rw [bq_p h]
    · rw [bq_n h, gd_t (by omega), bq_p (by omega)]
  have hs : ∀ (fuel a b : Nat) (t : Int), b ≠ 0 → 0 ≤ t → t < 100 → a < 4611686018427387904 → b < 4611686018427387904 → f_X8_commonDivisor_15 κ (fuel + 1) (a : Int) (b : Int) t = f_X8_commonDivisor_15 κ fuel (b : Int) ((a % b : Nat) : Int) (t + 1) := by
    intro fuel a b t hb ht ht2 ha hb2
    rw [f_X8_commonDivisor_15_s]
    unfold b_X8_commonDivisor_15
    rw [gd_t (by omega), bq_n (by omega), gd_t (by omega), bq_n (by omega), gd_t ⟨by omega, by omega, by omega⟩]
    rfl
  intro k
  induction k with
  | zero =>
    intro fuel a b t hb hf ht ht2 ha hb2
    obtain rfl : b = 0 := by omega
    exact h0 fuel a t (by omega) ht (by omega) ha
  | succ k ih =>
    intro fuel a b t hb hf ht ht2 ha hb2
    by_cases hb0 : b = 0
    · subst hb0; exact h0 fuel a t (by omega) ht (by omega) ha
    obtain ⟨f, rfl⟩ : ∃ f, fuel = f + 1 + 1 := ⟨fuel - 2, by omega⟩
    have hr := Nat.mod_lt a (show b > 0 by omega)
    rw [hs _ a b t hb0 ht (by omega) ha hb2, ← gcd_m a b]
    by_cases hr0 : a % b = 0
    · rw [hr0]
      exact h0 (f + 1) b (t + 1) (by omega) (by omega) (by omega) hb2
    · have hr2 := Nat.mod_lt b (show a % b > 0 by omega)
      have h9 := md2 (show 0 < a % b by omega) hr
      rw [Nat.pow_succ] at hb
      rw [hs _ b (a % b) (t + 1) hr0 (by omega) (by omega) hb2 (by omega), ← gcd_m b (a % b)]
      exact ih f (a % b) (b % (a % b)) (t + 1 + 1) (by omega) (by omega) (by omega) (by omega) (by omega) (by omega)
theorem div8 {a b : Int} (ha : -4611686018427387904 < a ∧ a < 4611686018427387904) (hb : -281474976710656 < b ∧ b < 281474976710656) : f_X8_commonDivisor a b = some (Int.gcd a b : Int) := by
  unfold f_X8_commonDivisor
  have h := dv8 (fun v1 => some v1) 48 LF a.natAbs b.natAbs 0 (by omega) (by rw [LF_g]; omega) (by omega) (by omega) (by omega) (by omega)
  have e : Nat.gcd a.natAbs b.natAbs = Int.gcd a b := rfl
  rw [e] at h
  rw [gd_t (by omega), gd_t (by omega), show (if 0 < a then a else -a) = ((a.natAbs : Nat) : Int) by split <;> omega, show (if 0 < b then b else -b) = ((b.natAbs : Nat) : Int) by split <;> omega]
  exact h
theorem gcd_lt {a b : Int} (hb : b ≠ 0) : 0 < (Int.gcd a b : Int) ∧ (Int.gcd a b : Int) ≤ (b.natAbs : Nat) := by
  have h1 := Int.gcd_pos_of_ne_zero_right a hb
  have h2 := Nat.le_of_dvd (show 0 < b.natAbs by omega) (Int.gcd_dvd_natAbs_right a b)
  omega
theorem lowN {n d : Int} (hn : -4611686018427387904 < n ∧ n < 4611686018427387904) (hd : -281474976710656 < d ∧ d < 281474976710656) (h0 : d ≠ 0) : f_X8_lowNumerator n d = some (nu n d) := by
  unfold f_X8_lowNumerator
  have hg := gcd_lt (a := n) h0
  rw [div8 hn hd, cv_s, gd_t (by omega), bq_n (by omega), gd_t (by omega)]
  unfold nu
  by_cases h : d < 0
  · rw [if_pos h, bq_n (by omega), gd_t ⟨by omega, by omega, by omega⟩]
  · rw [if_neg h, bq_p (by omega), gd_t ⟨by omega, by omega, by omega⟩]
theorem lowD {n d : Int} (hn : -4611686018427387904 < n ∧ n < 4611686018427387904) (hd : -281474976710656 < d ∧ d < 281474976710656) (h0 : d ≠ 0) : f_X8_lowDenominator n d = some (de n d) := by
  unfold f_X8_lowDenominator
  have hg := gcd_lt (a := n) h0
  have e : (if 0 < d then d else -d) = if d < 0 then -d else d := by (repeat' split) <;> omega
  rw [div8 hn hd, cv_s, gd_t (by omega), bq_n (by omega), gd_t (by omega), e, gd_t ⟨by omega, by split <;> omega, by omega⟩]
  rfl
/-- the reference's own fraction -/
def fs (c : W0) (th : Nat) (x y : Int) : W0 := upc c th (updZ (updZ (c th) 16 x) 17 y)
theorem fs_n {c : W0} {th q : Nat} {x y : Int} (h : q ≠ th) : fs c th x y q = c q := upc_n h
theorem fs_o {c : W0} {th : Nat} {x y : Int} : fs c th x y th 16 = x := by unfold fs; rw [upc_s, updZ_n (by decide), updZ_s]
theorem fs_u {c : W0} {th : Nat} {x y : Int} : fs c th x y th 17 = y := by unfold fs; rw [upc_s, updZ_s]
theorem fs_i {c : W0} {th : Nat} {x y i : Int} (h : i ≠ 16 ∧ i ≠ 17) : fs c th x y th i = c th i := by unfold fs; rw [upc_s, updZ_n h.2, updZ_n h.1]
theorem fs_fs {c : W0} {th : Nat} {x y x' y' : Int} : fs (fs c th x y) th x' y' = fs c th x' y' := by
  unfold fs
  rw [upc_u, upc_s]
  congr 1
  funext j
  unfold updZ
  (repeat' split) <;> first | rfl | omega
theorem fs_id {c : W0} {th : Nat} : fs c th (c th 16) (c th 17) = c := by
  unfold fs
  rw [show updZ (updZ (c th) 16 (c th 16)) 17 (c th 17) = c th by
    funext j
    unfold updZ
    by_cases h : j = 17
    · rw [if_pos h, h]
    · rw [if_neg h]
      by_cases h2 : j = 16
      · rw [if_pos h2, h2]
      · rw [if_neg h2], upc_i]
abbrev B62 (z : Int) : Prop := -4611686018427387904 < z ∧ z < 4611686018427387904
theorem becs {th : Nat} {n d : Int} {c : W0} (hn : B62 n) (hd : B62 d) (h0 : d ≠ 0) : f_X9_becomes th n d c = some (0, fs c th (nu n d) (de n d)) := by
  unfold f_X9_becomes
  have hg := gcd_lt (a := n) h0
  simp only [jn]
  rw [div9 hn hd, cv_s, gd_t (by omega)]
  by_cases h : 0 ≤ d
  · rw [bq_p h, gd_t ⟨by omega, by omega, by omega⟩]
    simp only [sto]
    rw [gd_t ⟨by omega, by omega, by omega⟩]
    unfold fs nu de
    rw [upc_u, upc_s, if_neg (by omega), if_neg (by omega)]
  · rw [bq_n h, gd_t ⟨by omega, by omega, by omega⟩]
    simp only [sto]
    rw [gd_t ⟨by omega, by omega, by omega⟩]
    unfold fs nu de
    rw [upc_u, upc_s, if_pos (by omega), if_pos (by omega), Int.tdiv_neg, Int.tdiv_neg, Int.neg_tdiv]
theorem adds {th : Nat} {k X A D : Int} {c : W0} (hD : 0 < D ∧ D ≤ 200000) (hX : -100000000000 ≤ X ∧ X ≤ 100000000000) (hk : -100 ≤ k ∧ k ≤ 100) (hA : -1000000000 ≤ A ∧ A ≤ 1000000000) (e1 : c th 16 = nu X D) (e2 : c th 17 = de X D) : f_X9_adds th k (nu A D) (de A D) c = some (0, fs c th (nu (X + k * A) D) (de (X + k * A) D)) := by
  unfold f_X9_adds
  rw [e1, e2]
  obtain ⟨x1, x2, -⟩ := nu_e (n := X) (show D ≠ 0 by omega)
  obtain ⟨a1, a2, -⟩ := nu_e (n := A) (show D ≠ 0 by omega)
  have x3 := nu_n (n := X) (d := D); have x4 := de_n (n := X) (d := D)
  have a3 := nu_n (n := A) (d := D); have a4 := de_n (n := A) (d := D)
  generalize nu X D = x at *
  generalize de X D = y at *
  generalize nu A D = a at *
  generalize de A D = b at *
  have m1 := mbd (x := x) (A := 100000000000) (by omega) (show -200000 ≤ b ∧ b ≤ 200000 by omega)
  have m2 := mbd (mbd hk (show -1000000000 ≤ a ∧ a ≤ 1000000000 by omega)) (show -200000 ≤ y ∧ y ≤ 200000 by omega)
  have m3 := mbd (show -200000 ≤ y ∧ y ≤ 200000 by omega) (show -200000 ≤ b ∧ b ≤ 200000 by omega)
  have hyb := Int.mul_pos x2 a2
  rw [becs ⟨by omega, by omega⟩ ⟨by omega, by omega⟩ (by omega), cl_s]
  obtain ⟨u1, u2⟩ := nu_u (n := x * b + k * a * y) (d := y * b) (n' := X + k * A) (d' := D) (by omega) (by omega) (by
    have q1 : x * b * D = X * (y * b) := by rw [Int.mul_assoc, Int.mul_comm b D, ← Int.mul_assoc, x1, Int.mul_assoc]
    have q2 : k * a * y * D = k * A * (y * b) := by rw [Int.mul_assoc k, Int.mul_assoc k, Int.mul_assoc k, Int.mul_assoc a, Int.mul_comm y D, ← Int.mul_assoc a, a1, Int.mul_assoc A, Int.mul_comm b y]
    rw [Int.add_mul, q1, q2, Int.add_mul])
  rw [u1, u2]
end FR
