section MC
variable {th : Nat} {F : Int → Int} {c : W0}
theorem leastRow9 (hL : Laid th F c) (g : GdP F) (hN : GdN F) (hd : 0 < dF F) {q : Int} (hq : 0 ≤ q ∧ q < F 0 + F 1) : f_X9_leastRow th q c = some (lrV F q) := by
  have g0 := g.1; have g1 := g.2.1
  have L : ∀ (k fuel : Nat) (l v : Int), l + k = F 1 → 0 ≤ l → k + 1 ≤ fuel → v = lrI (lrP F q) (lrB F q) l → f_X9_leastRow_4 th q c (fun v1 => some v1) fuel v l = some (lrV F q) := by
    intro k
    induction k with
    | zero =>
      intro fuel l v hl h0 hf hv
      obtain ⟨f, rfl⟩ : ∃ f, fuel = f + 1 := ⟨fuel - 1, by omega⟩
      obtain rfl : l = F 1 := by omega
      rw [f_X9_leastRow_4_s]
      unfold b_X9_leastRow_4
      rw [hL.1, gd_t (by omega), bq_p (by omega), hv]
      rfl
    | succ k ih =>
      intro fuel l v hl h0 hf hv
      obtain ⟨f, rfl⟩ : ∃ f, fuel = f + 1 := ⟨fuel - 1, by omega⟩
      have hr := lrI_r (pos := lrP F q) (bt := lrB F q) h0
      have ht := tF_b g hN (r := l) (q := q) (by omega) hq
      have hn := nu_n (n := tF F l q) (d := dF F)
      have keep : ¬ (lrP F q l ∧ (v < 0 ∨ lrB F q l v)) → f_X9_leastRow_4 th q c (fun v1 => some v1) f v (l + 1) = some (lrV F q) := fun z => ih f (l + 1) v (by omega) (by omega) (by omega) (by
        rw [lrI_f h0 (by rw [← hv]; exact z)]
        exact hv)
      have take : lrP F q l → (v < 0 ∨ lrB F q l v) → f_X9_leastRow_4 th q c (fun v1 => some v1) f l (l + 1) = some (lrV F q) := fun a b => ih f (l + 1) l (by omega) (by omega) (by omega) (by
        rw [lrI_t h0 a (by rw [← hv]; exact b)])
      rw [f_X9_leastRow_4_s]
      unfold b_X9_leastRow_4
      simp only [jn]
      rw [hL.1, gd_t (by omega), bq_n (by omega), entry9 hL g ⟨h0, by omega⟩ (by omega), cv_s, tQ_c g hq.2, gd_t (by omega)]
      by_cases hp : 0 < tF F l q
      · rw [bq_n (by have := (nu_s (n := tF F l q) hd).1.mpr hp; omega), gd_t (by omega), bq_n (by omega), gd_t (by omega)]
        by_cases hv0 : v < 0
        · rw [bq_p hv0, gd_t (by omega), bq_n (by omega), bq_p (by omega)]
          exact take hp (Or.inl hv0)
        · have hv3 : 0 ≤ v ∧ v < l ∧ 0 < tF F v q := by
            rw [hv] at hv0 ⊢
            rcases hr with h | h
            · omega
            · exact h
          obtain ⟨a, ea, ha, ha1, ha2⟩ := against9 hL g hN hd hq (r := l) (f := v) ⟨h0, by omega⟩ ⟨hv3.1, by omega⟩ hp hv3.2.2
          have hNl := hN l h0 (by omega); have hNv := hN v hv3.1 (by omega)
          rw [bq_n hv0, ea, cv_s, gd_t (by omega), bq_n (by omega), gd_t ha]
          by_cases h1 : a < 0
          · rw [bq_p h1]
            exact take hp (Or.inr (Or.inl (ha1.mp h1)))
          · rw [bq_n h1, gd_t ha]
            by_cases h2 : a = 0
            · rw [bq_p h2, gd_t (by omega), gd_t (by omega), hL.2.1 l h0 (by omega), hL.2.1 v hv3.1 (by omega), gd_t (by omega)]
              by_cases h3 : F (27 + v) ≤ F (27 + l)
              · rw [bq_p h3]
                refine keep (fun z => ?_)
                rcases z.2 with z1 | z1 | z1
                · exact hv0 z1
                · exact h1 (ha1.mpr z1)
                · have := z1.2
                  omega
              · rw [bq_n h3]
                exact take hp (Or.inr (Or.inr ⟨ha2.mp h2, by omega⟩))
            · rw [bq_n h2]
              refine keep (fun z => ?_)
              rcases z.2 with z1 | z1 | z1
              · exact hv0 z1
              · exact h1 (ha1.mpr z1)
              · exact h2 (ha2.mpr z1.1)
      · have hle : nu (tF F l q) (dF F) ≤ 0 := Int.not_lt.mp (fun z => hp ((nu_s (n := tF F l q) hd).1.mp z))
        rw [bq_p hle, gd_t (by omega), bq_p trivial, gd_t (by omega), bq_p trivial]
        exact keep (fun z => hp z.1)
  exact L (F 1).toNat LF 0 (-1) (by omega) (by omega) (by rw [LF_g]; omega) rfl
/-! which fraction is more -/
theorem more_step {n d m e : Int} (hd : 0 < d) (he : 0 < e) (hq : n / d = m / e) : m * d < n * e ↔ d * (m % e) < e * (n % d) := by
  have h1 := Int.mul_ediv_add_emod n d
  have h2 := Int.mul_ediv_add_emod m e
  rw [← hq] at h2
  generalize n / d = q at *
  generalize n % d = r at *
  generalize m % e = s at *
  have e1 : m * d = d * (e * q) + d * s := by rw [← h2, Int.mul_comm, Int.mul_add]
  have e2 : n * e = d * (e * q) + e * r := by
    rw [← h1, Int.add_mul, Int.mul_comm r e]
    congr 1
    ac_rfl
  rw [e1, e2]
  omega
theorem more_lt {n d m e : Int} (hd : 0 < d) (he : 0 < e) (hq : n / d < m / e) : ¬ m * d < n * e := by
  intro h
  have h1 := Int.mul_ediv_add_emod n d
  have h2 := Int.mul_ediv_add_emod m e
  have r1 := Int.emod_lt_of_pos n hd
  have s1 := Int.emod_nonneg m (show e ≠ 0 by omega)
  generalize n / d = q at *
  generalize m / e = p at *
  have e1 := Int.mul_le_mul_of_nonneg_left (show q + 1 ≤ p by omega) (show 0 ≤ d * e from Int.mul_nonneg (by omega) (by omega))
  have e2 : n * e ≤ d * e * (q + 1) := by
    have a1 : n ≤ d * (q + 1) := by rw [Int.mul_add]; omega
    have a2 := Int.mul_le_mul_of_nonneg_right a1 (show 0 ≤ e by omega)
    have a3 : d * (q + 1) * e = d * e * (q + 1) := by ac_rfl
    omega
  have e3 : d * e * p ≤ m * d := by
    have a2 := Int.mul_le_mul_of_nonneg_right (show e * p ≤ m by omega) (show 0 ≤ d by omega)
    have a3 : e * p * d = d * e * p := by ac_rfl
    omega
  omega
theorem more_gt {n d m e : Int} (hd : 0 < d) (he : 0 < e) (hq : m / e < n / d) : m * d < n * e := by
  have h1 := Int.mul_ediv_add_emod n d
  have h2 := Int.mul_ediv_add_emod m e
  have r1 := Int.emod_lt_of_pos m he
  have s1 := Int.emod_nonneg n (show d ≠ 0 by omega)
  generalize n / d = q at *
  generalize m / e = p at *
  have e1 := Int.mul_le_mul_of_nonneg_left (show p + 1 ≤ q by omega) (show 0 ≤ d * e from Int.mul_nonneg (by omega) (by omega))
  have e2 : m * d < d * e * (p + 1) := by
    have a1 : m < e * (p + 1) := by rw [Int.mul_add]; omega
    have a2 := Int.mul_lt_mul_of_pos_right a1 hd
    have a3 : e * (p + 1) * d = d * e * (p + 1) := by ac_rfl
    omega
  have e3 : d * e * q ≤ n * e := by
    have a2 := Int.mul_le_mul_of_nonneg_right (show d * q ≤ n by omega) (show 0 ≤ e by omega)
    have a3 : d * q * e = d * e * q := by ac_rfl
    omega
  omega
theorem half_m {b r : Int} (hr : 0 < r) (h : r < b) : 2 * (b % r) < b := by
  have h1 := Int.emod_lt_of_pos b hr
  have h2 := Int.mul_ediv_add_emod b r
  have h3 : 1 ≤ b / r := Int.le_ediv_of_mul_le hr (by omega)
  have h4 := Int.mul_le_mul_of_nonneg_left h3 (show 0 ≤ r by omega)
  omega
/-- the end of isMore's turns: floors unlike, or no rest -/
def MEnd (n d m e : Int) : Prop := ¬ (n / d = m / e ∧ n % d ≠ 0 ∧ m % e ≠ 0)
theorem more_l (κ : Int → Int → Int → Int → Option Int) : ∀ (k fuel : Nat) (n d m e : Int), d < (2 : Int) ^ k → 2 * k + 1 ≤ fuel → 0 ≤ n → 0 ≤ m → 0 < d → 0 < e → B62 n → B62 m → B62 d → B62 e → ∃ n' d' m' e', f_X9_isMore_14 κ fuel n d m e = κ n' d' m' e' ∧ (m' * d' < n' * e' ↔ m * d < n * e) ∧ MEnd n' d' m' e' ∧ 0 ≤ n' ∧ 0 ≤ m' ∧ 0 < d' ∧ 0 < e' ∧ B62 n' ∧ B62 m' ∧ B62 d' ∧ B62 e' := by
  have one : ∀ (fuel : Nat) (n d m e : Int), 0 ≤ n → 0 ≤ m → 0 < d → 0 < e → B62 n → B62 m → B62 d → B62 e → (MEnd n d m e ∧ f_X9_isMore_14 κ (fuel + 1) n d m e = κ n d m e) ∨ (n / d = m / e ∧ 0 < n % d ∧ n % d < d ∧ 0 < m % e ∧ m % e < e ∧ f_X9_isMore_14 κ (fuel + 1) n d m e = f_X9_isMore_14 κ fuel e (m % e) d (n % d)) := by
    intro fuel n d m e hn hm hd he bn bm bd be
    have t1 : Int.tdiv n d = n / d := Int.tdiv_eq_ediv_of_nonneg hn
    have t2 : Int.tdiv m e = m / e := Int.tdiv_eq_ediv_of_nonneg hm
    have t3 : Int.tmod n d = n % d := Int.tmod_eq_emod_of_nonneg hn
    have t4 : Int.tmod m e = m % e := Int.tmod_eq_emod_of_nonneg hm
    have q1 := Int.ediv_nonneg hn (show 0 ≤ d by omega); have q2 := Int.ediv_nonneg hm (show 0 ≤ e by omega)
    have q3 : n / d ≤ n := Int.ediv_le_self d hn
    have q4 : m / e ≤ m := Int.ediv_le_self e hm
    have r1 := Int.emod_nonneg n (show d ≠ 0 by omega); have r2 := Int.emod_lt_of_pos n hd
    have r3 := Int.emod_nonneg m (show e ≠ 0 by omega); have r4 := Int.emod_lt_of_pos m he
    rw [f_X9_isMore_14_s]
    unfold b_X9_isMore_14
    rw [t1, t2, t3, t4, gd_t ⟨by omega, by omega, by omega⟩, gd_t ⟨by omega, by omega, by omega⟩, gd_t ⟨by omega, by omega⟩]
    by_cases h1 : n / d = m / e
    · rw [bq_p h1, gd_t ⟨by omega, by omega, by omega⟩, gd_t (by omega)]
      by_cases h2 : n % d = 0
      · rw [bq_p h2]
        exact Or.inl ⟨fun z => z.2.1 h2, rfl⟩
      · rw [bq_n h2, gd_t ⟨by omega, by omega, by omega⟩, gd_t (by omega)]
        by_cases h3 : m % e = 0
        · rw [bq_p h3]
          exact Or.inl ⟨fun z => z.2.2 h3, rfl⟩
        · rw [bq_n h3, gd_t ⟨by omega, by omega, by omega⟩, gd_t ⟨by omega, by omega, by omega⟩]
          exact Or.inr ⟨h1, by omega, r2, by omega, r4, rfl⟩
    · rw [bq_n h1]
      exact Or.inl ⟨fun z => h1 z.1, rfl⟩
  intro k
  induction k with
  | zero =>
    intro fuel n d m e hk hf hn hm hd he bn bm bd be
    have : (2 : Int) ^ 0 = 1 := rfl
    omega
  | succ k ih =>
    intro fuel n d m e hk hf hn hm hd he bn bm bd be
    obtain ⟨f, rfl⟩ : ∃ f, fuel = f + 1 + 1 := ⟨fuel - 2, by omega⟩
    rcases one (f + 1) n d m e hn hm hd he bn bm bd be with ⟨h1, h2⟩ | ⟨h1, h2, h3, h4, h5, h6⟩
    · exact ⟨n, d, m, e, h2, Iff.rfl, h1, hn, hm, hd, he, bn, bm, bd, be⟩
    · rcases one f e (m % e) d (n % d) (by omega) (by omega) h4 h2 be bd ⟨by omega, by omega⟩ ⟨by omega, by omega⟩ with ⟨k1, k2⟩ | ⟨k1, k2, k3, k4, k5, k6⟩
      · exact ⟨e, m % e, d, n % d, h6.trans k2, (more_step hd he h1).symm, k1, by omega, by omega, h4, h2, be, bd, ⟨by omega, by omega⟩, ⟨by omega, by omega⟩⟩
      · have hh := half_m h2 h3
        have h2k : (2 : Int) ^ (k + 1) = 2 ^ k * 2 := Int.pow_succ ..
        obtain ⟨n', d', m', e', j1, j2, j3⟩ := ih f (n % d) (d % (n % d)) (m % e) (e % (m % e)) (by omega) (by omega) (by omega) (by omega) k4 k2 ⟨by omega, by omega⟩ ⟨by omega, by omega⟩ ⟨by omega, by omega⟩ ⟨by omega, by omega⟩
        exact ⟨n', d', m', e', h6.trans (k6.trans j1), j2.trans ((more_step h4 h2 k1).symm.trans (more_step hd he h1).symm), j3⟩
theorem isMore9 {n d m e : Int} (hn : 0 ≤ n) (hm : 0 ≤ m) (hd : 0 < d) (he : 0 < e) (bn : B62 n) (bm : B62 m) (bd : B62 d) (be : B62 e) : ∃ b, f_X9_isMore n d m e = some b ∧ ((b = 1 ∧ m * d < n * e) ∨ (b = 0 ∧ ¬ m * d < n * e)) := by
  unfold f_X9_isMore
  have h62 : (2 : Int) ^ 62 = 4611686018427387904 := by decide
  obtain ⟨n, d, m, e, h1, h2, h3, hn, hm, hd, he, bn, bm, bd, be⟩ := more_l (fun v1 v2 v3 v4 => gd (¬ v2 = 0 ∧ R64 v1 ∧ R64 v2) <| gd (¬ v4 = 0 ∧ R64 v3 ∧ R64 v4) <| gd (R64 (Int.tdiv v1 v2) ∧ R64 (Int.tdiv v3 v4)) <| bq ((Int.tdiv v1 v2) = (Int.tdiv v3 v4)) (gd (¬ v2 = 0 ∧ R64 v1 ∧ R64 v2) <| gd (R64 (Int.tmod v1 v2)) <| bq ((Int.tmod v1 v2) = 0) (some 0) (gd (¬ v4 = 0 ∧ R64 v3 ∧ R64 v4) <| gd (R64 (Int.tmod v3 v4)) <| bq ((Int.tmod v3 v4) = 0) (some 1) (some 0))) (gd (¬ v2 = 0 ∧ R64 v1 ∧ R64 v2) <| gd (¬ v4 = 0 ∧ R64 v3 ∧ R64 v4) <| gd (R64 (Int.tdiv v1 v2) ∧ R64 (Int.tdiv v3 v4)) <| bq ((Int.tdiv v1 v2) ≤ (Int.tdiv v3 v4)) (some 0) (some 1))) 62 LF n d m e (by omega) (by rw [LF_g]; omega) hn hm hd he bn bm bd be
  rw [h1, ← h2]
  have t1 : Int.tdiv n d = n / d := Int.tdiv_eq_ediv_of_nonneg hn
  have t2 : Int.tdiv m e = m / e := Int.tdiv_eq_ediv_of_nonneg hm
  have t3 : Int.tmod n d = n % d := Int.tmod_eq_emod_of_nonneg hn
  have t4 : Int.tmod m e = m % e := Int.tmod_eq_emod_of_nonneg hm
  have q1 := Int.ediv_nonneg hn (show 0 ≤ d by omega); have q2 := Int.ediv_nonneg hm (show 0 ≤ e by omega)
  have q3 : n / d ≤ n := Int.ediv_le_self d hn
  have q4 : m / e ≤ m := Int.ediv_le_self e hm
  have r1 := Int.emod_nonneg n (show d ≠ 0 by omega); have r2 := Int.emod_lt_of_pos n hd
  have r3 := Int.emod_nonneg m (show e ≠ 0 by omega); have r4 := Int.emod_lt_of_pos m he
  try dsimp only
  rw [t1, t2, t3, t4, gd_t ⟨by omega, by omega, by omega⟩, gd_t ⟨by omega, by omega, by omega⟩, gd_t ⟨by omega, by omega⟩]
  by_cases h1 : n / d = m / e
  · have hs := more_step hd he h1
    rw [bq_p h1, gd_t ⟨by omega, by omega, by omega⟩, gd_t (by omega)]
    by_cases h4 : n % d = 0
    · rw [bq_p h4]
      refine ⟨0, rfl, Or.inr ⟨rfl, fun z => ?_⟩⟩
      have z2 := hs.mp z
      rw [h4, Int.mul_zero] at z2
      have := Int.mul_nonneg (show 0 ≤ d by omega) r3
      omega
    · rw [bq_n h4, gd_t ⟨by omega, by omega, by omega⟩, gd_t (by omega)]
      by_cases h5 : m % e = 0
      · rw [bq_p h5]
        refine ⟨1, rfl, Or.inl ⟨rfl, hs.mpr ?_⟩⟩
        rw [h5, Int.mul_zero]
        exact Int.mul_pos he (by omega)
      · exact absurd ⟨h1, h4, h5⟩ h3
  · rw [bq_n h1, gd_t ⟨by omega, by omega, by omega⟩, gd_t ⟨by omega, by omega, by omega⟩, gd_t ⟨by omega, by omega⟩]
    by_cases h4 : n / d ≤ m / e
    · rw [bq_p h4]
      exact ⟨0, rfl, Or.inr ⟨rfl, more_lt hd he (by omega)⟩⟩
    · rw [bq_n h4]
      exact ⟨1, rfl, Or.inl ⟨rfl, more_gt hd he (by omega)⟩⟩
/-! the choice of a column -/
noncomputable def wnF (F : Int → Int) (j : Int) : Int := if F 26 = 2 then rF F j * tF F (lrV F j) (F 0 + F 1) else rF F j
noncomputable def wdF (F : Int → Int) (j : Int) : Int := if F 26 = 2 then dF F * tF F (lrV F j) j else dF F
theorem weighs9 (hL : Laid th F c) (g : GdP F) (hN : GdN F) (hd : 0 < dF F) (hru : 0 ≤ F 26 ∧ F 26 ≤ 2) {j : Int} (hj : 0 ≤ j ∧ j < F 0 + F 1) (hlr : F 26 = 2 → 0 ≤ lrV F j) : f_X9_weighs th j c = some (0, fs c th (nu (wnF F j) (wdF F j)) (de (wnF F j) (wdF F j))) := by
  have g0 := g.1; have g1 := g.2.1
  unfold f_X9_weighs wnF wdF
  rw [reduces9 hL g hN hd hj, cl_s, fs_n (show th + 1 ≠ th by omega), hL.1, gd_t (by omega)]
  by_cases h : F 26 = 2
  · have hl := hlr h
    have hl2 : lrV F j < F 1 ∧ 0 < tF F (lrV F j) j := by
      rcases lrV_r g j with e | e
      · omega
      · exact e.2
    have e8 : 9 * lrV F j + 9 - 1 = 9 * lrV F j + 8 := by omega
    rw [bq_p h, if_pos h, if_pos h, leastRow9 hL.fs g hN hd hj, cv_s, entry9 hL.fs g ⟨hl, hl2.1⟩ (by omega), cv_s, gd_t (by omega), fs_o, fs_u, fs_n (show th + 7 ≠ th by omega), e8, (hL.2.2 _ 8 hl hl2.1 (by omega) (by omega)).2, tQ_8]
    generalize hL9 : lrV F j = L at *
    have b1 := rF_b g hN hj
    have b2 := tF_b9 g hN (r := L) (q := F 0 + F 1) (by omega) (by omega)
    have b3 := tF_b g hN (r := L) (q := j) (by omega) hj
    have b4 := dF_b g hN
    have n1 := nu_n (n := rF F j) (d := dF F); have n2 := de_n (n := rF F j) (d := dF F)
    have n3 := nu_n (n := tF F L (F 0 + F 1)) (d := dF F); have n4 := de_n (n := tF F L (F 0 + F 1)) (d := dF F)
    have n5 := nu_n (n := tF F L j) (d := dF F); have n6 := de_n (n := tF F L j) (d := dF F)
    obtain ⟨x1, x2, -⟩ := nu_e (n := rF F j) (show dF F ≠ 0 by omega)
    obtain ⟨y1, y2, -⟩ := nu_e (n := tF F L (F 0 + F 1)) (show dF F ≠ 0 by omega)
    obtain ⟨z1, z2, -⟩ := nu_e (n := tF F L j) (show dF F ≠ 0 by omega)
    have m1 := mbd (x := nu (rF F j) (dF F)) (A := 7085880) (by omega) (show -1732104 ≤ nu (tF F L (F 0 + F 1)) (dF F) ∧ nu (tF F L (F 0 + F 1)) (dF F) ≤ 1732104 by omega)
    have m2 := mbd (x := de (rF F j) (dF F)) (A := 157464) (by omega) (show -157464 ≤ de (tF F L (F 0 + F 1)) (dF F) ∧ de (tF F L (F 0 + F 1)) (dF F) ≤ 157464 by omega)
    have m3 := Int.mul_pos x2 y2
    have hdd := Int.mul_pos hd hd
    have m4 := mbd (x := rF F j) (A := 7085880) (by omega) (show -1732104 ≤ tF F L (F 0 + F 1) ∧ tF F L (F 0 + F 1) ≤ 1732104 by omega)
    have m5 := mbd (x := dF F) (A := 157464) (by omega) (show -157464 ≤ dF F ∧ dF F ≤ 157464 by omega)
    have u := nu_u (n := nu (rF F j) (dF F) * nu (tF F L (F 0 + F 1)) (dF F)) (d := de (rF F j) (dF F) * de (tF F L (F 0 + F 1)) (dF F)) (n' := rF F j * tF F L (F 0 + F 1)) (d' := dF F * dF F) (by omega) (by omega) (by
      have e1 : nu (rF F j) (dF F) * nu (tF F L (F 0 + F 1)) (dF F) * (dF F * dF F) = nu (rF F j) (dF F) * dF F * (nu (tF F L (F 0 + F 1)) (dF F) * dF F) := by ac_rfl
      rw [e1, x1, y1]
      ac_rfl)
    have n7 := nu_n (n := rF F j * tF F L (F 0 + F 1)) (d := dF F * dF F); have n8 := de_n (n := rF F j * tF F L (F 0 + F 1)) (d := dF F * dF F)
    obtain ⟨w1, w2, -⟩ := nu_e (n := rF F j * tF F L (F 0 + F 1)) (show dF F * dF F ≠ 0 by omega)
    rw [becs ⟨by omega, by omega⟩ ⟨by omega, by omega⟩ (by omega), cl_s, fs_fs, u.1, u.2, gd_t (by omega), entry9 hL.fs g ⟨hl, hl2.1⟩ (by omega), cv_s, fs_o, fs_u, fs_n (show th + 7 ≠ th by omega), (hL.2.2 _ j hl hl2.1 hj.1 (by omega)).2, tQ_c g hj.2]
    have p1 := (nu_s (n := tF F L j) hd).1.mpr hl2.2
    have m6 := mbd (x := nu (rF F j * tF F L (F 0 + F 1)) (dF F * dF F)) (A := 12273681091520) (by omega) (show -157464 ≤ de (tF F L j) (dF F) ∧ de (tF F L j) (dF F) ≤ 157464 by omega)
    have m7 := mbd (x := de (rF F j * tF F L (F 0 + F 1)) (dF F * dF F)) (A := 24794911296) (by omega) (show -157464 ≤ nu (tF F L j) (dF F) ∧ nu (tF F L j) (dF F) ≤ 157464 by omega)
    have m8 := Int.mul_pos w2 p1
    have hdt := Int.mul_pos hd hl2.2
    have u2 := nu_u (n := nu (rF F j * tF F L (F 0 + F 1)) (dF F * dF F) * de (tF F L j) (dF F)) (d := de (rF F j * tF F L (F 0 + F 1)) (dF F * dF F) * nu (tF F L j) (dF F)) (n' := rF F j * tF F L (F 0 + F 1)) (d' := dF F * tF F L j) (by omega) (by omega) (by
      refine Int.eq_of_mul_eq_mul_right (show dF F ≠ 0 by omega) ?_
      have e1 : nu (rF F j * tF F L (F 0 + F 1)) (dF F * dF F) * de (tF F L j) (dF F) * (dF F * tF F L j) * dF F = nu (rF F j * tF F L (F 0 + F 1)) (dF F * dF F) * (dF F * dF F) * (tF F L j * de (tF F L j) (dF F)) := by ac_rfl
      rw [e1, w1, ← z1]
      ac_rfl)
    rw [becs ⟨by omega, by omega⟩ ⟨by omega, by omega⟩ (by omega), cl_s, fs_fs, u2.1, u2.2]
  · rw [bq_n h, if_neg h, if_neg h]
theorem wF_b (g : GdP F) (hN : GdN F) (hd : 0 < dF F) {j : Int} (hj : 0 ≤ j ∧ j < F 0 + F 1) (hs : ∀ r, 0 ≤ r → r < F 1 → 0 ≤ tF F r (F 0 + F 1)) (hr : 0 ≤ rF F j) (hlr : F 26 = 2 → 0 ≤ lrV F j) : 0 ≤ wnF F j ∧ 0 < wdF F j ∧ wnF F j ≤ 12273681091520 ∧ wdF F j ≤ 24794911296 := by
  have g1 := g.2.1
  have b1 := rF_b g hN hj
  have b4 := dF_b g hN
  unfold wnF wdF
  by_cases h : F 26 = 2
  · have hl := hlr h
    have hl2 : lrV F j < F 1 ∧ 0 < tF F (lrV F j) j := by
      rcases lrV_r g j with e | e
      · omega
      · exact e.2
    have b2 := tF_b9 g hN (r := lrV F j) (q := F 0 + F 1) (by omega) (by omega)
    have b3 := tF_b g hN (r := lrV F j) (q := j) (by omega) hj
    have b5 := hs _ hl hl2.1
    rw [if_pos h, if_pos h]
    have m1 := mbd (x := rF F j) (A := 7085880) (by omega) (show -1732104 ≤ tF F (lrV F j) (F 0 + F 1) ∧ tF F (lrV F j) (F 0 + F 1) ≤ 1732104 by omega)
    have m2 := mbd (x := dF F) (A := 157464) (by omega) (show -157464 ≤ tF F (lrV F j) j ∧ tF F (lrV F j) j ≤ 157464 by omega)
    exact ⟨Int.mul_nonneg hr b5, Int.mul_pos hd hl2.2, by omega, by omega⟩
  · rw [if_neg h, if_neg h]
    omega
theorem wF_cmp (g : GdP F) (hd : 0 < dF F) {j f : Int} (hru : F 26 = 1 ∨ F 26 = 2) (hlj : F 26 = 2 → 0 ≤ lrV F j) (hlf : F 26 = 2 → 0 ≤ lrV F f) : wnF F f * wdF F j < wnF F j * wdF F f ↔ chB F j f := by
  unfold wnF wdF chB gnF
  rcases hru with h | h
  · rw [if_neg (by omega), if_neg (by omega), if_neg (by omega), if_neg (by omega), mul_lt_r hd]
    exact ⟨fun z => Or.inl ⟨h, z⟩, fun z => z.elim (fun a => a.2) (fun a => by omega)⟩
  · rw [if_pos h, if_pos h, if_pos h, if_pos h]
    have e1 : rF F f * tF F (lrV F f) (F 0 + F 1) * (dF F * tF F (lrV F j) j) = rF F f * tF F (lrV F f) (F 0 + F 1) * tF F (lrV F j) j * dF F := by ac_rfl
    have e2 : rF F j * tF F (lrV F j) (F 0 + F 1) * (dF F * tF F (lrV F f) f) = rF F j * tF F (lrV F j) (F 0 + F 1) * tF F (lrV F f) f * dF F := by ac_rfl
    rw [e1, e2, mul_lt_r hd]
    exact ⟨fun z => Or.inr ⟨h, z⟩, fun z => z.elim (fun a => by omega) (fun a => a.2)⟩
theorem nu_lt {n d m e : Int} (hd : 0 < d) (he : 0 < e) : nu m e * de n d < nu n d * de m e ↔ m * d < n * e := by
  have h := (fr_cmp (n := m) (n' := n) he hd).1
  exact ⟨fun z => by have := h.mp (by omega); omega, fun z => by have := h.mpr (by omega); omega⟩
theorem bestColumn9 (hL : Laid th F c) (g : GdP F) (hb : GdB F) (hru : 0 ≤ F 26 ∧ F 26 ≤ 2) (ho : openF F) : ∃ x y, f_X9_bestColumn th c = some (chV F, fs c th x y) := by
  have g0 := g.1; have g1 := g.2.1
  obtain ⟨hN, hd, hs, -⟩ := hb
  have hlr : ∀ j, 0 ≤ j → j < F 0 + F 1 → 0 < rF F j → F 26 = 2 → 0 ≤ lrV F j := fun j a b h _ => ho j a b h
  have L : ∀ (k fuel : Nat) (l v n d x y : Int), l + k = F 0 + F 1 → 0 ≤ l → k + 1 ≤ fuel → v = lrI (chP F) (chB F) l → (0 ≤ v → n = nu (wnF F v) (wdF F v) ∧ d = de (wnF F v) (wdF F v)) → ∃ x' y', f_X9_bestColumn_10 th (fun v1 c2 => some (v1, c2)) fuel v n d l (fs c th x y) = some (chV F, fs c th x' y') := by
    intro k
    induction k with
    | zero =>
      intro fuel l v n d x y hl h0 hf hv hw
      obtain ⟨f, rfl⟩ : ∃ f, fuel = f + 1 := ⟨fuel - 1, by omega⟩
      obtain rfl : l = F 0 + F 1 := by omega
      rw [f_X9_bestColumn_10_s]
      unfold b_X9_bestColumn_10 f_X9_columns
      rw [fs_n (show th + 1 ≠ th by omega), hL.1, cv_s, gd_t (by omega), bq_p (by omega), hv]
      exact ⟨x, y, rfl⟩
    | succ k ih =>
      intro fuel l v n d x y hl h0 hf hv hw
      obtain ⟨f, rfl⟩ : ∃ f, fuel = f + 1 := ⟨fuel - 1, by omega⟩
      have hr := lrI_r (pos := chP F) (bt := chB F) h0
      rw [f_X9_bestColumn_10_s]
      unfold b_X9_bestColumn_10 f_X9_columns
      simp only [jn]
      rw [fs_n (show th + 1 ≠ th by omega), hL.1, cv_s, gd_t (by omega), bq_n (by omega), rising9 hL.fs g hN hd ⟨h0, by omega⟩, cl_s, fs_fs]
      have keep : ∀ x9 y9, ¬ (chP F l ∧ (v < 0 ∨ chB F l v)) → ∃ x' y', f_X9_bestColumn_10 th (fun v1 c2 => some (v1, c2)) f v n d (l + 1) (fs c th x9 y9) = some (chV F, fs c th x' y') := fun x9 y9 z => ih f (l + 1) v n d x9 y9 (by omega) (by omega) (by omega) (by rw [lrI_f h0 (by rw [← hv]; exact z)]; exact hv) hw
      have take : chP F l → (v < 0 ∨ chB F l v) → ∃ x' y', f_X9_bestColumn_10 th (fun v1 c2 => some (v1, c2)) f l (nu (wnF F l) (wdF F l)) (de (wnF F l) (wdF F l)) (l + 1) (fs c th (nu (wnF F l) (wdF F l)) (de (wnF F l) (wdF F l))) = some (chV F, fs c th x' y') := fun a b => ih f (l + 1) l _ _ _ _ (by omega) (by omega) (by omega) (by rw [lrI_t h0 a (by rw [← hv]; exact b)]) (fun _ => ⟨rfl, rfl⟩)
      by_cases hp : 0 < rF F l
      · have hw9 := wF_b g hN hd ⟨h0, by omega⟩ hs (by omega) (hlr l h0 (by omega) hp)
        have hn9 := nu_n (n := wnF F l) (d := wdF F l); have hd9 := de_n (n := wnF F l) (d := wdF F l)
        rw [if_pos hp, gd_t (by omega), bq_n (by omega), weighs9 hL.fs g hN hd hru ⟨h0, by omega⟩ (hlr l h0 (by omega) hp), cl_s, fs_fs, fs_o, fs_u, fs_n (show th + 1 ≠ th by omega), hL.1, gd_t (by omega)]
        by_cases hv0 : v < 0
        · rw [bq_p hv0, bq_n (by omega), bq_n (by omega), bq_n (by omega)]
          exact take hp (Or.inl hv0)
        · have hv3 : 0 ≤ v ∧ v < l ∧ 0 < rF F v := by
            rw [hv] at hv0 ⊢
            rcases hr with h | h
            · omega
            · exact h
          rw [bq_n hv0, gd_t (by omega)]
          by_cases hr0 : F 26 ≤ 0
          · rw [bq_p hr0]; repeat first | rw [bq_p trivial] | rw [bq_p rfl]
            refine keep _ _ (fun z => ?_)
            rcases z.2 with z1 | z1 | z1
            · exact hv0 z1
            · have := z1.1
              omega
            · have := z1.1
              omega
          · have hw8 := wF_b g hN hd ⟨hv3.1, by omega⟩ hs (by omega) (hlr v hv3.1 (by omega) hv3.2.2)
            have hn8 := nu_n (n := wnF F v) (d := wdF F v); have hd8 := de_n (n := wnF F v) (d := wdF F v)
            obtain ⟨en, ed⟩ := hw hv3.1
            obtain ⟨p1, p2, -⟩ := nu_e (n := wnF F l) (show wdF F l ≠ 0 by omega)
            obtain ⟨p3, p4, -⟩ := nu_e (n := wnF F v) (show wdF F v ≠ 0 by omega)
            have s1 := nu_s (n := wnF F l) hw9.2.1; have s2 := nu_s (n := wnF F v) hw8.2.1
            have z1 : 0 ≤ nu (wnF F l) (wdF F l) := Int.not_lt.mp (fun z => by have := s1.2.1.mp z; omega)
            have z2 : 0 ≤ nu (wnF F v) (wdF F v) := Int.not_lt.mp (fun z => by have := s2.2.1.mp z; omega)
            obtain ⟨b, eb, hb⟩ := isMore9 (n := nu (wnF F l) (wdF F l)) (d := de (wnF F l) (wdF F l)) (m := n) (e := d) z1 (by rw [en]; exact z2) p2 (by rw [ed]; exact p4) ⟨by omega, by omega⟩ (by rw [en]; exact ⟨by omega, by omega⟩) ⟨by omega, by omega⟩ (by rw [ed]; exact ⟨by omega, by omega⟩)
            rw [en, ed, nu_lt hw9.2.1 hw8.2.1, wF_cmp g hd (by omega) (hlr l h0 (by omega) hp) (hlr v hv3.1 (by omega) hv3.2.2)] at hb
            rw [bq_n hr0, eb, cv_s]
            rcases hb with ⟨rfl, hb⟩ | ⟨rfl, hb⟩
            · rw [gd_t (by omega), bq_n (by omega), bq_n (by omega), bq_n (by omega), bq_n (by omega)]
              exact take hp (Or.inr hb)
            · rw [gd_t (by omega)]; repeat first | rw [bq_p trivial] | rw [bq_p rfl]
              refine keep _ _ (fun z => ?_)
              rcases z.2 with z1 | z1
              · exact hv0 z1
              · exact hb z1
      · rw [if_neg hp, gd_t (by omega), bq_p rfl]
        exact keep _ _ (fun z => hp z.1)
  have h := L (F 0 + F 1).toNat LF 0 (-1) 0 1 (c th 16) (c th 17) (by omega) (by omega) (by rw [LF_g]; omega) rfl (fun z => by omega)
  rw [fs_id] at h
  exact h
end MC
