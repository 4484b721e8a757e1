section SM
/-! the reference's survey -/
def Fq (m : Nat) (c c' : W0) : Prop := (∀ q, q ≠ m → ¬ (m + 6 ≤ q ∧ q ≤ m + 12) → c' q = c q) ∧ ∀ i : Int, ¬ (i = 16 ∨ i = 17 ∨ (23 ≤ i ∧ i ≤ 26)) → c' m i = c m i
theorem Fq.rf {m : Nat} {c : W0} : Fq m c c := ⟨fun _ _ _ => rfl, fun _ _ => rfl⟩
theorem Fq.tr {m : Nat} {c c1 c2 : W0} (h : Fq m c c1) (h2 : Fq m c1 c2) : Fq m c c2 := ⟨fun q a b => (h2.1 q a b).trans (h.1 q a b), fun i a => (h2.2 i a).trans (h.2 i a)⟩
theorem Fq.fs {m : Nat} {c : W0} {x y : Int} : Fq m c (fs c m x y) := ⟨fun q a _ => fs_n a, fun i a => fs_i ⟨fun z => a (Or.inl z), fun z => a (Or.inr (Or.inl z))⟩⟩
theorem Fq.qs {m : Nat} {c c' : W0} (h : Qs m (P6 m) c c') : Fq m c c' := ⟨fun q a b => h.1 q a (fun z => by unfold P6 at z; omega), fun i a => h.2 i (fun z => a (Or.inl z)) (fun z => a (Or.inr (Or.inl z)))⟩
theorem MI_q {m : Nat} {z : St} {c c' : W0} (h : MI m z c) (hF : Fq m c c') : MI m z c' := MI_sc h (hF.1 _ (by omega) (by omega)) (hF.1 _ (by omega) (by omega)) (hF.1 _ (by omega) (by omega)) (hF.1 _ (by omega) (by omega)) (hF.2 4 (by decide)) (hF.2 6 (by decide)) (hF.2 8 (by decide))
theorem names9 {m : Nat} {F : Int → Int} {u : Int} {c : W0} (hF : c (m + 1) = F) (g : GdP F) (hu : 0 ≤ u ∧ u < 256) : ∃ b c', f_X9_namesSet m u c = some (b, c') ∧ Fr (fun q => q = m + 8) c c' ∧ ((b = 1 ∧ cntB u (NF F) = F 1 ∧ ∀ k, 0 ≤ k → k < F 1 → c' (m + 8) k = nmB u (NF F) k) ∨ (b = 0 ∧ ¬ cntB u (NF F) = F 1)) := by
  have g0 := g.1; have g1 := g.2.1
  have hN := NF_e g
  have L : ∀ (κ : Int → W0 → Option (Int × W0)) (k fuel j : Nat) (c1 : W0), j + k = NF F → k + 1 ≤ fuel → Fr (fun q => q = m + 8) c c1 → (∀ i, 0 ≤ i → i < cntB u j → i < F 1 → c1 (m + 8) i = nmB u (NF F) i) → ∃ c2, f_X9_namesSet_4 m u κ fuel (cntB u j) (j : Int) c1 = κ (cntB u (NF F)) c2 ∧ Fr (fun q => q = m + 8) c c2 ∧ ∀ i, 0 ≤ i → i < cntB u (NF F) → i < F 1 → c2 (m + 8) i = nmB u (NF F) i := by
    intro κ k
    induction k with
    | zero =>
      intro fuel j c1 hj hf hFr hI
      obtain ⟨f, rfl⟩ : ∃ f, fuel = f + 1 := ⟨fuel - 1, by omega⟩
      obtain rfl : j = NF F := by omega
      have eF : c1 (m + 1) = F := (hFr _ (by omega)).trans hF
      rw [f_X9_namesSet_4_s]
      unfold b_X9_namesSet_4 f_X9_columns
      rw [eF, cv_s, gd_t (by omega), bq_p (by omega)]
      exact ⟨c1, rfl, hFr, hI⟩
    | succ k ih =>
      intro fuel j c1 hj hf hFr hI
      obtain ⟨f, rfl⟩ : ∃ f, fuel = f + 1 := ⟨fuel - 1, by omega⟩
      have eF : c1 (m + 1) = F := (hFr _ (by omega)).trans hF
      have hb := bt_01 (u := u) (r := (j : Int)) hu (by omega)
      have hr := cntB_r (u := u) j
      rw [f_X9_namesSet_4_s]
      unfold b_X9_namesSet_4 f_X9_columns
      rw [eF, cv_s, gd_t (by omega), bq_n (by omega), show iandZ (ishrZ u (j : Int)) 1 = bt u (j : Int) from rfl, gd_t (by omega)]
      by_cases h : bt u (j : Int) = 1
      · rw [bq_p h, gd_t (by omega)]
        by_cases y : F 1 ≤ cntB u j
        · rw [bq_p y]
          have h4 := ih f (j + 1) c1 (by omega) (by omega) hFr (fun i a b x => hI i a (by omega) x)
          rw [cntB_t h, show ((j + 1 : Nat) : Int) = (j : Int) + 1 by omega] at h4
          exact h4
        · rw [bq_n y, gd_t (by omega)]
          dsimp only [sto]
          have h4 := ih f (j + 1) (upc c1 (m + 8) (updZ (c1 (m + 8)) (cntB u j) j)) (by omega) (by omega) (hFr.tr (Fr.up rfl)) (fun i a b x => by
            rw [cntB_t h] at b
            rw [upc_s]
            by_cases w : i = cntB u j
            · rw [w, updZ_s, nmB_at h (by omega)]
            · rw [updZ_n w]
              exact hI i a (by omega) x)
          rw [cntB_t h, show ((j + 1 : Nat) : Int) = (j : Int) + 1 by omega] at h4
          exact h4
      · rw [bq_n h]
        have h4 := ih f (j + 1) c1 (by omega) (by omega) hFr (fun i a b x => by
          rw [cntB_f h] at b
          exact hI i a b x)
        rw [cntB_f h, show ((j + 1 : Nat) : Int) = (j : Int) + 1 by omega] at h4
        exact h4
  unfold f_X9_namesSet
  obtain ⟨c2, e2, hF2, h2⟩ := L (fun v1 c2 => gd (R32 v1 ∧ R32 (c2 (m + 1) 1)) <| bq (v1 = c2 (m + 1) 1) (some (1, c2)) (some (0, c2))) (NF F) LF 0 c (by omega) (by rw [LF_g]; omega) Fr.rf (fun i a b => by
    have b2 : i < 0 := b
    omega)
  have hr := cntB_r (u := u) (NF F)
  have eF : c2 (m + 1) = F := (hF2 _ (by omega)).trans hF
  have e3 : f_X9_namesSet_4 m u (fun v1 c2 => gd (R32 v1 ∧ R32 (c2 (m + 1) 1)) <| bq (v1 = c2 (m + 1) 1) (some (1, c2)) (some (0, c2))) LF 0 0 c = gd (R32 (cntB u (NF F)) ∧ R32 (c2 (m + 1) 1)) (bq (cntB u (NF F) = c2 (m + 1) 1) (some (1, c2)) (some (0, c2))) := e2
  rw [e3, eF, gd_t (by omega)]
  by_cases y : cntB u (NF F) = F 1
  · rw [bq_p y]
    exact ⟨1, c2, rfl, hF2, Or.inl ⟨rfl, y, fun k a b => h2 k a (by omega) b⟩⟩
  · rw [bq_n y]
    exact ⟨0, c2, rfl, hF2, Or.inr ⟨rfl, y⟩⟩
section
variable {m : Nat} {F : Int → Int} {c : W0} {D : Int} {Y : Int → Int}
theorem feas9 (hF : c (m + 1) = F) (g : GdP F) (hD : D ≠ 0) (hY : ∀ r, 0 ≤ r → r < F 1 → B173 (Y r)) (h6 : ∀ r, 0 ≤ r → r < F 1 → c (m + 6) (9 * r + 8) = nu (Y r) D) : ∃ b, f_X9_isFeasible m c = some b ∧ ((b = 1 ∧ ∀ j, 0 ≤ j → j < F 1 → 0 ≤ D * Y j) ∨ (b = 0 ∧ ¬ ∀ j, 0 ≤ j → j < F 1 → 0 ≤ D * Y j)) := by
  have g0 := g.1; have g1 := g.2.1
  have L : ∀ (k fuel : Nat) (l b : Int), l + k = F 1 → 0 ≤ l → k + 1 ≤ fuel → ((b = 1 ∧ ∀ j, 0 ≤ j → j < l → 0 ≤ D * Y j) ∨ (b = 0 ∧ ¬ ∀ j, 0 ≤ j → j < F 1 → 0 ≤ D * Y j)) → ∃ b', f_X9_isFeasible_4 m c (fun v1 => gd (0 ≤ v1 ∧ v1 ≤ 1) <| some v1) fuel b l = some b' ∧ ((b' = 1 ∧ ∀ j, 0 ≤ j → j < F 1 → 0 ≤ D * Y j) ∨ (b' = 0 ∧ ¬ ∀ j, 0 ≤ j → j < F 1 → 0 ≤ D * Y j)) := by
    intro k
    induction k with
    | zero =>
      intro fuel l b hl h0 hf hI
      obtain ⟨f, rfl⟩ : ∃ f, fuel = f + 1 := ⟨fuel - 1, by omega⟩
      have hb1 : b = 1 ∨ b = 0 := hI.elim (fun h => Or.inl h.1) (fun h => Or.inr h.1)
      obtain rfl : l = F 1 := by omega
      rw [f_X9_isFeasible_4_s]
      unfold b_X9_isFeasible_4
      rw [hF, gd_t (by omega), bq_p (by omega)]
      try dsimp only
      rw [gd_t (by omega)]
      exact ⟨b, rfl, hI⟩
    | succ k ih =>
      intro fuel l b hl h0 hf hI
      obtain ⟨f, rfl⟩ : ∃ f, fuel = f + 1 := ⟨fuel - 1, by omega⟩
      have n1 := nu_n (n := Y l) (d := D)
      have hy := hY l h0 (by omega)
      rw [f_X9_isFeasible_4_s]
      unfold b_X9_isFeasible_4 f_X9_entry
      rw [hF, gd_t (by omega), bq_n (by omega)]
      rcases hI with ⟨rfl, h⟩ | ⟨rfl, h⟩
      · rw [gd_t (by omega), bq_n (by omega), gd_t (by omega), h6 l h0 (by omega), cv_s, gd_t (by omega)]
        by_cases y : nu (Y l) D < 0
        · rw [bq_p y]
          exact ih f (l + 1) 0 (by omega) (by omega) (by omega) (Or.inr ⟨rfl, fun z => (nu_sg hD).mp y (z l h0 (by omega))⟩)
        · rw [bq_n y]
          refine ih f (l + 1) 1 (by omega) (by omega) (by omega) (Or.inl ⟨rfl, fun j a b => ?_⟩)
          by_cases e : j = l
          · rw [e]
            by_cases w : 0 ≤ D * Y l
            · exact w
            · exact absurd ((nu_sg hD).mpr w) y
          · exact h j a (by omega)
      · rw [gd_t (by omega), bq_p rfl]
        exact ih f (l + 1) 0 (by omega) (by omega) (by omega) (Or.inr ⟨rfl, h⟩)
  unfold f_X9_isFeasible
  exact L (F 1).toNat LF 0 1 (by omega) (by omega) (by rw [LF_g]; omega) (Or.inl ⟨rfl, fun j a b => by omega⟩)
/-- the value of what is laid -/
theorem vals9 {w X : Int → Int} (hF : c (m + 1) = F) (g : GdP F) (hD : 0 < D ∧ D ≤ 200000) (hw : ∀ r, 0 ≤ r → r < F 1 → c (m + 8) r = w r ∧ 0 ≤ w r ∧ w r < F 0 + F 1) (hY : ∀ r, 0 ≤ r → r < F 1 → B173 (Y r)) (h6 : ∀ r, 0 ≤ r → r < F 1 → c (m + 6) (9 * r + 8) = nu (Y r) D ∧ c (m + 7) (9 * r + 8) = de (Y r) D) (hX0 : X 0 = 0) (hXb : ∀ l, 0 ≤ l → l ≤ F 1 → -62355744 ≤ X l ∧ X l ≤ 62355744) (hXs : ∀ l, 0 ≤ l → l < F 1 → X (l + 1) = X l + cF F (w l) * Y l) : f_X9_values m c = some (0, fs c m (nu (X (F 1)) D) (de (X (F 1)) D)) := by
  have g0 := g.1; have g1 := g.2.1
  have L : ∀ (k fuel : Nat) (l : Int), l + k = F 1 → 0 ≤ l → k + 1 ≤ fuel → f_X9_values_8 m (fun c3 => some (0, c3)) fuel l (fs c m (nu (X l) D) (de (X l) D)) = some (0, fs c m (nu (X (F 1)) D) (de (X (F 1)) D)) := by
    intro k
    induction k with
    | zero =>
      intro fuel l hl h0 hf
      obtain ⟨f, rfl⟩ : ∃ f, fuel = f + 1 := ⟨fuel - 1, by omega⟩
      obtain rfl : l = F 1 := by omega
      rw [f_X9_values_8_s]
      unfold b_X9_values_8
      rw [fs_n (show m + 1 ≠ m by omega), hF, gd_t (by omega), bq_p (by omega)]
    | succ k ih =>
      intro fuel l hl h0 hf
      obtain ⟨f, rfl⟩ : ∃ f, fuel = f + 1 := ⟨fuel - 1, by omega⟩
      obtain ⟨w1, w2, w3⟩ := hw l h0 (by omega)
      obtain ⟨q6, q7⟩ := h6 l h0 (by omega)
      have hc := cF_9 g w2
      have hv := hXb l h0 (by omega)
      have ht := hY l h0 (by omega)
      have e8 : 9 * l + 9 - 1 = 9 * l + 8 := by omega
      rw [f_X9_values_8_s]
      unfold b_X9_values_8 f_X9_entry
      rw [profit9 (c := fs c m _ _) (by rw [fs_n (by omega)]; exact hF) g (by rw [fs_n (by omega), w1]; omega), fs_n (show m + 1 ≠ m by omega), fs_n (show m + 8 ≠ m by omega), fs_n (show m + 7 ≠ m by omega), fs_n (show m + 6 ≠ m by omega), hF, w1, gd_t (by omega), bq_n (by omega), gd_t (by omega), cv_s, gd_t (by omega), gd_t (by omega), q6, cv_s, gd_t (by omega), e8, q7, adds (X := X l) hD (by omega) (by omega) (by omega) fs_o fs_u, cl_s, fs_fs, ← hXs l h0 (by omega)]
      exact ih f (l + 1) (by omega) (by omega) (by omega)
  unfold f_X9_values
  rw [becs (by decide) (by decide) (by decide), cl_s, nu_1.1, nu_1.2]
  have h := L (F 1).toNat LF 0 (by omega) (by omega) (by rw [LF_g]; omega)
  rw [hX0, (nu_0 (show D ≠ 0 by omega)).1, (nu_0 (show D ≠ 0 by omega)).2] at h
  exact h
end
/-! the values noted -/
def Rp9 (m : Nat) (n : Int) (S : Sv) (c : W0) : Prop := c m 23 = n ∧ c m 24 = S.2.1 ∧ (∀ k, 0 ≤ k → k < S.2.1 → c (m + 12) (2 * k) = S.2.2.1 k ∧ c (m + 12) (2 * k + 1) = S.2.2.2.1 k) ∧ (0 < S.2.1 → c m 25 = S.2.2.2.2.1 ∧ c m 26 = S.2.2.2.2.2)
theorem Rp9_n {m : Nat} {n n' : Int} {S : Sv} {c : W0} (h : Rp9 m n S c) (hn : n = n') : Rp9 m n' S c := hn ▸ h
theorem Rp9_f {m : Nat} {n : Int} {S : Sv} {c c' : W0} (h : Rp9 m n S c) (e : ∀ i : Int, 23 ≤ i → i ≤ 26 → c' m i = c m i) (e5 : c' (m + 12) = c (m + 12)) : Rp9 m n S c' := by
  unfold Rp9
  rw [e 23 (by decide) (by decide), e 24 (by decide) (by decide), e 25 (by decide) (by decide), e 26 (by decide) (by decide), e5]
  exact h
section
variable {m : Nat} {n a b : Int} {S : Sv} {c : W0}
theorem sto_e {β : Type} {c : W0} {q : Nat} {i v : Int} {k : W0 → β} : sto c q i v k = k (upc c q (updZ (c q) i v)) := rfl
theorem tail9 (h23 : c m 23 = n) (h16 : c m 16 = a) (h17 : c m 17 = b) (h25 : 0 < S.2.1 → c m 25 = S.2.2.2.2.1 ∧ c m 26 = S.2.2.2.2.2) (hS : SvG S) (hb : bNV a b) (hn : n = S.1 + 1) (hn2 : S.1 < 70) : ∃ c', (gd (R32 (c m 23)) <|
          jn (fun (u5 : Unit) =>
              jn (fun (v7 : Int) =>
                  sto c m 25 v7 fun c8 =>
                  bq (1 = 0) (
                    sto c8 m 26 (c8 m 26) fun c9 =>
                    some ((0 : Int), c9)) (
                    sto c8 m 26 (c8 m 17) fun c10 =>
                    some (0, c10))) fun k6 =>
              bq (1 = 0) (
                k6 (c m 25)) (
                k6 (c m 16))) fun k4 =>
          bq ((c m 23) = 1) (
            k4 ()) (
            gd (R64 ((c m 16) * (c m 26)) ∧ R64 ((c m 25) * (c m 17))) <|
            bq (((c m 16) * (c m 26)) ≤ ((c m 25) * (c m 17))) (
              jn (fun (v12 : Int) =>
                  sto c m 25 v12 fun c13 =>
                  bq (0 = 0) (
                    sto c13 m 26 (c13 m 26) fun c14 =>
                    some (0, c14)) (
                    sto c13 m 26 (c13 m 17) fun c15 =>
                    some (0, c15))) fun k11 =>
              bq (0 = 0) (
                k11 (c m 25)) (
                k11 (c m 16))) (
              k4 ()))) = some ((0 : Int), c') ∧ Fr (fun q => q = m) c c' ∧ (∀ i : Int, i ≠ 25 → i ≠ 26 → c' m i = c m i) ∧ c' m 25 = bq (morS S (a, b)) a S.2.2.2.2.1 ∧ c' m 26 = bq (morS S (a, b)) b S.2.2.2.2.2 := by
  have hS1 := hS.1; have hS2 := hS.2.1; have hS3 := hS.2.2.1
  have n10 : ¬ 1 = 0 := by decide
  dsimp only [jn]
  rw [h23, gd_t (by omega)]
  have A : morS S (a, b) → ∃ c', (bq (1 = 0) (sto c m 25 (c m 25) fun c8 => bq (1 = 0) (sto c8 m 26 (c8 m 26) fun c9 => some ((0 : Int), c9)) (sto c8 m 26 (c8 m 17) fun c10 => some (0, c10))) (sto c m 25 (c m 16) fun c8 => bq (1 = 0) (sto c8 m 26 (c8 m 26) fun c9 => some ((0 : Int), c9)) (sto c8 m 26 (c8 m 17) fun c10 => some (0, c10)))) = some ((0 : Int), c') ∧ Fr (fun q => q = m) c c' ∧ (∀ i : Int, i ≠ 25 → i ≠ 26 → c' m i = c m i) ∧ c' m 25 = bq (morS S (a, b)) a S.2.2.2.2.1 ∧ c' m 26 = bq (morS S (a, b)) b S.2.2.2.2.2 := by
    intro hm
    rw [bq_n n10, bq_p hm, bq_p hm]
    dsimp only [sto]
    rw [bq_n n10, upc_s, h16, updZ_n (by decide), h17]
    exact ⟨_, rfl, Fr.tr (S := fun q => q = m) (Fr.up rfl) (Fr.up rfl), fun i x y => by rw [upc_s, updZ_n y, updZ_n x], by rw [upc_s, updZ_n (by decide), updZ_s], by rw [upc_s, updZ_s]⟩
  by_cases y : S.2.1 = 0
  · rw [bq_p (by have := hS3 y; omega)]
    exact A (Or.inl y)
  · obtain ⟨h6, h7⟩ := h25 (by omega)
    have h8 := (hS.2.2.2.2 (by omega)).1
    have q1 := mbd (x := a) (y := S.2.2.2.2.2) (A := 62355744) (B := 157464) (by omega) (by omega)
    have q2 := mbd (x := S.2.2.2.2.1) (y := b) (A := 62355744) (B := 157464) (by omega) (by omega)
    have e1 : c m 16 * c m 26 = a * S.2.2.2.2.2 := by rw [h16, h7]
    have e2 : c m 25 * c m 17 = S.2.2.2.2.1 * b := by rw [h6, h17]
    rw [bq_n (by omega), gd_t (by rw [e1, e2]; omega)]
    by_cases w : a * S.2.2.2.2.2 ≤ S.2.2.2.2.1 * b
    · have hm : ¬ morS S (a, b) := fun z => z.elim y (fun z => by
        have z2 : S.2.2.2.2.1 * b < a * S.2.2.2.2.2 := z
        omega)
      rw [bq_p (by rw [e1, e2]; exact w), bq_p rfl, bq_n hm, bq_n hm]
      dsimp only [sto]
      rw [bq_p rfl, upc_s, updZ_n (by decide)]
      exact ⟨_, rfl, Fr.tr (S := fun q => q = m) (Fr.up rfl) (Fr.up rfl), fun i x y => by rw [upc_s, updZ_n y, updZ_n x], by rw [upc_s, updZ_n (by decide), updZ_s]; exact h6, by rw [upc_s, updZ_s]; exact h7⟩
    · rw [bq_n (by rw [e1, e2]; exact w)]
      exact A (Or.inr (by show S.2.2.2.2.1 * b < a * S.2.2.2.2.2; omega))
theorem lookv9 (hR : Rp9 m n S c) (hS : SvG S) (hn : n = S.1 + 1) (hn2 : S.1 < 70) (h16 : c m 16 = a) (h17 : c m 17 = b) (hb : bNV a b) : ∃ c', f_X9_looksAtValue m c = some (0, c') ∧ Fr (fun q => q = m ∨ q = m + 12) c c' ∧ (∀ i : Int, i ≠ 24 → i ≠ 25 → i ≠ 26 → c' m i = c m i) ∧ Rp9 m n (svA S (a, b)) c' := by
  have hS1 := hS.1; have hS2 := hS.2.1
  have L : ∀ (κ : Int → Option (Int × W0)) (k fuel : Nat) (l x : Int), l + k = S.2.1 → 0 ≤ l → k + 1 ≤ fuel → ((x = 1 ∧ ∀ i, 0 ≤ i → i < l → ¬ (S.2.2.1 i = a ∧ S.2.2.2.1 i = b)) ∨ (x = 0 ∧ notd S (a, b))) → ∃ x', f_X9_looksAtValue_4 m c κ fuel x l = κ x' ∧ ((x' = 1 ∧ ¬ notd S (a, b)) ∨ (x' = 0 ∧ notd S (a, b))) := by
    intro κ k
    induction k with
    | zero =>
      intro fuel l x hl h0 hf hI
      obtain ⟨f, rfl⟩ : ∃ f, fuel = f + 1 := ⟨fuel - 1, by omega⟩
      rw [f_X9_looksAtValue_4_s]
      unfold b_X9_looksAtValue_4
      rw [hR.2.1, gd_t (by omega), bq_p (by omega)]
      exact ⟨x, rfl, hI.imp (fun h => ⟨h.1, fun ⟨i, hi, h1, h2⟩ => h.2 i hi.1 (by omega) ⟨h1, h2⟩⟩) id⟩
    | succ k ih =>
      intro fuel l x hl h0 hf hI
      obtain ⟨f, rfl⟩ : ∃ f, fuel = f + 1 := ⟨fuel - 1, by omega⟩
      obtain ⟨v1, v2⟩ := hR.2.2.1 l h0 (by omega)
      have h9 := hS.2.2.2.1 l h0 (by omega)
      rw [f_X9_looksAtValue_4_s]
      unfold b_X9_looksAtValue_4
      rw [hR.2.1, gd_t (by omega), bq_n (by omega)]
      rcases hI with ⟨rfl, h⟩ | ⟨rfl, h⟩
      · have go : ¬ (S.2.2.1 l = a ∧ S.2.2.2.1 l = b) → ∃ x', f_X9_looksAtValue_4 m c κ f 1 (l + 1) = κ x' ∧ ((x' = 1 ∧ ¬ notd S (a, b)) ∨ (x' = 0 ∧ notd S (a, b))) := fun z => ih f (l + 1) 1 (by omega) (by omega) (by omega) (Or.inl ⟨rfl, fun i x y => by
          by_cases e : i = l
          · rw [e]; exact z
          · exact h i x (by omega)⟩)
        rw [gd_t (by omega), bq_n (by omega), gd_t (by omega), v1, h16, gd_t (by omega), jn_e]
        by_cases e : S.2.2.1 l = a
        · rw [bq_p e, gd_t (by omega), v2, h17, gd_t (by omega)]
          by_cases e2 : S.2.2.2.1 l = b
          · rw [bq_p e2]
            exact ih f (l + 1) 0 (by omega) (by omega) (by omega) (Or.inr ⟨rfl, l, ⟨h0, by omega⟩, e, e2⟩)
          · rw [bq_n e2]
            exact go (fun z => e2 z.2)
        · rw [bq_n e]
          exact go (fun z => e z.1)
      · rw [gd_t (by omega), bq_p rfl]
        exact ih f (l + 1) 0 (by omega) (by omega) (by omega) (Or.inr ⟨rfl, h⟩)
  unfold f_X9_looksAtValue
  have h9 := fun κ => L κ S.2.1.toNat LF 0 1 (by omega) (by omega) (by rw [LF_g]; omega) (Or.inl ⟨rfl, fun i x y => by omega⟩)
  obtain ⟨x, ex, hx⟩ := h9 (fun v1 =>
      gd (R32 v1) <|
      jn (fun (c3 : W0) =>
          gd (R32 (c3 m 23)) <|
          jn (fun (u5 : Unit) =>
              jn (fun (v7 : Int) =>
                  sto c3 m 25 v7 fun c8 =>
                  bq (1 = 0) (
                    sto c8 m 26 (c8 m 26) fun c9 =>
                    some ((0 : Int), c9)) (
                    sto c8 m 26 (c8 m 17) fun c10 =>
                    some (0, c10))) fun k6 =>
              bq (1 = 0) (
                k6 (c3 m 25)) (
                k6 (c3 m 16))) fun k4 =>
          bq ((c3 m 23) = 1) (
            k4 ()) (
            gd (R64 ((c3 m 16) * (c3 m 26)) ∧ R64 ((c3 m 25) * (c3 m 17))) <|
            bq (((c3 m 16) * (c3 m 26)) ≤ ((c3 m 25) * (c3 m 17))) (
              jn (fun (v12 : Int) =>
                  sto c3 m 25 v12 fun c13 =>
                  bq (0 = 0) (
                    sto c13 m 26 (c13 m 26) fun c14 =>
                    some (0, c14)) (
                    sto c13 m 26 (c13 m 17) fun c15 =>
                    some (0, c15))) fun k11 =>
              bq (0 = 0) (
                k11 (c3 m 25)) (
                k11 (c3 m 16))) (
              k4 ()))) fun k2 =>
      bq (v1 = 0) (
        k2 c) (
        gd (0 ≤ (2 * (c m 24)) ∧ (2 * (c m 24)) < 140) <|
        sto c (m + 12) (2 * (c m 24)) (c m 16) fun c16 =>
        gd (0 ≤ ((2 * (c16 m 24)) + 1) ∧ ((2 * (c16 m 24)) + 1) < 140) <|
        sto c16 (m + 12) ((2 * (c16 m 24)) + 1) (c16 m 17) fun c17 =>
        sto c17 m 24 ((c17 m 24) + 1) fun c18 =>
        k2 c18))
  rw [ex, jn_e]
  rcases hx with ⟨rfl, h⟩ | ⟨rfl, h⟩
  · have nm : m ≠ m + 12 := by omega
    have hc1 : ∀ i : Int, i ≠ 24 → upc (upc (upc c (m + 12) (updZ (c (m + 12)) (2 * S.2.1) a)) (m + 12) (updZ (updZ (c (m + 12)) (2 * S.2.1) a) (2 * S.2.1 + 1) b)) m (updZ (c m) 24 (S.2.1 + 1)) m i = c m i := fun i hi => by rw [upc_s, updZ_n hi]
    obtain ⟨c', e', hF', hi', h25, h26⟩ := tail9 (m := m) (n := n) (a := a) (b := b) (S := S) (c := upc (upc (upc c (m + 12) (updZ (c (m + 12)) (2 * S.2.1) a)) (m + 12) (updZ (updZ (c (m + 12)) (2 * S.2.1) a) (2 * S.2.1 + 1) b)) m (updZ (c m) 24 (S.2.1 + 1))) (by rw [hc1 _ (by decide)]; exact hR.1) (by rw [hc1 _ (by decide)]; exact h16) (by rw [hc1 _ (by decide)]; exact h17) (fun y => by rw [hc1 _ (by decide), hc1 _ (by decide)]; exact hR.2.2.2 y) hS hb hn hn2
    refine ⟨c', ?_, (((Fr.up (Or.inr rfl)).tr (Fr.up (Or.inr rfl))).tr (Fr.up (Or.inl rfl))).tr (hF'.mo (fun q x => Or.inl x)), fun i x y w => by rw [hi' i y w, hc1 i x], ?_⟩
    · rw [gd_t (by omega), bq_n (by omega), hR.2.1, h16, gd_t (by omega)]
      have u1 : upc c (m + 12) (updZ (c (m + 12)) (2 * S.2.1) a) m = c m := upc_n nm
      have u2 : upc c (m + 12) (updZ (c (m + 12)) (2 * S.2.1) a) (m + 12) = updZ (c (m + 12)) (2 * S.2.1) a := upc_s
      have u3 : upc (upc c (m + 12) (updZ (c (m + 12)) (2 * S.2.1) a)) (m + 12) (updZ (updZ (c (m + 12)) (2 * S.2.1) a) (2 * S.2.1 + 1) b) m = c m := (upc_n nm).trans u1
      rw [sto_e, u1, hR.2.1, h17, gd_t (by omega), sto_e, u2, sto_e, u3, hR.2.1]
      exact e'
    · unfold svA
      rw [bq_n h]
      have e12 : c' (m + 12) = updZ (updZ (c (m + 12)) (2 * S.2.1) a) (2 * S.2.1 + 1) b := by rw [hF' _ (by omega), upc_n (by omega), upc_s]
      refine ⟨by rw [hi' 23 (by decide) (by decide), hc1 _ (by decide)]; exact hR.1, by rw [hi' 24 (by decide) (by decide), upc_s, updZ_s], fun k x y => ?_, fun _ => ⟨h25, h26⟩⟩
      have y2 : k < S.2.1 + 1 := y
      show _ = updZ S.2.2.1 S.2.1 a k ∧ _ = updZ S.2.2.2.1 S.2.1 b k
      rw [e12]
      by_cases e : k = S.2.1
      · rw [e]
        refine ⟨?_, ?_⟩
        · rw [updZ_n (show 2 * S.2.1 ≠ 2 * S.2.1 + 1 by omega), updZ_s, updZ_s]
        · rw [updZ_s, updZ_s]
      · obtain ⟨p1, p2⟩ := hR.2.2.1 k x (by omega)
        refine ⟨?_, ?_⟩
        · rw [updZ_n (show 2 * k ≠ 2 * S.2.1 + 1 by omega), updZ_n (show 2 * k ≠ 2 * S.2.1 by omega), updZ_n e, p1]
        · rw [updZ_n (show 2 * k + 1 ≠ 2 * S.2.1 + 1 by omega), updZ_n (show 2 * k + 1 ≠ 2 * S.2.1 by omega), updZ_n e, p2]
  · obtain ⟨c', e', hF', hi', h25, h26⟩ := tail9 (m := m) (n := n) (a := a) (b := b) (S := S) (c := c) hR.1 h16 h17 hR.2.2.2 hS hb hn hn2
    have hl : 0 < S.2.1 := by
      obtain ⟨k, hk, -⟩ := h
      omega
    have hm : ¬ morS S (a, b) := by
      intro z
      obtain ⟨k, hk, k1, k2⟩ := h
      have q := (hS.2.2.2.2 hl).2 k hk.1 hk.2
      rw [k1, k2] at q
      have q2 : a * S.2.2.2.2.2 ≤ S.2.2.2.2.1 * b := q
      rcases z with z | z
      · omega
      · have z2 : S.2.2.2.2.1 * b < a * S.2.2.2.2.2 := z
        omega
    rw [bq_n hm] at h25 h26
    refine ⟨c', ?_, hF'.mo (fun q x => Or.inl x), fun i _ y w => hi' i y w, ?_⟩
    · rw [gd_t (by omega), bq_p rfl]
      exact e'
    · unfold svA
      rw [bq_p h]
      refine ⟨by rw [hi' 23 (by decide) (by decide)]; exact hR.1, by rw [hi' 24 (by decide) (by decide)]; exact hR.2.1, ?_, fun _ => ⟨h25, h26⟩⟩
      rw [hF' _ (by omega)]
      exact hR.2.2.1
end
/-! the loop over the sets -/
theorem nu_ch {X D e : Int} (hD : D ≠ 0) (he : e = 1 ∨ e = -1) : nu X D = nu (e * X) (e * D) ∧ de X D = de (e * X) (e * D) := by
  refine nu_u hD ?_ (by ac_rfl)
  rcases he with rfl | rfl <;> omega
theorem looks9 {m : Nat} {F : Int → Int} {c : W0} (hF : c (m + 1) = F) (g : GdP F) : ∃ c', f_X9_looksAtBases m c = some (0, c') ∧ Fq m c c' ∧ Rp9 m (svS F (2 ^ NF F)).1 (svS F (2 ^ NF F)) c' := by
  have g0 := g.1; have g1 := g.2.1
  have hN := NF_e g
  have h256 : 2 ^ NF F ≤ 256 := tw_d ⟨NF F, by omega⟩
  have hsh : ishlZ 1 ((NF F : Nat) : Int) = ((2 ^ NF F : Nat) : Int) := sh_d ⟨NF F, by omega⟩
  generalize hM : 2 ^ NF F = M at *
  have L : ∀ (k fuel j : Nat) (c1 : W0), j + k = M → k + 1 ≤ fuel → Fq m c c1 → Rp9 m (svS F j).1 (svS F j) c1 → ∃ c', f_X9_looksAtBases_12 m (fun c3 => some (0, c3)) fuel (j : Int) c1 = some (0, c') ∧ Fq m c c' ∧ Rp9 m (svS F M).1 (svS F M) c' := by
    intro k
    induction k with
    | zero =>
      intro fuel j c1 hj hf hq hR
      obtain ⟨f, rfl⟩ : ∃ f, fuel = f + 1 := ⟨fuel - 1, by omega⟩
      have eF : c1 (m + 1) = F := (hq.1 _ (by omega) (by omega)).trans hF
      rw [f_X9_looksAtBases_12_s]
      unfold b_X9_looksAtBases_12 f_X9_columns
      rw [eF, cv_s, ← hN, hsh, gd_t (by omega), bq_p (by omega)]
      rw [show j = M by omega] at hR
      exact ⟨c1, rfl, hq, hR⟩
    | succ k ih =>
      intro fuel j c1 hj hf hq hR
      obtain ⟨f, rfl⟩ : ∃ f, fuel = f + 1 := ⟨fuel - 1, by omega⟩
      have eF : c1 (m + 1) = F := (hq.1 _ (by omega) (by omega)).trans hF
      have hct : cntB (j : Int) 8 = cntB (j : Int) (NF F) := ct_d ⟨j, by omega⟩ ⟨NF F, by omega⟩ (by show j < 2 ^ NF F; omega)
      have skip : ∀ c2, ¬ isU F j → Fq m c1 c2 → (∀ i : Int, 23 ≤ i → i ≤ 26 → c2 m i = c1 m i) → c2 (m + 12) = c1 (m + 12) → ∃ c', f_X9_looksAtBases_12 m (fun c3 => some (0, c3)) f ((j : Int) + 1) c2 = some (0, c') ∧ Fq m c c' ∧ Rp9 m (svS F M).1 (svS F M) c' := fun c2 hn hF2 e0 e5 => by
        have h4 := ih f (j + 1) c2 (by omega) (by omega) (hq.tr hF2) (by rw [svS_f hn]; exact Rp9_f hR e0 e5)
        rw [show ((j + 1 : Nat) : Int) = (j : Int) + 1 by omega] at h4
        exact h4
      obtain ⟨b, c2, e2, hF2, hb⟩ := names9 (m := m) (c := c1) (u := (j : Int)) eF g ⟨by omega, by omega⟩
      have hq2 : Fq m c1 c2 := ⟨fun q a b => hF2 q (by omega), fun i a => by rw [hF2 m (by omega)]⟩
      have i2 : ∀ i : Int, c2 m i = c1 m i := fun i => by rw [hF2 m (by omega)]
      have e12 : c2 (m + 12) = c1 (m + 12) := hF2 _ (by omega)
      have eF2 : c2 (m + 1) = F := (hF2 _ (by omega)).trans eF
      rw [f_X9_looksAtBases_12_s]
      unfold b_X9_looksAtBases_12 f_X9_columns
      rw [eF, cv_s, ← hN, hsh, gd_t (by omega), bq_n (by omega), e2, cl_s]
      rcases hb with ⟨rfl, h, hw⟩ | ⟨rfl, h⟩
      · have hwr : ∀ r, 0 ≤ r → r < F 1 → 0 ≤ nmB (j : Int) (NF F) r ∧ nmB (j : Int) (NF F) r < F 0 + F 1 := fun r a b => by
          have := nmB_r (u := (j : Int)) (NF F) r a (by omega)
          omega
        have hl := lays_s (th := m) (c := c2) (by rw [eF2]; exact g) (by
          rw [eF2]
          intro r a b
          rw [hw r a b]
          exact hwr r a b)
        rw [eF2] at hl
        obtain ⟨b, c3, e3, hQ3, hb⟩ := hl
        have hq3 : Fq m c1 c3 := hq2.tr (Fq.qs hQ3)
        have i3 : ∀ i : Int, 23 ≤ i → i ≤ 26 → c3 m i = c1 m i := fun i a b => (hQ3.2 i (by omega) (by omega)).trans (i2 i)
        have e312 : c3 (m + 12) = c1 (m + 12) := (hQ3.1 _ (by omega) (by unfold P6; omega)).trans e12
        have eF3 : c3 (m + 1) = F := (hQ3.1 _ (by omega) (by unfold P6; omega)).trans eF2
        rw [gd_t (by omega), bq_n (by omega), e3, cl_s]
        rcases hb with ⟨rfl, C, s, hE0, hT⟩ | ⟨rfl, hd⟩
        · have hE : Elm (F 1) (F 1) (csU F j) C s := Elm_c hE0 (fun i a b => by
            unfold csU
            rw [hw i a b])
          have H := eqU g h
          have hD := hE.2.1
          have hDb := det_b (Elm_9 hE H.2.2.1 (by omega))
          have hTb : ∀ r, 0 ≤ r → r < F 1 → B173 (tt C (bsR F) (s r)) := fun r a b => by
            have := eq_b H hE (by omega) (r := r) (q := F 1) ⟨a, b⟩ ⟨g1.1, by omega⟩
            rw [Aq_m] at this
            exact this
          have hT8 : ∀ r, 0 ≤ r → r < F 1 → c3 (m + 6) (9 * r + 8) = nu (tt C (bsR F) (s r)) (det4 C) ∧ c3 (m + 7) (9 * r + 8) = de (tt C (bsR F) (s r)) (det4 C) := fun r a b => by
            have := hT r 8 a b (by omega) (by omega)
            rw [Aq_8] at this
            exact this
          obtain ⟨b, e4, hb⟩ := feas9 eF3 g hD hTb (fun r a b => (hT8 r a b).1)
          have hb1 : b = 1 ∨ b = 0 := hb.elim (fun h => Or.inl h.1) (fun h => Or.inr h.1)
          rw [← isU_i g h hE] at hb
          rw [gd_t (by omega), bq_n (by omega), e4, cv_s, gd_t (by omega)]
          rcases hb with ⟨rfl, hi⟩ | ⟨rfl, hi⟩
          · have hS := svS_g g j
            have hn1 := svS_n g j (by omega)
            have hn2 := chN_b (m := F 1) g1 (u := j) (by omega) (hct.trans h)
            obtain ⟨e, he, heD⟩ : ∃ e : Int, (e = 1 ∨ e = -1) ∧ 0 < e * det4 C := by
              by_cases w : 0 < det4 C
              · exact ⟨1, Or.inl rfl, by omega⟩
              · exact ⟨-1, Or.inr rfl, by omega⟩
            have heb : e * det4 C ≤ 157464 := by rcases he with rfl | rfl <;> omega
            have w3 : ∀ r, 0 ≤ r → r < F 1 → c3 (m + 8) r = nmB (j : Int) (NF F) r := fun r a b => by
              rw [hQ3.1 _ (by omega) (by unfold P6; omega)]
              exact hw r a b
            rw [bq_n (by omega)]
            dsimp only [sto]
            have h5 : ∀ q, q ≠ m → upc c3 m (updZ (c3 m) 23 (c3 m 23 + 1)) q = c3 q := fun q a => upc_n a
            have i5 : ∀ i : Int, i ≠ 23 → upc c3 m (updZ (c3 m) 23 (c3 m 23 + 1)) m i = c3 m i := fun i a => by rw [upc_s, updZ_n a]
            have s5 : upc c3 m (updZ (c3 m) 23 (c3 m 23 + 1)) m 23 = (svS F j).1 + 1 := by rw [upc_s, updZ_s, i3 23 (by decide) (by decide), hR.1]
            generalize upc c3 m (updZ (c3 m) 23 (c3 m 23 + 1)) = c5 at *
            have hv := vals9 (m := m) (F := F) (c := c5) (D := e * det4 C) (Y := fun r => e * tt C (bsR F) (s r)) (w := nmB (j : Int) (NF F)) (X := fun l => e * sU F j C s l) (by rw [h5 _ (by omega)]; exact eF3) g ⟨heD, by omega⟩ (fun r a b => ⟨by rw [h5 _ (by omega)]; exact w3 r a b, hwr r a b⟩) (fun r a b => by
              have := hTb r a b
              rcases he with rfl | rfl <;> omega) (fun r a b => by
              obtain ⟨t6, t7⟩ := hT8 r a b
              have hch := nu_ch (X := tt C (bsR F) (s r)) hD he
              rw [h5 _ (by omega), h5 _ (by omega), t6, t7]
              exact hch) (by show e * sU F j C s 0 = 0; rw [sU_0, Int.mul_zero]) (fun l a b => by
              have := sU_b g h hE b
              show -62355744 ≤ e * sU F j C s l ∧ e * sU F j C s l ≤ 62355744
              rcases he with rfl | rfl <;> omega) (fun l a b => by
              show e * sU F j C s (l + 1) = e * sU F j C s l + cF F (nmB (j : Int) (NF F) l) * (e * tt C (bsR F) (s l))
              rw [sU_s ⟨a, by omega⟩, Int.mul_add]
              congr 1
              ac_rfl)
            have hch := nu_ch (X := sU F j C s (F 1)) hD he
            have hvU := vU_e g hE
            have hv2 : f_X9_values m c5 = some (0, fs c5 m (vU F j).1 (vU F j).2) := by
              rw [hv, hvU]
              show some ((0 : Int), fs c5 m (nu (e * sU F j C s (F 1)) (e * det4 C)) (de (e * sU F j C s (F 1)) (e * det4 C))) = some ((0 : Int), fs c5 m (nu (sU F j C s (F 1)) (det4 C)) (de (sU F j C s (F 1)) (det4 C)))
              rw [hch.1, hch.2]
            have hR5 : Rp9 m ((svS F j).1 + 1) (svS F j) (fs c5 m (vU F j).1 (vU F j).2) := by
              have q : ∀ i : Int, 24 ≤ i → i ≤ 26 → fs c5 m (vU F j).1 (vU F j).2 m i = c1 m i := fun i a b => by
                rw [fs_i ⟨by omega, by omega⟩, i5 i (by omega), i3 i (by omega) (by omega)]
              refine ⟨by rw [fs_i ⟨by decide, by decide⟩]; exact s5, by rw [q 24 (by decide) (by decide)]; exact hR.2.1, ?_, fun y => ?_⟩
              · rw [fs_n (by omega), h5 _ (by omega), e312]
                exact hR.2.2.1
              · rw [q 25 (by decide) (by decide), q 26 (by decide) (by decide)]
                exact hR.2.2.2 y
            have hq5 : Fq m c1 (fs c5 m (vU F j).1 (vU F j).2) := by
              refine hq3.tr (Fq.tr (c1 := c5) ⟨fun q a b => h5 q a, fun i a => i5 i (fun z => a (Or.inr (Or.inr (by omega))))⟩ Fq.fs)
            obtain ⟨c6, e6, hF6, hi6, hR6⟩ := lookv9 (a := (vU F j).1) (b := (vU F j).2) hR5 hS rfl (by omega) fs_o fs_u (vU_b g hi)
            rw [hv2, cl_s, e6, cl_s]
            have h4 := ih f (j + 1) c6 (by omega) (by omega) ((hq.tr hq5).tr ⟨fun q a b => hF6 q (by omega), fun i a => hi6 i (by omega) (by omega) (by omega)⟩) (by rw [svS_t hi]; exact Rp9_n hR6 svA_1.symm)
            rw [show ((j + 1 : Nat) : Int) = (j : Int) + 1 by omega] at h4
            exact h4
          · rw [bq_p rfl]
            exact skip c3 hi hq3 i3 e312
        · rw [gd_t (by omega), bq_p rfl]
          exact skip c3 (isU_d g (Dep_c hd (fun i a b => by
            unfold csU
            rw [hw i a b]))) hq3 i3 e312
      · rw [gd_t (by omega), bq_p rfl]
        exact skip c2 (fun z => h z.1) hq2 (fun i _ _ => i2 i) e12
  unfold f_X9_looksAtBases
  dsimp only [sto]
  rw [upc_s]
  refine L M LF 0 _ (by omega) (by rw [LF_g]; omega) ⟨fun q a b => by rw [upc_n a, upc_n a], fun i a => by rw [upc_s, updZ_n (by omega), updZ_n (by omega)]⟩ ⟨Eq.trans (b := 0) (by rw [upc_s, updZ_n (by decide), updZ_s]) rfl, Eq.trans (b := 0) (by rw [upc_s, updZ_s]) rfl, fun k a b => by
    have b2 : k < 0 := b
    omega, fun b => by
    have b2 : (0 : Int) < 0 := b
    omega⟩
section
variable {m : Nat} {z : St} {K : Int}
theorem m9_survey (hL : LI K z) : Mo m z (f_X9_feasibleBases m) 0 (svS z.1 (2 ^ NF z.1)).1 z ∧ Mo m z (f_X9_unlikeValues m) 0 (svS z.1 (2 ^ NF z.1)).2.1 z ∧ Mo m z (f_X9_bestNumerator m) 0 (svS z.1 (2 ^ NF z.1)).2.2.2.2.1 z ∧ Mo m z (f_X9_bestDenominator m) 0 (svS z.1 (2 ^ NF z.1)).2.2.2.2.2 z := by
  have h1 := svS_1 hL.1.1
  have fin : ∀ c c1 : W0, MI m z c → Fq m (upc c m (updZ (c m) 0 0)) c1 → FrM m c c1 ∧ MI m z c1 ∧ c1 m 0 = 0 := fun c c1 hM hq => ⟨fun q a => by rw [hq.1 q (by omega) (by omega), upc_n (by omega)], MI_q (MI_t hM) hq, by rw [hq.2 0 (by decide), upc_s, updZ_s]⟩
  refine ⟨fun c hM => ?_, fun c hM => ?_, fun c hM => ?_, fun c hM => ?_⟩
  · obtain ⟨c1, e1, hq, hR⟩ := looks9 (m := m) (c := upc c m (updZ (c m) 0 0)) ((upc_n (by omega)).trans hM.1) hL.1.1
    unfold f_X9_feasibleBases
    dsimp only [sto]
    rw [e1, cl_s, hR.1]
    exact ⟨c1, rfl, fin c c1 hM hq⟩
  · obtain ⟨c1, e1, hq, hR⟩ := looks9 (m := m) (c := upc c m (updZ (c m) 0 0)) ((upc_n (by omega)).trans hM.1) hL.1.1
    unfold f_X9_unlikeValues
    dsimp only [sto]
    rw [e1, cl_s, hR.2.1]
    exact ⟨c1, rfl, fin c c1 hM hq⟩
  · obtain ⟨c1, e1, hq, hR⟩ := looks9 (m := m) (c := upc c m (updZ (c m) 0 0)) ((upc_n (by omega)).trans hM.1) hL.1.1
    unfold f_X9_bestNumerator
    dsimp only [sto]
    rw [e1, cl_s, (hR.2.2.2 (by omega)).1]
    exact ⟨c1, rfl, fin c c1 hM hq⟩
  · obtain ⟨c1, e1, hq, hR⟩ := looks9 (m := m) (c := upc c m (updZ (c m) 0 0)) ((upc_n (by omega)).trans hM.1) hL.1.1
    unfold f_X9_bestDenominator
    dsimp only [sto]
    rw [e1, cl_s, (hR.2.2.2 (by omega)).2]
    exact ⟨c1, rfl, fin c c1 hM hq⟩
end
end SM
