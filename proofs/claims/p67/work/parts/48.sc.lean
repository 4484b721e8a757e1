section SC
theorem jn_e {α β : Type} {k : α} {f : α → β} : jn k f = f k := rfl
/-! the class's survey -/
def Rp8 (v : Nat) (n : Int) (S : Sv) (c : W0) : Prop := c v 2 = n ∧ c v 3 = S.2.1 ∧ (∀ k, 0 ≤ k → k < S.2.1 → c (v + 5) k = S.2.2.1 k ∧ c (v + 5) (1 * 70 + k) = S.2.2.2.1 k) ∧ (0 < S.2.1 → c v 4 = S.2.2.2.2.1 ∧ c v 5 = S.2.2.2.2.2)
section
variable {v : Nat} {n a b : Int} {S : Sv} {c : W0}
theorem isNoted8 (hR : Rp8 v n S c) (hS : SvG S) (hl : S.2.1 ≤ 70) (ha : R64 a) (hb : R64 b) : ∃ x, f_X5_isNoted v a b c = some x ∧ ((x = 1 ∧ notd S (a, b)) ∨ (x = 0 ∧ ¬ notd S (a, b))) := by
  have hl0 := hS.1
  have L : ∀ (k fuel : Nat) (l : Int), l + k = S.2.1 → 0 ≤ l → k + 1 ≤ fuel → (∀ i, 0 ≤ i → i < l → ¬ (S.2.2.1 i = a ∧ S.2.2.2.1 i = b)) → ∃ x, f_X5_isNoted_3 v a b c (some 0) fuel l = some x ∧ ((x = 1 ∧ notd S (a, b)) ∨ (x = 0 ∧ ¬ notd S (a, b))) := by
    intro k
    induction k with
    | zero =>
      intro fuel l hl h0 hf hI
      obtain ⟨f, rfl⟩ : ∃ f, fuel = f + 1 := ⟨fuel - 1, by omega⟩
      rw [f_X5_isNoted_3_s]
      unfold b_X5_isNoted_3
      rw [hR.2.1, gd_t (by omega), bq_p (by omega)]
      exact ⟨0, rfl, Or.inr ⟨rfl, fun ⟨i, hi, h1, h2⟩ => hI i hi.1 (by omega) ⟨h1, h2⟩⟩⟩
    | succ k ih =>
      intro fuel l hl h0 hf hI
      obtain ⟨f, rfl⟩ : ∃ f, fuel = f + 1 := ⟨fuel - 1, by omega⟩
      obtain ⟨v1, v2⟩ := hR.2.2.1 l h0 (by omega)
      have h9 := hS.2.2.2.1 l h0 (by omega)
      have go : ¬ (S.2.2.1 l = a ∧ S.2.2.2.1 l = b) → ∃ x, f_X5_isNoted_3 v a b c (some 0) f (l + 1) = some x ∧ ((x = 1 ∧ notd S (a, b)) ∨ (x = 0 ∧ ¬ notd S (a, b))) := fun z => ih f (l + 1) (by omega) (by omega) (by omega) (fun i x y => by
        by_cases e : i = l
        · rw [e]; exact z
        · exact hI i x (by omega))
      rw [f_X5_isNoted_3_s]
      unfold b_X5_isNoted_3
      rw [hR.2.1, gd_t (by omega), bq_n (by omega), gd_t (by omega), v1, gd_t ⟨by omega, ha⟩]
      by_cases e : S.2.2.1 l = a
      · rw [bq_p e, gd_t (by omega), v2, gd_t ⟨by omega, hb⟩]
        by_cases e2 : S.2.2.2.1 l = b
        · rw [bq_p e2]
          exact ⟨1, rfl, Or.inl ⟨rfl, l, ⟨h0, by omega⟩, e, e2⟩⟩
        · rw [bq_n e2]
          exact go (fun z => e2 z.2)
      · rw [bq_n e]
        exact go (fun z => e z.1)
  unfold f_X5_isNoted
  exact L S.2.1.toNat LF 0 (by omega) (by omega) (by rw [LF_g]; omega) (fun i x y => by omega)
theorem putn8 (h2 : c v 2 = n) (h3 : c v 3 = S.2.1) (hP : ∀ k, 0 ≤ k → k < S.2.1 → c (v + 5) k = S.2.2.1 k ∧ c (v + 5) (1 * 70 + k) = S.2.2.2.1 k) (hl : 0 ≤ S.2.1 ∧ S.2.1 < 70) (hn : ¬ notd S (a, b)) (h4 : c v 4 = bq (morS S (a, b)) a S.2.2.2.2.1) (h5 : c v 5 = bq (morS S (a, b)) b S.2.2.2.2.2) : ∃ c', (gd (0 ≤ c v 3 ∧ c v 3 < 70) <| sto c (v + 5) (c v 3) a fun c8 => gd (0 ≤ c8 v 3 ∧ c8 v 3 < 70) <| sto c8 (v + 5) (1 * 70 + c8 v 3) b fun c9 => sto c9 v 3 (c9 v 3 + 1) fun c10 => some ((0 : Int), c10)) = some ((0 : Int), c') ∧ Fr (fun q => q = v ∨ q = v + 5) c c' ∧ Rp8 v n (svA S (a, b)) c' := by
  have nv : v ≠ v + 5 := by omega
  simp only [sto, h3, upc_n nv, upc_s]
  rw [gd_t hl, gd_t hl]
  refine ⟨_, rfl, ((Fr.up (Or.inr rfl)).tr (Fr.up (Or.inr rfl))).tr (Fr.up (Or.inl rfl)), ?_⟩
  unfold svA
  rw [bq_n hn]
  refine ⟨by rw [upc_s, updZ_n (by decide)]; exact h2, by rw [upc_s, updZ_s], fun k x y => ?_, fun _ => ⟨by rw [upc_s, updZ_n (by decide)]; exact h4, by rw [upc_s, updZ_n (by decide)]; exact h5⟩⟩
  have y2 : k < S.2.1 + 1 := y
  show _ = updZ S.2.2.1 S.2.1 a k ∧ _ = updZ S.2.2.2.1 S.2.1 b k
  rw [upc_n (show v + 5 ≠ v by omega), upc_s]
  by_cases e : k = S.2.1
  · rw [e]
    refine ⟨?_, ?_⟩
    · rw [updZ_n (show S.2.1 ≠ 1 * 70 + S.2.1 by omega), updZ_s, updZ_s]
    · rw [updZ_s, updZ_s]
  · obtain ⟨p1, p2⟩ := hP k x (by omega)
    refine ⟨?_, ?_⟩
    · rw [updZ_n (show k ≠ 1 * 70 + S.2.1 by omega), updZ_n e, updZ_n e, p1]
    · rw [updZ_n (show 1 * 70 + k ≠ 1 * 70 + S.2.1 by omega), updZ_n (show 1 * 70 + k ≠ S.2.1 by omega), updZ_n e, p2]
theorem noteValue8 {N D : Int} (hR : Rp8 v n S c) (hS : SvG S) (hl : S.2.1 < 70) (hN : -62355744 ≤ N ∧ N ≤ 62355744) (hD : -157464 ≤ D ∧ D ≤ 157464) (hD0 : D ≠ 0) : ∃ c', f_X5_noteValue v N D c = some (0, c') ∧ Fr (fun q => q = v ∨ q = v + 5) c c' ∧ Rp8 v n (svA S (nu N D, de N D)) c' := by
  have hl0 := hS.1
  have n1 := nu_n (n := N) (d := D)
  have n2 := de_n (n := N) (d := D)
  have n3 := (nu_e (n := N) hD0).2.1
  obtain ⟨x, ex, hx⟩ := isNoted8 (a := nu N D) (b := de N D) hR hS (by omega) (by omega) (by omega)
  unfold f_X5_noteValue
  rw [lowN (by omega) (by omega) hD0, cv_s, lowD (by omega) (by omega) hD0, cv_s, ex, cv_s, gd_t (by omega)]
  generalize nu N D = a at *
  generalize de N D = b at *
  rcases hx with ⟨rfl, h⟩ | ⟨rfl, h⟩
  · rw [bq_n (by omega)]
    refine ⟨c, rfl, Fr.rf, ?_⟩
    unfold svA
    rw [bq_p h]
    exact hR
  · rw [bq_p rfl, hR.2.1, gd_t (by omega), jn_e]
    have A : morS S (a, b) → ∃ c', (sto c v 4 a fun c6 => sto c6 v 5 b fun c7 => gd (0 ≤ c7 v 3 ∧ c7 v 3 < 70) <| sto c7 (v + 5) (c7 v 3) a fun c8 => gd (0 ≤ c8 v 3 ∧ c8 v 3 < 70) <| sto c8 (v + 5) (1 * 70 + c8 v 3) b fun c9 => sto c9 v 3 (c9 v 3 + 1) fun c10 => some ((0 : Int), c10)) = some ((0 : Int), c') ∧ Fr (fun q => q = v ∨ q = v + 5) c c' ∧ Rp8 v n (svA S (a, b)) c' := by
      intro hm
      obtain ⟨c', e', hF', h'⟩ := putn8 (v := v) (n := n) (S := S) (a := a) (b := b) (c := upc (upc c v (updZ (c v) 4 a)) v (updZ (updZ (c v) 4 a) 5 b)) (by rw [upc_s, updZ_n (by decide), updZ_n (by decide)]; exact hR.1) (by rw [upc_s, updZ_n (by decide), updZ_n (by decide)]; exact hR.2.1) (fun k x y => by rw [upc_n (show v + 5 ≠ v by omega), upc_n (show v + 5 ≠ v by omega)]; exact hR.2.2.1 k x y) ⟨hl0, hl⟩ h (by rw [bq_p hm, upc_s, updZ_n (by decide), updZ_s]) (by rw [bq_p hm, upc_s, updZ_s])
      refine ⟨c', ?_, Fr.tr (c1 := upc (upc c v (updZ (c v) 4 a)) v (updZ (updZ (c v) 4 a) 5 b)) ((Fr.up (Or.inl rfl)).tr (Fr.up (Or.inl rfl))) hF', h'⟩
      have e9 : upc c v (updZ (c v) 4 a) v = updZ (c v) 4 a := upc_s
      rw [← e']
      dsimp only [sto]
      rw [e9]
    by_cases y : S.2.1 = 0
    · rw [bq_p y]
      exact A (Or.inl y)
    · obtain ⟨h6, h7⟩ := hR.2.2.2 (by omega)
      have h8 := (hS.2.2.2.2 (by omega)).1
      rw [bq_n y, h6, h7]
      have q1 := mbd (x := a) (y := S.2.2.2.2.2) (A := 62355744) (B := 157464) (by omega) (by omega)
      have q2 := mbd (x := S.2.2.2.2.1) (y := b) (A := 62355744) (B := 157464) (by omega) (by omega)
      rw [gd_t (by omega)]
      by_cases w : a * S.2.2.2.2.2 ≤ S.2.2.2.2.1 * b
      · have hm : ¬ morS S (a, b) := fun z => z.elim y (fun z => by
          have z2 : S.2.2.2.2.1 * b < a * S.2.2.2.2.2 := z
          omega)
        rw [bq_p w, ← hR.2.1]
        exact putn8 hR.1 hR.2.1 hR.2.2.1 ⟨hl0, hl⟩ h (by rw [bq_n hm]; exact h6) (by rw [bq_n hm]; exact h7)
      · rw [bq_n w]
        exact A (Or.inr (by show S.2.2.2.2.1 * b < a * S.2.2.2.2.2; omega))
end
theorem bsR_e {F : Int → Int} {r : Int} (hr : 0 ≤ r ∧ r < F 1) : bsR F r = F (22 + r) := by
  unfold bsR aF
  rw [if_pos hr, if_neg (by omega), if_pos rfl]
section
variable {e p : Nat} {F : Int → Int} {u : Int} {c : W0}
/-- the equations of a set -/
theorem sb46 (hq : p + 2 < e) (g : GdP F) (hP : RepP p F c) (h0 : c e 0 = F 1) (κ : W0 → Option (Int × W0)) {k0 q0 : Int} (hk : 0 ≤ k0 ∧ k0 < 5) (hq0 : 0 ≤ q0 ∧ q0 < F 0 + F 1) : ∃ c2, f_X0_solveBasis_46 e p u k0 q0 κ LF 0 c = κ c2 ∧ Fr (fun y => y = e + 2) c c2 ∧ (∀ r, 0 ≤ r → r < F 1 → c2 (e + 2) (r * 5 + k0) = aF F q0 r) ∧ ∀ r q, 0 ≤ q → q < 5 → q ≠ k0 → c2 (e + 2) (r * 5 + q) = c (e + 2) (r * 5 + q) := by
  have g1 := g.2.1
  have L : ∀ (k fuel : Nat) (l : Int) (c1 : W0), l + k = F 1 → 0 ≤ l → k + 1 ≤ fuel → Fr (fun y => y = e + 2) c c1 → (∀ r, 0 ≤ r → r < l → c1 (e + 2) (r * 5 + k0) = aF F q0 r) → (∀ r q, 0 ≤ q → q < 5 → q ≠ k0 → c1 (e + 2) (r * 5 + q) = c (e + 2) (r * 5 + q)) → ∃ c2, f_X0_solveBasis_46 e p u k0 q0 κ fuel l c1 = κ c2 ∧ Fr (fun y => y = e + 2) c c2 ∧ (∀ r, 0 ≤ r → r < F 1 → c2 (e + 2) (r * 5 + k0) = aF F q0 r) ∧ ∀ r q, 0 ≤ q → q < 5 → q ≠ k0 → c2 (e + 2) (r * 5 + q) = c (e + 2) (r * 5 + q) := by
    intro k
    induction k with
    | zero =>
      intro fuel l c1 hl hl0 hf hF hI hO
      obtain ⟨f, rfl⟩ : ∃ f, fuel = f + 1 := ⟨fuel - 1, by omega⟩
      have ee : c1 e 0 = F 1 := by rw [hF e (by omega)]; exact h0
      rw [f_X0_solveBasis_46_s]
      unfold b_X0_solveBasis_46
      rw [ee, gd_t (by omega), bq_p (by omega)]
      exact ⟨c1, rfl, hF, fun r a b => hI r a (by omega), hO⟩
    | succ k ih =>
      intro fuel l c1 hl hl0 hf hF hI hO
      obtain ⟨f, rfl⟩ : ∃ f, fuel = f + 1 := ⟨fuel - 1, by omega⟩
      have ee : c1 e 0 = F 1 := by rw [hF e (by omega)]; exact h0
      have h9 := aF_9 g (q := q0) (i := l) hq0
      have hff := ff8 (RepP_c hP (hF p (by omega)) (hF (p + 2) (by omega))) g (r := l) (j := q0) ⟨hl0, by omega⟩ hq0
      rw [f_X0_solveBasis_46_s]
      unfold b_X0_solveBasis_46
      rw [ee, gd_t (by omega), bq_n (by omega), hff, cv_s, gd_t (by omega), gd_t (by omega)]
      dsimp only [sto]
      refine ih f (l + 1) _ (by omega) (by omega) (by omega) (hF.tr (Fr.up rfl)) (fun r a b => ?_) (fun r q a b x => ?_)
      · rw [upc_s]
        by_cases y : r = l
        · rw [y, updZ_s]
        · rw [updZ_n (by omega)]; exact hI r a (by omega)
      · rw [upc_s, updZ_n (by omega)]
        exact hO r q a b x
  exact L (F 1).toNat LF 0 c (by omega) (by omega) (by rw [LF_g]; omega) Fr.rf (fun r a b => by omega) (fun _ _ _ _ _ => rfl)
theorem sb19 (hq : p + 2 < e) (g : GdP F) (hu : 0 ≤ u ∧ u < 256) (hc : cntB u (NF F) = F 1) (hP : RepP p F c) (h0 : c e 0 = F 1) (κ : W0 → Option (Int × W0)) : ∃ c2, f_X0_solveBasis_19 e p u κ LF 0 0 c = κ c2 ∧ Fr (fun y => y = e + 2) c c2 ∧ ∀ i r, 0 ≤ i → i < F 1 → 0 ≤ r → r < F 1 → c2 (e + 2) (r * 5 + i) = csU F u i r := by
  have g0 := g.1; have g1 := g.2.1
  have hN := NF_e g
  have L : ∀ (k fuel j : Nat) (c1 : W0), j + k = NF F → k + 1 ≤ fuel → Fr (fun y => y = e + 2) c c1 → (∀ i r, 0 ≤ i → i < cntB u j → 0 ≤ r → r < F 1 → c1 (e + 2) (r * 5 + i) = csU F u i r) → ∃ c2, f_X0_solveBasis_19 e p u κ fuel (cntB u j) (j : Int) c1 = κ c2 ∧ Fr (fun y => y = e + 2) c c2 ∧ ∀ i r, 0 ≤ i → i < F 1 → 0 ≤ r → r < F 1 → c2 (e + 2) (r * 5 + i) = csU F u i r := by
    intro k
    induction k with
    | zero =>
      intro fuel j c1 hj hf hF hI
      obtain ⟨f, rfl⟩ : ∃ f, fuel = f + 1 := ⟨fuel - 1, by omega⟩
      obtain rfl : j = NF F := by omega
      have ee : c1 e 0 = F 1 := by rw [hF e (by omega)]; exact h0
      have ep : c1 p 0 = F 0 := by rw [hF p (by omega)]; exact hP.1
      rw [f_X0_solveBasis_19_s]
      unfold b_X0_solveBasis_19
      rw [ee, ep, gd_t (by omega), bq_p (by omega)]
      exact ⟨c1, rfl, hF, fun i r a b => hI i r a (by omega)⟩
    | succ k ih =>
      intro fuel j c1 hj hf hF hI
      obtain ⟨f, rfl⟩ : ∃ f, fuel = f + 1 := ⟨fuel - 1, by omega⟩
      have ee : c1 e 0 = F 1 := by rw [hF e (by omega)]; exact h0
      have ep : c1 p 0 = F 0 := by rw [hF p (by omega)]; exact hP.1
      have hb := bt_01 (u := u) (r := (j : Int)) hu (by omega)
      have hr := cntB_r (u := u) j
      rw [f_X0_solveBasis_19_s]
      unfold b_X0_solveBasis_19
      rw [ee, ep, gd_t (by omega), bq_n (by omega), show iandZ (ishrZ u (j : Int)) 1 = bt u (j : Int) from rfl, gd_t (by omega)]
      by_cases h : bt u (j : Int) = 1
      · have hle : cntB u (j + 1) ≤ cntB u (NF F) := cntB_le (by omega)
        have h3 := fun c2 a b => ih f (j + 1) c2 (by omega) (by omega) a b
        rw [cntB_t h] at hle
        rw [bq_p h]
        obtain ⟨c2, e2, hF2, h2, hO2⟩ := sb46 (u := u) (c := c1) hq g (RepP_c hP (hF p (by omega)) (hF (p + 2) (by omega))) ee (fun c1 => f_X0_solveBasis_19 e p u κ f (cntB u j + 1) ((j : Int) + 1) c1) (k0 := cntB u j) (q0 := (j : Int)) ⟨hr.1, by omega⟩ ⟨by omega, by omega⟩
        rw [e2]
        have h4 := h3 c2 (hF.tr hF2) (fun i r a b x y => by
          rw [cntB_t h] at b
          by_cases z : i = cntB u j
          · rw [z, h2 r x y]
            unfold csU
            rw [nmB_at h (by omega)]
          · rw [hO2 r i a (by omega) z]
            exact hI i r a (by omega) x y)
        rw [cntB_t h, show ((j + 1 : Nat) : Int) = (j : Int) + 1 by omega] at h4
        exact h4
      · rw [bq_n h]
        have h4 := ih f (j + 1) c1 (by omega) (by omega) hF (fun i r a b x y => by
          rw [cntB_f h] at b
          exact hI i r a b x y)
        rw [cntB_f h, show ((j + 1 : Nat) : Int) = (j : Int) + 1 by omega] at h4
        exact h4
  exact L (NF F) LF 0 c (by omega) (by rw [LF_g]; omega) Fr.rf (fun i r a b => by
    have b2 : i < 0 := b
    omega)
theorem sb92 (hq : p + 2 < e) (g : GdP F) (hP : RepP p F c) (h0 : c e 0 = F 1) (hI : ∀ i r, 0 ≤ i → i < F 1 → 0 ≤ r → r < F 1 → c (e + 2) (r * 5 + i) = csU F u i r) (κ : W0 → Option (Int × W0)) : ∃ c2, f_X0_solveBasis_92 e p κ LF 0 c = κ c2 ∧ Fr (fun y => y = e + 2) c c2 ∧ ∀ r i, 0 ≤ r → r < F 1 → 0 ≤ i → i ≤ F 1 → c2 (e + 2) (r * 5 + i) = AqE (F 1) (csU F u) (bsR F) i r := by
  have g0 := g.1; have g1 := g.2.1
  have L : ∀ (k fuel : Nat) (l : Int) (c1 : W0), l + k = F 1 → 0 ≤ l → k + 1 ≤ fuel → Fr (fun y => y = e + 2) c c1 → (∀ r i, 0 ≤ r → r < F 1 → 0 ≤ i → i ≤ F 1 → (i < F 1 ∨ r < l) → c1 (e + 2) (r * 5 + i) = AqE (F 1) (csU F u) (bsR F) i r) → ∃ c2, f_X0_solveBasis_92 e p κ fuel l c1 = κ c2 ∧ Fr (fun y => y = e + 2) c c2 ∧ ∀ r i, 0 ≤ r → r < F 1 → 0 ≤ i → i ≤ F 1 → c2 (e + 2) (r * 5 + i) = AqE (F 1) (csU F u) (bsR F) i r := by
    intro k
    induction k with
    | zero =>
      intro fuel l c1 hl hl0 hf hF hI
      obtain ⟨f, rfl⟩ : ∃ f, fuel = f + 1 := ⟨fuel - 1, by omega⟩
      have ee : c1 e 0 = F 1 := by rw [hF e (by omega)]; exact h0
      rw [f_X0_solveBasis_92_s]
      unfold b_X0_solveBasis_92
      rw [ee, gd_t (by omega), bq_p (by omega)]
      exact ⟨c1, rfl, hF, fun r i a b x y => hI r i a b x y (Or.inr (by omega))⟩
    | succ k ih =>
      intro fuel l c1 hl hl0 hf hF hI
      obtain ⟨f, rfl⟩ : ∃ f, fuel = f + 1 := ⟨fuel - 1, by omega⟩
      have ee : c1 e 0 = F 1 := by rw [hF e (by omega)]; exact h0
      have h9 := g.2.2.2.2 l hl0 (by omega)
      have hbd := bd8 (RepP_c hP (hF p (by omega)) (hF (p + 2) (by omega))) g (r := l) ⟨hl0, by omega⟩
      rw [f_X0_solveBasis_92_s]
      unfold b_X0_solveBasis_92
      rw [ee, gd_t (by omega), bq_n (by omega), hbd, cv_s, gd_t (by omega), gd_t (by omega)]
      dsimp only [sto]
      refine ih f (l + 1) _ (by omega) (by omega) (by omega) (hF.tr (Fr.up rfl)) (fun r i a b x y w => ?_)
      rw [upc_s]
      by_cases z : i = F 1 ∧ r = l
      · rw [z.1, z.2, updZ_s, Aq_m, bsR_e ⟨hl0, by omega⟩]
      · rw [updZ_n (by omega)]
        exact hI r i a b x y (by omega)
  exact L (F 1).toNat LF 0 c (by omega) (by omega) (by rw [LF_g]; omega) Fr.rf (fun r i a b x y w => by
    rw [hI i r x (by omega) a b, Aq_lt (by omega)])
theorem sb8 (hq : p + 2 < e) (g : GdP F) (hu : 0 ≤ u ∧ u < 256) (hc : cntB u (NF F) = F 1) (hP : RepP p F c) : ∃ b c', f_X0_solveBasis e p u c = some (b, c') ∧ Fr (ES e) c c' ∧ ((b = 1 ∧ ∃ C s, Elm (F 1) (F 1) (csU F u) C s ∧ EqC e (F 1) (csU F u) (bsR F) C s c') ∨ (b = 0 ∧ Dep (F 1) (csU F u))) := by
  have e1 : c p 1 = F 1 := hP.2.1
  unfold f_X0_solveBasis
  dsimp only [sto]
  rw [e1]
  have hF0 : Fr (ES e) c (upc c e (updZ (c e) 0 (F 1))) := Fr.up (Or.inl rfl)
  have hP0 : RepP p F (upc c e (updZ (c e) 0 (F 1))) := RepP_c hP (upc_n (by omega)) (upc_n (by omega))
  have h00 : upc c e (updZ (c e) 0 (F 1)) e 0 = F 1 := by rw [upc_s, updZ_s]
  generalize upc c e (updZ (c e) 0 (F 1)) = c0 at *
  obtain ⟨c2, e2, hF2, h2⟩ := sb19 (u := u) (c := c0) hq g hu hc hP0 h00 (fun c2 => f_X0_solveBasis_92 e p (fun c3 => cl (f_X0_eliminate e c3) fun v4 c5 => gd (0 ≤ v4 ∧ v4 ≤ 1) <| some (v4, c5)) LF 0 c2)
  rw [e2]
  try dsimp only
  obtain ⟨c3, e3, hF3, h3⟩ := sb92 (u := u) (c := c2) hq g (RepP_c hP0 (hF2 p (by omega)) (hF2 (p + 2) (by omega))) (by rw [hF2 e (by omega)]; exact h00) h2 (fun c3 => cl (f_X0_eliminate e c3) fun v4 c5 => gd (0 ≤ v4 ∧ v4 ≤ 1) <| some (v4, c5))
  rw [e3]
  try dsimp only
  obtain ⟨b, c4, e4, hF4, h40, hb⟩ := elim8 (e := e) (c := c3) (eqU g hc) (by rw [hF3 e (by omega), hF2 e (by omega)]; exact h00) h3
  have hb1 : b = 1 ∨ b = 0 := hb.elim (fun h => Or.inl h.1) (fun h => Or.inr h.1)
  rw [e4, cl_s, gd_t (by omega)]
  exact ⟨b, c4, rfl, ((hF0.tr (hF2.mo (fun y h => Or.inr h))).tr (hF3.mo (fun y h => Or.inr h))).tr hF4, hb⟩
end
section
variable {v p : Nat} {F : Int → Int} {u : Int} {C : Mx} {s : Int → Int} {c : W0}
theorem unk8 (g : GdP F) (hQ : EqC (v + 1) (F 1) (csU F u) (bsR F) C s c) {l : Int} (hl : 0 ≤ l ∧ l < F 1) : f_X0_unknown (v + 1) l c = some (tt C (bsR F) (s l)) := by
  have g1 := g.2.1
  have h := hQ.2.2 l (F 1) hl.1 hl.2 g1.1 (Int.le_refl _)
  rw [Aq_m] at h
  unfold f_X0_unknown
  rw [hQ.1, gd_t (by omega), h]
theorem feas8 (g : GdP F) (hc : cntB u (NF F) = F 1) (hE : Elm (F 1) (F 1) (csU F u) C s) (hQ : EqC (v + 1) (F 1) (csU F u) (bsR F) C s c) : ∃ b, f_X5_isFeasible v c = some b ∧ ((b = 1 ∧ isU F u) ∨ (b = 0 ∧ ¬ isU F u)) := by
  have g0 := g.1; have g1 := g.2.1
  have H := eqU g hc
  rw [isU_i g hc hE]
  have hD := hE.2.1
  have hDb := det_b (Elm_9 hE H.2.2.1 (by omega))
  have L : ∀ (k fuel : Nat) (l : Int), l + k = F 1 → 0 ≤ l → k + 1 ≤ fuel → (∀ j, 0 ≤ j → j < l → 0 ≤ det4 C * tt C (bsR F) (s j)) → ∃ b, f_X5_isFeasible_2 v c (some 1) fuel l = some b ∧ ((b = 1 ∧ ∀ j, 0 ≤ j → j < F 1 → 0 ≤ det4 C * tt C (bsR F) (s j)) ∨ (b = 0 ∧ ¬ ∀ j, 0 ≤ j → j < F 1 → 0 ≤ det4 C * tt C (bsR F) (s j))) := by
    intro k
    induction k with
    | zero =>
      intro fuel l hl h0 hf hI
      obtain ⟨f, rfl⟩ : ∃ f, fuel = f + 1 := ⟨fuel - 1, by omega⟩
      rw [f_X5_isFeasible_2_s]
      unfold b_X5_isFeasible_2
      rw [hQ.1, gd_t (by omega), bq_p (by omega)]
      exact ⟨1, rfl, Or.inl ⟨rfl, fun j a b => hI j a (by omega)⟩⟩
    | succ k ih =>
      intro fuel l hl h0 hf hI
      obtain ⟨f, rfl⟩ : ∃ f, fuel = f + 1 := ⟨fuel - 1, by omega⟩
      have hb := eq_b H hE (by omega) (r := l) (q := F 1) ⟨h0, by omega⟩ ⟨g1.1, by omega⟩
      rw [Aq_m] at hb
      have go : 0 ≤ det4 C * tt C (bsR F) (s l) → ∃ b, f_X5_isFeasible_2 v c (some 1) f (l + 1) = some b ∧ ((b = 1 ∧ ∀ j, 0 ≤ j → j < F 1 → 0 ≤ det4 C * tt C (bsR F) (s j)) ∨ (b = 0 ∧ ¬ ∀ j, 0 ≤ j → j < F 1 → 0 ≤ det4 C * tt C (bsR F) (s j))) := fun z => ih f (l + 1) (by omega) (by omega) (by omega) (fun j a b => by
        by_cases e : j = l
        · rw [e]; exact z
        · exact hI j a (by omega))
      rw [f_X5_isFeasible_2_s]
      unfold b_X5_isFeasible_2
      rw [unk8 g hQ ⟨h0, by omega⟩, hQ.1, hQ.2.1, gd_t (by omega), bq_n (by omega), cv_s, gd_t (by omega)]
      by_cases y : 0 ≤ det4 C
      · rw [bq_p y, gd_t (by omega)]
        by_cases w : 0 ≤ tt C (bsR F) (s l)
        · rw [bq_p w]
          exact go ((sg_p (by omega)).mpr w)
        · rw [bq_n w]
          exact ⟨0, rfl, Or.inr ⟨rfl, fun z => w ((sg_p (by omega)).mp (z l h0 (by omega)))⟩⟩
      · rw [bq_n y, gd_t (by omega)]
        by_cases w : tt C (bsR F) (s l) ≤ 0
        · rw [bq_p w]
          exact go ((sg_n (by omega)).mpr w)
        · rw [bq_n w]
          exact ⟨0, rfl, Or.inr ⟨rfl, fun z => w ((sg_n (by omega)).mp (z l h0 (by omega)))⟩⟩
  unfold f_X5_isFeasible
  exact L (F 1).toNat LF 0 (by omega) (by omega) (by rw [LF_g]; omega) (fun j a b => by omega)
theorem sum8 (g : GdP F) (hu : 0 ≤ u ∧ u < 256) (hc : cntB u (NF F) = F 1) (hP : RepP p F c) (hQ : EqC (v + 1) (F 1) (csU F u) (bsR F) C s c) : f_X5_sumOfProfits v p u c = some (sU F u C s (F 1)) := by
  have g0 := g.1; have g1 := g.2.1
  have hN := NF_e g
  have L : ∀ (k fuel j : Nat), j + k = NF F → k + 1 ≤ fuel → f_X5_sumOfProfits_14 v p u c (fun v1 => some v1) fuel (sU F u C s (cntB u j)) (cntB u j) (j : Int) = some (sU F u C s (F 1)) := by
    intro k
    induction k with
    | zero =>
      intro fuel j hj hf
      obtain ⟨f, rfl⟩ : ∃ f, fuel = f + 1 := ⟨fuel - 1, by omega⟩
      obtain rfl : j = NF F := by omega
      rw [f_X5_sumOfProfits_14_s]
      unfold b_X5_sumOfProfits_14
      rw [hP.1, hP.2.1, gd_t (by omega), bq_p (by omega), hc]
    | succ k ih =>
      intro fuel j hj hf
      obtain ⟨f, rfl⟩ : ∃ f, fuel = f + 1 := ⟨fuel - 1, by omega⟩
      have hb := bt_01 (u := u) (r := (j : Int)) hu (by omega)
      have hr := cntB_r (u := u) j
      have h4 := ih f (j + 1) (by omega) (by omega)
      rw [show ((j + 1 : Nat) : Int) = (j : Int) + 1 by omega] at h4
      rw [f_X5_sumOfProfits_14_s]
      unfold b_X5_sumOfProfits_14
      rw [hP.1, hP.2.1, gd_t (by omega), bq_n (by omega), show iandZ (ishrZ u (j : Int)) 1 = bt u (j : Int) from rfl, gd_t (by omega)]
      by_cases h : bt u (j : Int) = 1
      · have hle : cntB u (j + 1) ≤ cntB u (NF F) := cntB_le (by omega)
        rw [cntB_t h] at hle
        have hcp := cp8 hP g (j := (j : Int)) ⟨by omega, by omega⟩
        have h9 := cF_9 g (q := (j : Int)) (by omega)
        rw [bq_p h, hcp, cv_s, gd_t (by omega), unk8 g hQ ⟨hr.1, by omega⟩, cv_s]
        rw [cntB_t h, sU_s ⟨hr.1, by omega⟩, nmB_at h (by omega)] at h4
        exact h4
      · rw [bq_n h]
        rw [cntB_f h] at h4
        exact h4
  unfold f_X5_sumOfProfits
  have h := L (NF F) LF 0 (by omega) (by rw [LF_g]; omega)
  rw [show cntB u 0 = 0 from rfl, sU_0] at h
  exact h
end
def SQ (v q : Nat) : Prop := q = v ∨ q = v + 1 ∨ q = v + 3 ∨ q = v + 5
theorem Rp8_n {v : Nat} {n n' : Int} {S : Sv} {c : W0} (h : Rp8 v n S c) (hn : n = n') : Rp8 v n' S c := hn ▸ h
theorem Rp8_f {v : Nat} {n : Int} {S : Sv} {c c' : W0} (h : Rp8 v n S c) (e0 : c' v = c v) (e5 : c' (v + 5) = c (v + 5)) : Rp8 v n S c' := by
  unfold Rp8
  rw [e0, e5]
  exact h
theorem look8 {v p : Nat} {F : Int → Int} {c : W0} (hq : p + 2 < v) (g : GdP F) (hP : RepP p F c) : ∃ c', f_X5_look v p c = some (0, c') ∧ Fr (SQ v) c c' ∧ Rp8 v (svS F (2 ^ NF F)).1 (svS F (2 ^ NF F)) c' := by
  have g0 := g.1; have g1 := g.2.1
  have hN := NF_e g
  have h256 : 2 ^ NF F ≤ 256 := tw_d ⟨NF F, by omega⟩
  have hsh : ishlZ 1 ((NF F : Nat) : Int) = ((2 ^ NF F : Nat) : Int) := sh_d ⟨NF F, by omega⟩
  generalize hM : 2 ^ NF F = M at *
  have hPc : ∀ c1, Fr (SQ v) c c1 → RepP p F c1 := fun c1 h => RepP_c hP (h _ (by unfold SQ; omega)) (h _ (by unfold SQ; omega))
  have L : ∀ (k fuel j : Nat) (c1 : W0), j + k = M → k + 1 ≤ fuel → Fr (SQ v) c c1 → Rp8 v (svS F j).1 (svS F j) c1 → ∃ c', f_X5_look_34 v p (M : Int) (fun c3 => some (0, c3)) fuel (j : Int) c1 = some (0, c') ∧ Fr (SQ v) c c' ∧ Rp8 v (svS F M).1 (svS F M) c' := by
    intro k
    induction k with
    | zero =>
      intro fuel j c1 hj hf hF hR
      obtain ⟨f, rfl⟩ : ∃ f, fuel = f + 1 := ⟨fuel - 1, by omega⟩
      rw [f_X5_look_34_s]
      unfold b_X5_look_34
      rw [gd_t (by omega), bq_p (by omega)]
      rw [show j = M by omega] at hR
      exact ⟨c1, rfl, hF, hR⟩
    | succ k ih =>
      intro fuel j c1 hj hf hF hR
      obtain ⟨f, rfl⟩ : ∃ f, fuel = f + 1 := ⟨fuel - 1, by omega⟩
      have hP1 := hPc c1 hF
      have hbc : f_J6_bitCount_0f7a4 (j : Int) = some (cntB (j : Int) 8) := bc_d ⟨j, by omega⟩
      have hct : cntB (j : Int) 8 = cntB (j : Int) (NF F) := ct_d ⟨j, by omega⟩ ⟨NF F, by omega⟩ (by show j < 2 ^ NF F; omega)
      have hr := cntB_r (u := (j : Int)) (NF F)
      have skip : ∀ c2, ¬ isU F j → Fr (SQ v) c1 c2 → c2 v = c1 v → c2 (v + 5) = c1 (v + 5) → ∃ c', f_X5_look_34 v p (M : Int) (fun c3 => some (0, c3)) f ((j : Int) + 1) c2 = some (0, c') ∧ Fr (SQ v) c c' ∧ Rp8 v (svS F M).1 (svS F M) c' := fun c2 hn hF2 e0 e5 => by
        have h4 := ih f (j + 1) c2 (by omega) (by omega) (hF.tr hF2) (by rw [svS_f hn]; exact Rp8_f hR e0 e5)
        rw [show ((j + 1 : Nat) : Int) = (j : Int) + 1 by omega] at h4
        exact h4
      rw [f_X5_look_34_s]
      unfold b_X5_look_34
      rw [gd_t (by omega), bq_n (by omega), hbc, cv_s, hct, hP1.2.1, gd_t (by omega)]
      by_cases h : cntB (j : Int) (NF F) = F 1
      · rw [bq_p h]
        obtain ⟨b, c2, e2, hF2, hb⟩ := sb8 (e := v + 1) (p := p) (u := (j : Int)) (c := c1) (by omega) g ⟨by omega, by omega⟩ h hP1
        have hF3 : Fr (SQ v) c1 c2 := hF2.mo (fun y h => by unfold ES at h; unfold SQ; omega)
        have ev : c2 v = c1 v := hF2 v (by unfold ES; omega)
        have ev5 : c2 (v + 5) = c1 (v + 5) := hF2 _ (by unfold ES; omega)
        rw [e2, cl_s]
        rcases hb with ⟨rfl, C, s, hE, hQ⟩ | ⟨rfl, hd⟩
        · have H := eqU g h
          obtain ⟨b, e3, hb⟩ := feas8 (v := v) g h hE hQ
          have hb1 : b = 1 ∨ b = 0 := hb.elim (fun h => Or.inl h.1) (fun h => Or.inr h.1)
          rw [gd_t (by omega), bq_n (by omega), e3, cv_s, gd_t (by omega)]
          rcases hb with ⟨rfl, hi⟩ | ⟨rfl, hi⟩
          · have hi2 := hi
            have hS := svS_g g j
            have hn1 := svS_n g j (by omega)
            have hn2 := chN_b (m := F 1) g1 (u := j) (by omega) (hct.trans h)
            have hn3 := hS.2.1
            rw [bq_n (by omega)]
            dsimp only [sto]
            have hQ5 : EqC (v + 1) (F 1) (csU F j) (bsR F) C s (upc c2 v (updZ (c2 v) 2 (c2 v 2 + 1))) := by
              unfold EqC
              rw [upc_n (show v + 1 ≠ v by omega), upc_n (show v + 1 + 2 ≠ v by omega)]
              exact hQ
            have hF5 : Fr (SQ v) c1 (upc c2 v (updZ (c2 v) 2 (c2 v 2 + 1))) := hF3.tr (Fr.up (Or.inl rfl))
            have hR5 : Rp8 v ((svS F j).1 + 1) (svS F j) (upc c2 v (updZ (c2 v) 2 (c2 v 2 + 1))) := by
              unfold Rp8
              rw [upc_s, upc_n (show v + 5 ≠ v by omega), updZ_s, updZ_n (by decide), updZ_n (by decide), updZ_n (by decide), ev, ev5, hR.1]
              exact ⟨rfl, hR.2⟩
            generalize upc c2 v (updZ (c2 v) 2 (c2 v 2 + 1)) = c5 at *
            have hsum := sum8 (v := v) (p := p) (u := (j : Int)) g ⟨by omega, by omega⟩ h (hPc c5 (hF.tr hF5)) hQ5
            have hsb := sU_b g h hE (l := F 1) (Int.le_refl _)
            have hdb := det_b (Elm_9 hE H.2.2.1 (by omega))
            obtain ⟨c6, e6, hF6, hR6⟩ := noteValue8 (N := sU F j C s (F 1)) (D := det4 C) hR5 hS (by omega) hsb hdb hE.2.1
            rw [hsum, cv_s, hQ5.2.1, e6, cl_s]
            rw [← vU_e g hE, ← svS_t hi] at hR6
            have h4 := ih f (j + 1) c6 (by omega) (by omega) ((hF.tr hF5).tr (hF6.mo (fun y h => by unfold SQ; omega))) (Rp8_n hR6 (by rw [svS_t hi, svA_1]))
            rw [show ((j + 1 : Nat) : Int) = (j : Int) + 1 by omega] at h4
            exact h4
          · rw [bq_p rfl]
            exact skip c2 hi hF3 ev ev5
        · rw [gd_t (by omega), bq_p rfl]
          exact skip c2 (isU_d g hd) hF3 ev ev5
      · rw [bq_n h]
        exact skip c1 (fun z => h z.1) Fr.rf rfl rfl
  have e0 : c p 0 = F 0 := hP.1
  have e1 : c p 1 = F 1 := hP.2.1
  unfold f_X5_look
  dsimp only [sto]
  rw [upc_s, upc_n (show p ≠ v by omega), upc_n (show p ≠ v by omega), e0, e1, gd_t (by omega), show (if F 0 + F 1 < 8 then F 0 + F 1 else 8) = ((NF F : Nat) : Int) by split <;> omega, hsh]
  exact L M LF 0 _ (by omega) (by rw [LF_g]; omega) ((Fr.up (Or.inl rfl)).tr (Fr.up (Or.inl rfl))) ⟨Eq.trans (b := 0) (by rw [upc_s, updZ_n (by decide), updZ_s]) rfl, Eq.trans (b := 0) (by rw [upc_s, updZ_s]) rfl, fun k a b => by
    have b2 : k < 0 := b
    omega, fun b => by
    have b2 : (0 : Int) < 0 := b
    omega⟩
section
variable {d : Nat} {z : St} {K : Int}
theorem CI_s {c c' : W0} (hC : CI d z c) (h : Fr (SQ (d + 45)) c c') : FrD d c c' ∧ CI d z c' := ⟨fun q a => h q (by unfold SQ; omega), CI_f2 hC (fun q a b x => h q (by unfold SQ; omega))⟩
theorem c8_survey (hL : LI K z) : ClI d z (f_X8_feasibleBases d) (svS z.1 (2 ^ NF z.1)).1 z ∧ ClI d z (f_X8_unlikeValues d) (svS z.1 (2 ^ NF z.1)).2.1 z ∧ ClI d z (f_X8_bestNumerator d) (svS z.1 (2 ^ NF z.1)).2.2.2.2.1 z ∧ ClI d z (f_X8_bestDenominator d) (svS z.1 (2 ^ NF z.1)).2.2.2.2.2 z := by
  have h1 := svS_1 hL.1.1
  refine ⟨fun c hC => ?_, fun c hC => ?_, fun c hC => ?_, fun c hC => ?_⟩
  · obtain ⟨c1, e1, hF, hR⟩ := look8 (v := d + 45) (p := d + 2) (by omega) hL.1.1 hC.1.1
    unfold f_X8_feasibleBases
    rw [e1, cl_s, hR.1]
    exact ⟨c1, rfl, CI_s hC hF⟩
  · obtain ⟨c1, e1, hF, hR⟩ := look8 (v := d + 45) (p := d + 2) (by omega) hL.1.1 hC.1.1
    unfold f_X8_unlikeValues
    rw [e1, cl_s, hR.2.1]
    exact ⟨c1, rfl, CI_s hC hF⟩
  · obtain ⟨c1, e1, hF, hR⟩ := look8 (v := d + 45) (p := d + 2) (by omega) hL.1.1 hC.1.1
    unfold f_X8_bestNumerator
    rw [e1, cl_s, (hR.2.2.2 (by omega)).1]
    exact ⟨c1, rfl, CI_s hC hF⟩
  · obtain ⟨c1, e1, hF, hR⟩ := look8 (v := d + 45) (p := d + 2) (by omega) hL.1.1 hC.1.1
    unfold f_X8_bestDenominator
    rw [e1, cl_s, (hR.2.2.2 (by omega)).2]
    exact ⟨c1, rfl, CI_s hC hF⟩
end
end SC
