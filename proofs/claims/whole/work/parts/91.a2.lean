section TC
/-! the class reads -/
def TX (th : Nat) (len : Int) (B : Int → Int) (s : Int) (c : W0) : Prop := c th 2 = s ∧ c (th + 1) 0 = len ∧ ∀ k, 0 ≤ k → k < len → c (th + 1 + 2) k = B k
section
variable {th : Nat} {len p lo hi s : Int} {B : Int → Int} {c : W0}
theorem TX_f {c' : W0} (h : TX th len B s c) (e : c' th = c th) (e1 : c' (th + 1) = c (th + 1)) (e3 : c' (th + 1 + 2) = c (th + 1 + 2)) : TX th len B s c' := by
  unfold TX
  rw [e, e1, e3]
  exact h
theorem TX_up (h : TX th len B s c) {s' : Int} : TX th len B s' (upc c th (updZ (c th) 2 s')) := ⟨by rw [upc_s, updZ_s], by rw [upc_n (by omega)]; exact h.2.1, by rw [upc_n (by omega)]; exact h.2.2⟩
theorem code8 (h : TX th len B s c) (hT : Tx len B) (hs : 0 ≤ s ∧ s < len) : f_X7_codeAt (th + 1) s c = some (B s) := by
  have := hT.1
  unfold f_X7_codeAt
  rw [gd_t (by omega), h.2.2 s hs.1 hs.2]
theorem take8 (h : TX th len B s c) (hT : Tx len B) (hs : 0 ≤ s ∧ s ≤ len) (hp : R32 p) : ∃ b c', f_X3_take th p c = some (b, c') ∧ Fr (fun q => q = th) c c' ∧ ((b = 1 ∧ nxT len B p p (s, 0) ∧ TX th len B (s + 1) c') ∨ (b = 0 ∧ ¬ nxT len B p p (s, 0) ∧ TX th len B s c')) := by
  have h1 := hT.1
  unfold f_X3_take
  rw [h.1, h.2.1, gd_t (by omega)]
  by_cases y : len ≤ s
  · rw [bq_p y]
    exact ⟨0, c, rfl, Fr.rf, Or.inr ⟨rfl, fun z => by
      have : s < len := z.2.1
      omega, h⟩⟩
  · have h2 := hT.2 s hs.1 (by omega)
    rw [bq_n y, code8 h hT ⟨hs.1, by omega⟩, cv_s, gd_t ⟨by omega, hp⟩]
    by_cases w : B s = p
    · rw [bq_p w]
      exact ⟨1, _, rfl, Fr.up rfl, Or.inl ⟨rfl, ⟨rfl, by show s < len; omega, by show p ≤ B s; omega, by show B s ≤ p; omega⟩, TX_up h⟩⟩
    · rw [bq_n w]
      exact ⟨0, c, rfl, Fr.rf, Or.inr ⟨rfl, fun z => by
        have z1 : p ≤ B s := z.2.2.1
        have z2 : B s ≤ p := z.2.2.2
        omega, h⟩⟩
theorem nextD8 (h : TX th len B s c) (hT : Tx len B) (hs : 0 ≤ s ∧ s ≤ len) (hl : R32 lo) (hh : R32 hi) : ∃ b, f_X3_nextIsDigit th lo hi c = some b ∧ ((b = 1 ∧ nxT len B lo hi (s, 0)) ∨ (b = 0 ∧ ¬ nxT len B lo hi (s, 0))) := by
  have h1 := hT.1
  unfold f_X3_nextIsDigit
  rw [h.1, h.2.1, gd_t (by omega)]
  by_cases y : len ≤ s
  · rw [bq_p y]
    exact ⟨0, rfl, Or.inr ⟨rfl, fun z => by
      have : s < len := z.2.1
      omega⟩⟩
  · have h2 := hT.2 s hs.1 (by omega)
    rw [bq_n y, code8 h hT ⟨hs.1, by omega⟩, cv_s, gd_t ⟨by omega, hl⟩]
    by_cases w : B s < lo
    · rw [bq_p w]
      exact ⟨0, rfl, Or.inr ⟨rfl, fun z => by
        have z1 : lo ≤ B s := z.2.2.1
        omega⟩⟩
    · rw [bq_n w, cv_s, gd_t ⟨by omega, hh⟩]
      by_cases v : hi < B s
      · rw [bq_p v]
        exact ⟨0, rfl, Or.inr ⟨rfl, fun z => by
          have z1 : B s ≤ hi := z.2.2.2
          omega⟩⟩
      · rw [bq_n v]
        exact ⟨1, rfl, Or.inl ⟨rfl, rfl, by show s < len; omega, by show lo ≤ B s; omega, by show B s ≤ hi; omega⟩⟩
theorem digit8 (h : TX th len B s c) (hT : Tx len B) (hs : 0 ≤ s ∧ s < len) : f_X3_takeDigit th c = some (B s - 48, upc c th (updZ (c th) 2 (s + 1))) := by
  unfold f_X3_takeDigit
  rw [h.1, code8 h hT hs, cv_s]
  dsimp only [sto]
/-- a factor -/
theorem fac8 (h : TX th len B s c) (hT : Tx len B) (hs : 0 ≤ s ∧ s ≤ len) (κ2 : Int → W0 → Option (Int × W0)) : ∃ c', ((cl (f_X3_take th 45 c) fun v3 c4 =>
        gd (R32 v3) <|
        jn (fun (v6 : Int) =>
            gd (R32 v6) <|
            jn (fun (v8 : Int) =>
                cv (f_X3_nextIsDigit th v8 57 c4) fun v9 =>
                gd (R32 v9) <|
                bq (v9 = 0) (
                  some (0, c4)) (
                  cl (f_X3_takeDigit th c4) fun v10 c11 =>
                  gd (R32 (v6 * v10)) <|
                  κ2 (v6 * v10) c11)) fun k7 =>
            bq (0 ≤ v6) (
              k7 48) (
              k7 49)) fun k5 =>
        bq (v3 = 0) (
          k5 1) (
          k5 (-1))) = κ2 (fcT len B (s, 0)).1 c' ∧ (fcT len B (s, 0)).2.2 = 0 ∨ (cl (f_X3_take th 45 c) fun v3 c4 =>
        gd (R32 v3) <|
        jn (fun (v6 : Int) =>
            gd (R32 v6) <|
            jn (fun (v8 : Int) =>
                cv (f_X3_nextIsDigit th v8 57 c4) fun v9 =>
                gd (R32 v9) <|
                bq (v9 = 0) (
                  some (0, c4)) (
                  cl (f_X3_takeDigit th c4) fun v10 c11 =>
                  gd (R32 (v6 * v10)) <|
                  κ2 (v6 * v10) c11)) fun k7 =>
            bq (0 ≤ v6) (
              k7 48) (
              k7 49)) fun k5 =>
        bq (v3 = 0) (
          k5 1) (
          k5 (-1))) = some (0, c') ∧ (fcT len B (s, 0)).2.2 = 1) ∧ Fr (fun q => q = th) c c' ∧ TX th len B (fcT len B (s, 0)).2.1 c' := by
  have h1 := hT.1
  dsimp only [jn]
  obtain ⟨b, c4, e4, hF4, hb⟩ := take8 (p := 45) h hT hs (by omega)
  rw [e4, cl_s]
  rcases hb with ⟨rfl, n, h4⟩ | ⟨rfl, n, h4⟩
  · have n1 : s < len := n.2.1
    obtain ⟨b, e5, hb⟩ := nextD8 (lo := 49) (hi := 57) h4 hT ⟨by omega, by omega⟩ (by omega) (by omega)
    rw [gd_t (by omega), bq_n (by omega), gd_t (by omega), bq_n (by omega), e5, cv_s, fcT_p n]
    rcases hb with ⟨rfl, n2⟩ | ⟨rfl, n2⟩
    · have n3 : s + 1 < len := n2.2.1
      have h2 := hT.2 (s + 1) (by omega) n3
      have n4 : 49 ≤ B (s + 1) := n2.2.2.1
      have n5 : B (s + 1) ≤ 57 := n2.2.2.2
      rw [gd_t (by omega), bq_n (by omega), digit8 h4 hT ⟨by omega, n3⟩, cl_s, gd_t (by omega)]
      refine ⟨upc c4 th (updZ (c4 th) 2 (s + 1 + 1)), Or.inl ⟨?_, ?_⟩, hF4.tr (Fr.up rfl), ?_⟩
      · show κ2 (-1 * (B (s + 1) - 48)) _ = κ2 (-(tkT len B 49 57 (s + 1, 0)).1) _
        rw [tkT_t n2, Int.neg_one_mul]
      · show (tkT len B 49 57 (s + 1, 0)).2.2 = 0
        rw [tkT_t n2]
      · show TX th len B (tkT len B 49 57 (s + 1, 0)).2.1 _
        rw [tkT_t n2]
        exact TX_up h4
    · rw [gd_t (by omega), bq_p rfl]
      refine ⟨c4, Or.inr ⟨rfl, ?_⟩, hF4, ?_⟩
      · show (tkT len B 49 57 (s + 1, 0)).2.2 = 1
        rw [tkT_f n2]
      · show TX th len B (tkT len B 49 57 (s + 1, 0)).2.1 _
        rw [tkT_f n2]
        exact h4
  · obtain ⟨b, e5, hb⟩ := nextD8 (lo := 48) (hi := 57) h4 hT hs (by omega) (by omega)
    rw [gd_t (by omega), bq_p rfl, gd_t (by omega), bq_p (by omega), e5, cv_s, fcT_n n]
    rcases hb with ⟨rfl, n2⟩ | ⟨rfl, n2⟩
    · have n3 : s < len := n2.2.1
      have h2 := hT.2 s (by omega) n3
      have n4 : 48 ≤ B s := n2.2.2.1
      have n5 : B s ≤ 57 := n2.2.2.2
      rw [gd_t (by omega), bq_n (by omega), digit8 h4 hT ⟨by omega, n3⟩, cl_s, gd_t (by omega), tkT_t n2]
      refine ⟨upc c4 th (updZ (c4 th) 2 (s + 1)), Or.inl ⟨?_, rfl⟩, hF4.tr (Fr.up rfl), TX_up h4⟩
      show κ2 (1 * (B s - 48)) _ = κ2 (B s - 48) _
      rw [Int.one_mul]
    · rw [gd_t (by omega), bq_p rfl, tkT_f n2]
      exact ⟨c4, Or.inr ⟨rfl, rfl⟩, hF4, h4⟩
/-- a row of factors -/
theorem facs8 {row place n : Int} (hT : Tx len B) (hrow : 0 ≤ row ∧ row ≤ 4) (hn : n ≤ 4) : ∀ (k fuel : Nat) (l s : Int) (rd : Int → Int) (c : W0), l + k = n → 0 ≤ l → k + 1 ≤ fuel → (0 ≤ s ∧ s ≤ len) → TX th len B s c → c (th + 4) 0 = n → ∃ b c', f_X3_takeFactors_2 th row (fun c1 => some (1, c1)) fuel l c = some (b, c') ∧ Fr (fun q => q = th ∨ q = th + 6) c c' ∧ ((b = 1 ∧ (fsT len B place k l ((s, 0), rd)).1.2 = 0 ∧ ∀ v, l ≤ v → v < n → c' (th + 6) (row * 5 + v) = (fsT len B place k l ((s, 0), rd)).2 (place + v)) ∨ (b = 0 ∧ (fsT len B place k l ((s, 0), rd)).1.2 = 1)) ∧ TX th len B (fsT len B place k l ((s, 0), rd)).1.1 c' ∧ ∀ y, (y < row * 5 + l ∨ row * 5 + n ≤ y) → c' (th + 6) y = c (th + 6) y := by
  intro k
  induction k with
  | zero =>
    intro fuel l s rd c hl h0 hf hs h h4
    obtain ⟨f, rfl⟩ : ∃ f, fuel = f + 1 := ⟨fuel - 1, by omega⟩
    rw [f_X3_takeFactors_2_s]
    unfold b_X3_takeFactors_2
    rw [h4, gd_t (by omega), bq_p (by omega)]
    exact ⟨1, c, rfl, Fr.rf, Or.inl ⟨rfl, rfl, fun v a b => by omega⟩, h, fun _ _ => rfl⟩
  | succ k ih =>
    intro fuel l s rd c hl h0 hf hs h h4
    obtain ⟨f, rfl⟩ : ∃ f, fuel = f + 1 := ⟨fuel - 1, by omega⟩
    have h1 := hT.1
    have body : ∀ (s2 : Int) (c2 : W0), cmT len B l (s, 0) = (s2, 0) → (0 ≤ s2 ∧ s2 ≤ len) → Fr (fun q => q = th) c c2 → TX th len B s2 c2 → ∃ b c', (cl (f_X3_take th 45 c2) fun v3 c4 =>
        gd (R32 v3) <|
        jn (fun (v6 : Int) =>
            gd (R32 v6) <|
            jn (fun (v8 : Int) =>
                cv (f_X3_nextIsDigit th v8 57 c4) fun v9 =>
                gd (R32 v9) <|
                bq (v9 = 0) (
                  some (0, c4)) (
                  cl (f_X3_takeDigit th c4) fun v10 c11 =>
                  gd (R32 (v6 * v10)) <|
                  gd ((0 ≤ row ∧ row < 5) ∧ (0 ≤ l ∧ l < 5)) <|
                  sto c11 (th + 6) (row * 5 + l) (v6 * v10) fun c12 =>
                  f_X3_takeFactors_2 th row (fun c1 => some (1, c1)) f (l + 1) c12)) fun k7 =>
            bq (0 ≤ v6) (
              k7 48) (
              k7 49)) fun k5 =>
        bq (v3 = 0) (
          k5 1) (
          k5 (-1))) = some (b, c') ∧ Fr (fun q => q = th ∨ q = th + 6) c c' ∧ ((b = 1 ∧ (fsT len B place (k + 1) l ((s, 0), rd)).1.2 = 0 ∧ ∀ v, l ≤ v → v < n → c' (th + 6) (row * 5 + v) = (fsT len B place (k + 1) l ((s, 0), rd)).2 (place + v)) ∨ (b = 0 ∧ (fsT len B place (k + 1) l ((s, 0), rd)).1.2 = 1)) ∧ TX th len B (fsT len B place (k + 1) l ((s, 0), rd)).1.1 c' ∧ ∀ y, (y < row * 5 + l ∨ row * 5 + n ≤ y) → c' (th + 6) y = c (th + 6) y := by
      intro s2 c2 hc hs2 hF2 h2
      have e6 : c2 (th + 6) = c (th + 6) := hF2 _ (by omega)
      have eS : fsT len B place (k + 1) l ((s, 0), rd) = fsT len B place k (l + 1) ((fcT len B (s2, 0)).2, updZ rd (place + l) (fcT len B (s2, 0)).1) := by
        rw [fsT_s]
        dsimp only
        rw [hc]
      rw [eS]
      have hok := fcT_ok (len := len) (B := B) (x := (s2, 0)) ⟨hs2, Or.inl rfl⟩
      obtain ⟨c3, h3, hF3, hX3⟩ := fac8 (th := th) (s := s2) (c := c2) h2 hT hs2 (fun v c11 => gd ((0 ≤ row ∧ row < 5) ∧ (0 ≤ l ∧ l < 5)) <| sto c11 (th + 6) (row * 5 + l) v fun c12 => f_X3_takeFactors_2 th row (fun c1 => some (1, c1)) f (l + 1) c12)
      have e63 : c3 (th + 6) = c (th + 6) := (hF3 _ (by omega)).trans e6
      rcases h3 with ⟨h3, w⟩ | ⟨h3, w⟩
      · have ex : (fcT len B (s2, 0)).2 = ((fcT len B (s2, 0)).2.1, 0) := Prod.ext rfl w
        rw [ex]
        obtain ⟨b, c4, e4, hF4, hb, hX4, hO4⟩ := ih f (l + 1) (fcT len B (s2, 0)).2.1 (updZ rd (place + l) (fcT len B (s2, 0)).1) (upc c3 (th + 6) (updZ (c3 (th + 6)) (row * 5 + l) (fcT len B (s2, 0)).1)) (by omega) (by omega) (by omega) hok.1 (TX_f hX3 (upc_n (by omega)) (upc_n (by omega)) (upc_n (by omega))) (by rw [upc_n (by omega), hF3 _ (by omega), hF2 _ (by omega)]; exact h4)
        refine ⟨b, c4, ?_, ((hF2.mo (fun q z => Or.inl z)).tr (hF3.mo (fun q z => Or.inl z))).tr ((Fr.up (Or.inr rfl)).tr hF4), ?_, hX4, fun y hy => ?_⟩
        · refine h3.trans ?_
          try dsimp only
          rw [gd_t (by omega)]
          exact e4
        · rcases hb with ⟨b1, b2, b3⟩ | hb
          · refine Or.inl ⟨b1, b2, fun v a b => ?_⟩
            by_cases e : v = l
            · rw [e, hO4 _ (by omega), upc_s, updZ_s, fsT_o k (l + 1) _ _ (by omega)]
              exact updZ_s.symm
            · exact b3 v (by omega) b
          · exact Or.inr hb
        · rw [hO4 y (by omega), upc_s, updZ_n (by omega), e63]
      · have ex : (fcT len B (s2, 0)).2 = ((fcT len B (s2, 0)).2.1, 1) := Prod.ext rfl w
        rw [ex, fsT_d]
        exact ⟨0, c3, h3, (hF2.mo (fun q z => Or.inl z)).tr (hF3.mo (fun q z => Or.inl z)), Or.inr ⟨rfl, rfl⟩, hX3, fun y _ => by rw [e63]⟩
    rw [f_X3_takeFactors_2_s]
    unfold b_X3_takeFactors_2
    rw [h4, gd_t (by omega), bq_n (by omega), gd_t (by omega), jn_e]
    by_cases y : l ≤ 0
    · rw [bq_p y]
      exact body s c (cmT_p y) hs Fr.rf h
    · obtain ⟨b, c2, e2, hF2, hb⟩ := take8 (p := 44) h hT hs (by omega)
      rw [bq_n y, e2, cl_s]
      rcases hb with ⟨rfl, n, h2⟩ | ⟨rfl, n, h2⟩
      · have n1 : s < len := n.2.1
        rw [gd_t (by omega), bq_n (by omega)]
        exact body (s + 1) c2 (by rw [cmT_n y, tkT_t n]) ⟨by omega, by omega⟩ hF2 h2
      · have eS : fsT len B place (k + 1) l ((s, 0), rd) = fsT len B place k (l + 1) ((s, 1), updZ rd (place + l) 0) := by
          rw [fsT_s]
          dsimp only
          rw [cmT_n y, tkT_f n]
          dsimp only
          rw [fcT_d]
        rw [gd_t (by omega), bq_p rfl, eS, fsT_d]
        exact ⟨0, c2, rfl, hF2.mo (fun q z => Or.inl z), Or.inr ⟨rfl, rfl⟩, h2, fun y _ => by rw [hF2 _ (by omega)]⟩
theorem bnd8 {row : Int} (h : TX th len B s c) (hT : Tx len B) (hs : 0 ≤ s ∧ s ≤ len) (hrow : 0 ≤ row ∧ row < 4) : ∃ b c', f_X3_takeBound th row c = some (b, c') ∧ Fr (fun q => q = th ∨ q = th + 6) c c' ∧ ((b = 1 ∧ (bnT len B (s, 0)).2.2 = 0 ∧ c' (th + 6) = updZ (c (th + 6)) (row * 5 + 4) (bnT len B (s, 0)).1) ∨ (b = 0 ∧ (bnT len B (s, 0)).2.2 = 1)) ∧ TX th len B (bnT len B (s, 0)).2.1 c' := by
  have h1 := hT.1
  have put : ∀ (v : Int) (c6 : W0) (s6 : Int), Fr (fun q => q = th) c c6 → TX th len B s6 c6 → R32 v → ∃ c', (cl (f_X2_putBound (th + 4) row v c6) fun _ c7 => some ((1 : Int), c7)) = some ((1 : Int), c') ∧ Fr (fun q => q = th ∨ q = th + 6) c c' ∧ c' (th + 6) = updZ (c (th + 6)) (row * 5 + 4) v ∧ TX th len B s6 c' := fun v c6 s6 hF h6 hv => by
    unfold f_X2_putBound
    rw [gd_t ⟨hrow, hv⟩, cl_s]
    refine ⟨_, rfl, (hF.mo (fun q z => Or.inl z)).tr (Fr.up (Or.inr rfl)), ?_, TX_f h6 (upc_n (by omega)) (upc_n (by omega)) (upc_n (by omega))⟩
    show upc c6 (th + 6) (updZ (c6 (th + 6)) (row * 5 + 4) v) (th + 6) = _
    rw [upc_s, hF _ (by omega)]
  obtain ⟨b, e1, hb⟩ := nextD8 (lo := 48) (hi := 57) h hT hs (by omega) (by omega)
  unfold f_X3_takeBound
  rw [e1, cv_s]
  rcases hb with ⟨rfl, n⟩ | ⟨rfl, n⟩
  · have n1 : s < len := n.2.1
    have n2 : 48 ≤ B s := n.2.2.1
    have n3 : B s ≤ 57 := n.2.2.2
    have e9 := tkT_t n
    rw [gd_t (by omega), bq_n (by omega), digit8 h hT ⟨hs.1, n1⟩, cl_s, gd_t (by omega), jn_e]
    by_cases y : B s - 48 ≤ 0
    · have eb : bnT len B (s, 0) = (B s - 48, s + 1, 0) := by
        rw [bnT_n (fun z => by
          have z1 := z.1
          rw [e9] at z1
          have z2 : 0 < B s - 48 := z1
          omega), e9]
      rw [bq_p y, eb]
      obtain ⟨c', e', hF', h6', hX'⟩ := put (B s - 48) _ (s + 1) (Fr.up (F := updZ (c th) 2 (s + 1)) rfl) (TX_up h) (by omega)
      exact ⟨1, c', e', hF', Or.inl ⟨rfl, rfl, h6'⟩, hX'⟩
    · obtain ⟨b, e2, hb⟩ := nextD8 (lo := 48) (hi := 57) (TX_up h (s' := s + 1)) hT ⟨by omega, by omega⟩ (by omega) (by omega)
      rw [bq_n y, e2, cv_s]
      rcases hb with ⟨rfl, m⟩ | ⟨rfl, m⟩
      · have m1 : s + 1 < len := m.2.1
        have m2 : 48 ≤ B (s + 1) := m.2.2.1
        have m3 : B (s + 1) ≤ 57 := m.2.2.2
        have e8 := tkT_t m
        have eb : bnT len B (s, 0) = (10 * (B s - 48) + (B (s + 1) - 48), s + 1 + 1, 0) := by
          rw [bnT_p (by rw [e9]; show 0 < B s - 48; omega) (by rw [e9]; exact m), e9]
          show (10 * (B s - 48) + (tkT len B 48 57 (s + 1, 0)).1, (tkT len B 48 57 (s + 1, 0)).2) = _
          rw [e8]
        rw [gd_t (by omega), bq_n (by omega), digit8 (TX_up h) hT ⟨by omega, m1⟩, cl_s, eb]
        obtain ⟨c', e', hF', h6', hX'⟩ := put (10 * (B s - 48) + (B (s + 1) - 48)) _ (s + 1 + 1) (Fr.tr (S := fun q => q = th) (Fr.up (F := updZ (c th) 2 (s + 1)) rfl) (Fr.up rfl)) (TX_up (TX_up h)) (by omega)
        exact ⟨1, c', e', hF', Or.inl ⟨rfl, rfl, h6'⟩, hX'⟩
      · have eb : bnT len B (s, 0) = (B s - 48, s + 1, 0) := by
          rw [bnT_n (fun z => by
            have z1 := z.2
            rw [e9] at z1
            exact m z1), e9]
        rw [gd_t (by omega), bq_p rfl, eb]
        obtain ⟨c', e', hF', h6', hX'⟩ := put (B s - 48) _ (s + 1) (Fr.up (F := updZ (c th) 2 (s + 1)) rfl) (TX_up h) (by omega)
        exact ⟨1, c', e', hF', Or.inl ⟨rfl, rfl, h6'⟩, hX'⟩
  · have e9 := tkT_f n
    have eb : bnT len B (s, 0) = (0, s, 1) := by
      rw [bnT_n (fun z => by
        have z1 := z.1
        rw [e9] at z1
        exact absurd z1 (Int.lt_irrefl 0)), e9]
    rw [gd_t (by omega), bq_p rfl, eb]
    exact ⟨0, c, rfl, Fr.rf, Or.inr ⟨rfl, rfl⟩, h⟩
end
def SRd (th q : Nat) : Prop := q = th ∨ q = th + 4 ∨ q = th + 6
section
variable {th : Nat} {len s : Int} {B rd : Int → Int} {c : W0}
/-- a constraint -/
theorem con8 (h : TX th len B s c) (hT : Tx len B) (hs : 0 ≤ s ∧ s ≤ len) (hP : RepP (th + 4) rd c) (hI : PiR rd) (h4 : rd 1 < 4) : ∃ b c', f_X3_takeConstraint th c = some (b, c') ∧ Fr (SRd th) c c' ∧ ((b = 1 ∧ (cnT len B ((s, 0), rd)).1.2 = 0 ∧ RepP (th + 4) (cnT len B ((s, 0), rd)).2 c') ∨ (b = 0 ∧ (cnT len B ((s, 0), rd)).1.2 = 1)) ∧ TX th len B (cnT len B ((s, 0), rd)).1.1 c' := by
  have h1 := hT.1
  have g0 := hI.1.1; have g1 := hI.1.2.1
  have p0 : c (th + 4) 0 = rd 0 := hP.1
  have p1 : c (th + 4) 1 = rd 1 := hP.2.1
  -- what comes of a failure before the end
  have ff : ∀ (s' : Int) (c' : W0), (cnB len B ((s, 0), rd)).2 = (s', 1) → Fr (SRd th) c c' → TX th len B s' c' → ∃ b c'', some ((0 : Int), c') = some (b, c'') ∧ Fr (SRd th) c c'' ∧ ((b = 1 ∧ (cnT len B ((s, 0), rd)).1.2 = 0 ∧ RepP (th + 4) (cnT len B ((s, 0), rd)).2 c'') ∨ (b = 0 ∧ (cnT len B ((s, 0), rd)).1.2 = 1)) ∧ TX th len B (cnT len B ((s, 0), rd)).1.1 c'' := fun s' c' e hF hX => by
    have e2 : (cnT len B ((s, 0), rd)).1 = (s', 1) := e
    rw [e2]
    exact ⟨0, c', rfl, hF, Or.inr ⟨rfl, rfl⟩, hX⟩
  unfold f_X3_takeConstraint f_X2_add
  rw [p1, gd_t (by omega), cl_s]
  have hc2 : ∀ q, q ≠ th + 4 → q ≠ th + 6 → upc (upc c (th + 4 + 2) (updZ (addZ (c (th + 4 + 2)) (rd 1) 4) (rd 1 * 5 + 4) 0)) (th + 4) (updZ (c (th + 4)) 1 (rd 1 + 1)) q = c q := fun q a b => by rw [upc_n a, upc_n b]
  have hc4 : upc (upc c (th + 4 + 2) (updZ (addZ (c (th + 4 + 2)) (rd 1) 4) (rd 1 * 5 + 4) 0)) (th + 4) (updZ (c (th + 4)) 1 (rd 1 + 1)) (th + 4) = updZ (c (th + 4)) 1 (rd 1 + 1) := upc_s
  have hc6 : upc (upc c (th + 4 + 2) (updZ (addZ (c (th + 4 + 2)) (rd 1) 4) (rd 1 * 5 + 4) 0)) (th + 4) (updZ (c (th + 4)) 1 (rd 1 + 1)) (th + 6) = updZ (addZ (c (th + 6)) (rd 1) 4) (rd 1 * 5 + 4) 0 := by
    rw [upc_n (by omega)]
    exact upc_s
  generalize upc (upc c (th + 4 + 2) (updZ (addZ (c (th + 4 + 2)) (rd 1) 4) (rd 1 * 5 + 4) 0)) (th + 4) (updZ (c (th + 4)) 1 (rd 1 + 1)) = c2 at *
  have hF2 : Fr (SRd th) c c2 := fun q hq => hc2 q (fun z => hq (Or.inr (Or.inl z))) (fun z => hq (Or.inr (Or.inr z)))
  have hX2 : TX th len B s c2 := TX_f h (hc2 _ (by omega) (by omega)) (hc2 _ (by omega) (by omega)) (hc2 _ (by omega) (by omega))
  have mt : ∀ q : Nat, q = th → SRd th q := fun q z => Or.inl z
  have m6 : ∀ q : Nat, (q = th ∨ q = th + 6) → SRd th q := fun q z => z.elim Or.inl (fun z => Or.inr (Or.inr z))
  obtain ⟨b, c4, e4, hF4, hb⟩ := take8 (p := 59) hX2 hT hs (by omega)
  rw [e4, cl_s]
  rcases hb with ⟨rfl, n4, hX4⟩ | ⟨rfl, n4, hX4⟩
  · have a4 : s < len := n4.2.1
    obtain ⟨b, c6, e6, hF6, hb⟩ := take8 (p := 99) hX4 hT ⟨by omega, by omega⟩ (by omega)
    rw [gd_t (by omega), bq_n (by omega), e6, cl_s]
    rcases hb with ⟨rfl, n6, hX6⟩ | ⟨rfl, n6, hX6⟩
    · have a6 : s + 1 < len := n6.2.1
      have eA : cnA len B ((s, 0), rd) = (s + 1 + 1, 0) := by
        show (tkT len B 99 99 (tkT len B 59 59 (s, 0)).2).2 = _
        rw [tkT_t n4]
        show (tkT len B 99 99 (s + 1, 0)).2 = _
        rw [tkT_t n6]
      have eY : cnY len B ((s, 0), rd) = fsT len B (6 + 4 * rd 1) (rd 0).toNat 0 ((s + 1 + 1, 0), rd) := by
        show fsT len B (6 + 4 * rd 1) (rd 0).toNat 0 (cnA len B ((s, 0), rd), rd) = _
        rw [eA]
      have f6 : Fr (fun q => q = th) c2 c6 := hF4.tr hF6
      obtain ⟨b, c8, e8, hF8, hb, hX8, hO8⟩ := facs8 (row := rd 1) (place := 6 + 4 * rd 1) (n := rd 0) hT ⟨g1.1, g1.2⟩ g0.2 (rd 0).toNat LF 0 (s + 1 + 1) rd c6 (by omega) (by omega) (by rw [LF_g]; omega) ⟨by omega, by omega⟩ hX6 (by rw [f6 _ (by omega), hc4, updZ_n (by decide)]; exact p0)
      have hok := fsT_ok (len := len) (B := B) (place := 6 + 4 * rd 1) (rd 0).toNat 0 ((s + 1 + 1, 0), rd) ⟨⟨by show 0 ≤ s + 1 + 1; omega, by show s + 1 + 1 ≤ len; omega⟩, Or.inl rfl⟩
      rw [← eY] at hb hX8 hok
      have f8 : Fr (SRd th) c c8 := (hF2.tr (f6.mo mt)).tr (hF8.mo m6)
      rw [gd_t (by omega), bq_n (by omega)]
      unfold f_X3_takeFactors
      rw [e8, cl_s]
      rcases hb with ⟨rfl, w8, hv8⟩ | ⟨rfl, w8⟩
      · have ex8 : (cnY len B ((s, 0), rd)).1 = ((cnY len B ((s, 0), rd)).1.1, 0) := Prod.ext rfl w8
        obtain ⟨b, c10, e10, hF10, hb⟩ := take8 (p := 60) hX8 hT hok.1 (by omega)
        rw [gd_t (by omega), bq_n (by omega), e10, cl_s]
        rcases hb with ⟨rfl, n10, hX10⟩ | ⟨rfl, n10, hX10⟩
        · have a10 : (cnY len B ((s, 0), rd)).1.1 < len := n10.2.1
          have h00 := hok.1.1
          have eB : cnB len B ((s, 0), rd) = bnT len B ((cnY len B ((s, 0), rd)).1.1 + 1, 0) := by
            unfold cnB
            rw [ex8, tkT_t n10]
          obtain ⟨b, c12, e12, hF12, hb, hX12⟩ := bnd8 (row := rd 1) hX10 hT ⟨by omega, by omega⟩ ⟨g1.1, h4⟩
          rw [← eB] at hb hX12
          have f12 : Fr (SRd th) c c12 := (f8.tr (hF10.mo mt)).tr (hF12.mo m6)
          rw [gd_t (by omega), bq_n (by omega), e12, cl_s]
          rcases hb with ⟨rfl, w12, g12⟩ | ⟨rfl, w12⟩
          · rw [gd_t (by omega), bq_n (by omega)]
            refine ⟨1, c12, rfl, f12, Or.inl ⟨rfl, w12, ?_⟩, hX12⟩
            obtain ⟨n0, n1⟩ := cnT_0 (len := len) (B := B) (X := ((s, 0), rd)) g1.1 g0.2
            have d4 : c12 (th + 4) = updZ (c (th + 4)) 1 (rd 1 + 1) := by
              rw [hF12 _ (by omega), hF10 _ (by omega), hF8 _ (by omega), f6 _ (by omega), hc4]
            have e68 : ∀ y, (y < rd 1 * 5 ∨ rd 1 * 5 + rd 0 ≤ y) → c8 (th + 6) y = updZ (addZ (c (th + 6)) (rd 1) 4) (rd 1 * 5 + 4) 0 y := fun y hy => by
              rw [hO8 y (by omega), f6 _ (by omega), hc6]
            have g10 : c10 (th + 6) = c8 (th + 6) := hF10 _ (by omega)
            have hout : ∀ y, (y < rd 1 * 5 ∨ rd 1 * 5 + 5 ≤ y) → c12 (th + 6) y = c (th + 6) y := fun y hy => by
              rw [g12, updZ_n (by omega), g10, e68 y (by omega), updZ_n (by omega)]
              unfold addZ
              rw [if_neg (by omega)]
            have hin : ∀ v, rd 0 ≤ v → v < 4 → c12 (th + 6) (rd 1 * 5 + v) = 0 := fun v a b => by
              rw [g12, updZ_n (by omega), g10, e68 _ (by omega), updZ_n (by omega)]
              unfold addZ
              rw [if_pos (by omega)]
            have cv : ∀ y, y ≠ 1 → y ≠ 22 + rd 1 → (cnT len B ((s, 0), rd)).2 y = (cnY len B ((s, 0), rd)).2 y := fun y a b => by
              show updZ (updZ (cnY len B ((s, 0), rd)).2 (22 + rd 1) (cnB len B ((s, 0), rd)).1) 1 (rd 1 + 1) y = _
              rw [updZ_n a, updZ_n b]
            have cw : ∀ y, (y < 6 + 4 * rd 1 ∨ 6 + 4 * rd 1 + rd 0 ≤ y) → (cnY len B ((s, 0), rd)).2 y = rd y := fun y hy => by
              rw [eY]
              exact fsT_o _ _ _ y (by omega)
            have q1 : ∀ r v, 0 ≤ r → r < rd 1 → 0 ≤ v → v < 5 → c12 (th + 6) (r * 5 + v) = c (th + 6) (r * 5 + v) := fun r v a b a2 b2 => hout _ (by omega)
            refine ⟨?_, ?_, fun r v a b a2 b2 => ?_, fun v a b => ?_, fun r a b => ?_, fun r v a b a2 b2 => ?_⟩
            · rw [d4, updZ_n (by decide), n0]; exact p0
            · rw [d4, updZ_s, n1]
            · show c12 (th + 6) (r * 5 + v) = _
              rw [n1] at b
              have b9 : r < rd 1 + 1 := b
              by_cases y : r = rd 1
              · rw [y, cv _ (by omega) (by omega)]
                by_cases z : v < rd 0
                · rw [g12, updZ_n (by omega), g10]
                  exact hv8 v a2 z
                · rw [hin v (by omega) b2, cw _ (by omega)]
                  exact (hI.2.1 (rd 1) v (Int.le_refl _) h4 a2 b2).symm
              · rw [q1 r v a (by omega) a2 (by omega), cv _ (by omega) (by omega), cw _ (by omega)]
                exact hP.2.2.1 r v a (by omega) a2 b2
            · show c12 (th + 6) (4 * 5 + v) = _
              rw [hout _ (by omega), cv _ (by omega) (by omega), cw _ (by omega)]
              exact hP.2.2.2.1 v a b
            · show c12 (th + 6) (r * 5 + 4) = _
              rw [n1] at b
              have b9 : r < rd 1 + 1 := b
              by_cases y : r = rd 1
              · rw [y, g12, updZ_s]
                show _ = updZ (updZ (cnY len B ((s, 0), rd)).2 (22 + rd 1) (cnB len B ((s, 0), rd)).1) 1 (rd 1 + 1) (22 + rd 1)
                rw [updZ_n (by omega), updZ_s]
              · rw [q1 r 4 a (by omega) (by omega) (by omega), cv _ (by omega) (by omega), cw _ (by omega)]
                exact hP.2.2.2.2.1 r a (by omega)
            · show c12 (th + 6) (r * 5 + v) = 0
              rw [n0] at a2
              have a9 : rd 0 ≤ v := a2
              by_cases y : r = rd 1
              · rw [y]; exact hin v a9 b2
              · rw [hout _ (by omega)]
                exact hP.2.2.2.2.2 r v a b a9 b2
          · rw [gd_t (by omega), bq_p rfl]
            exact ff _ c12 (Prod.ext rfl w12) f12 hX12
        · rw [gd_t (by omega), bq_p rfl]
          exact ff _ c10 (by unfold cnB; rw [ex8, tkT_f n10]; exact congrArg Prod.snd bnT_d) (f8.tr (hF10.mo mt)) hX10
      · have ex8 : (cnY len B ((s, 0), rd)).1 = ((cnY len B ((s, 0), rd)).1.1, 1) := Prod.ext rfl w8
        rw [gd_t (by omega), bq_p rfl]
        exact ff _ c8 (by unfold cnB; rw [ex8, tkT_d]; exact congrArg Prod.snd bnT_d) f8 hX8
    · rw [gd_t (by omega), bq_p rfl]
      refine ff _ c6 ?_ ((hF2.tr (hF4.mo mt)).tr (hF6.mo mt)) hX6
      have eA : cnA len B ((s, 0), rd) = (s + 1, 1) := by
        show (tkT len B 99 99 (tkT len B 59 59 (s, 0)).2).2 = _
        rw [tkT_t n4]
        show (tkT len B 99 99 (s + 1, 0)).2 = _
        rw [tkT_f n6]
      have eY : (cnY len B ((s, 0), rd)).1 = (s + 1, 1) := by
        show (fsT len B (6 + 4 * rd 1) (rd 0).toNat 0 (cnA len B ((s, 0), rd), rd)).1 = _
        rw [eA]
        exact fsT_d _ _ _
      unfold cnB
      rw [eY, tkT_d]
      exact congrArg Prod.snd bnT_d
  · rw [gd_t (by omega), bq_p rfl]
    refine ff _ c4 ?_ (hF2.tr (hF4.mo mt)) hX4
    have eA : cnA len B ((s, 0), rd) = (s, 1) := by
      show (tkT len B 99 99 (tkT len B 59 59 (s, 0)).2).2 = _
      rw [tkT_f n4]
      show (tkT len B 99 99 (s, 1)).2 = _
      rw [tkT_d]
    have eY : (cnY len B ((s, 0), rd)).1 = (s, 1) := by
      show (fsT len B (6 + 4 * rd 1) (rd 0).toNat 0 (cnA len B ((s, 0), rd), rd)).1 = _
      rw [eA]
      exact fsT_d _ _ _
    unfold cnB
    rw [eY, tkT_d]
    exact congrArg Prod.snd bnT_d
end
end TC
