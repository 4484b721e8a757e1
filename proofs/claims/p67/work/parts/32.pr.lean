section PR
/-! the whole of what is kept: numbers, saved ones, the snapshot, the buffer -/
abbrev St : Type := (Int → Int) × Int × (Int → Int → Int) × Int × (Int → Int) × Int × (Int → Int)
def CI (d : Nat) (z : St) (c : W0) : Prop := RepS (d + 1) z.1 c ∧ SvC d z.2.1 z.2.2.1 c ∧ (c d 9 = z.2.2.2.1 ∧ (z.2.2.2.1 = 1 → RepS (d + 19) z.2.2.2.2.1 c)) ∧ c (d + 29) 0 = z.2.2.2.2.2.1 ∧ ∀ k, 0 ≤ k → k < z.2.2.2.2.2.1 → c (d + 31) k = z.2.2.2.2.2.2 k
def MI (m : Nat) (z : St) (c : W0) : Prop := c (m + 1) = z.1 ∧ SvM m z.2.1 z.2.2.1 c ∧ (c m 6 = z.2.2.2.1 ∧ (z.2.2.2.1 = 1 → ∀ i, 0 ≤ i → i < 34 → c (m + 4) i = z.2.2.2.2.1 i)) ∧ c m 8 = z.2.2.2.2.2.1 ∧ ∀ k, 0 ≤ k → k < z.2.2.2.2.2.1 → c (m + 5) k = z.2.2.2.2.2.2 k
def LI (K : Int) (z : St) : Prop := Good K z.1 ∧ (0 ≤ z.2.1 ∧ z.2.1 ≤ 6) ∧ (∀ k, 0 ≤ k → k < z.2.1 → Good K (z.2.2.1 k)) ∧ (z.2.2.2.1 = 0 ∨ z.2.2.2.1 = 1) ∧ (z.2.2.2.1 = 1 → Good K z.2.2.2.2.1) ∧ (0 ≤ z.2.2.2.2.2.1 ∧ z.2.2.2.2.2.1 ≤ 60) ∧ ∀ k, 0 ≤ k → k < z.2.2.2.2.2.1 → 33 ≤ z.2.2.2.2.2.2 k ∧ z.2.2.2.2.2.2 k ≤ 126
def FrD (d : Nat) (c c' : W0) : Prop := ∀ q, q < d ∨ d + 105 ≤ q → c' q = c q
def FrM (m : Nat) (c c' : W0) : Prop := ∀ q, q < m ∨ m + 15 ≤ q → c' q = c q
theorem FrD.tr {d : Nat} {c c1 c2 : W0} (h : FrD d c c1) (h2 : FrD d c1 c2) : FrD d c c2 := fun q a => (h2 q a).trans (h q a)
theorem FrM.tr {d : Nat} {c c1 c2 : W0} (h : FrM d c c1) (h2 : FrM d c1 c2) : FrM d c c2 := fun q a => (h2 q a).trans (h q a)
theorem Fr.D {d : Nat} {S : Nat → Prop} {c c1 : W0} (h : Fr S c c1) (hS : ∀ q, S q → d ≤ q ∧ q < d + 105) : FrD d c c1 := fun q a => h q (fun z => by have := hS q z; omega)
theorem Fr.M {d : Nat} {S : Nat → Prop} {c c1 : W0} (h : Fr S c c1) (hS : ∀ q, S q → d ≤ q ∧ q < d + 15) : FrM d c c1 := fun q a => h q (fun z => by have := hS q z; omega)
theorem SvC_fr {d : Nat} {n : Int} {S : Int → Int → Int} {c c' : W0} (h : SvC d n S c) (e : c' d 10 = c d 10) (e28 : c' (d + 28) = c (d + 28)) (e2 : ∀ q, d + 51 ≤ q → q < d + 105 → c' q = c q) : SvC d n S c' := by
  obtain ⟨h1, h2, h3, h4⟩ := h
  refine ⟨h1, e.trans h2, Pl_e h3 e28, fun k a b => ?_⟩
  rw [e28]
  have hp := stP_r (h3.1 k a (by omega)).2
  exact RepS_fr (h4 k a b) (fun z a2 b2 => e2 z (by omega) (by omega))
theorem CI_fr {d : Nat} {z : St} {c c' : W0} (h : CI d z c) (e : ∀ q, d ≤ q → q < d + 105 → c' q = c q) : CI d z c' := by
  obtain ⟨h1, h2, h3, h4, h5⟩ := h
  refine ⟨RepS_fr h1 (fun q a b => e q (by omega) (by omega)), SvC_fr h2 (by rw [e d (by omega) (by omega)]) (e _ (by omega) (by omega)) (fun q a b => e q (by omega) (by omega)), ⟨by rw [e d (by omega) (by omega)]; exact h3.1, fun z => RepS_fr (h3.2 z) (fun q a b => e q (by omega) (by omega))⟩, by rw [e _ (by omega) (by omega)]; exact h4, by rw [e _ (by omega) (by omega)]; exact h5⟩
theorem MI_fr {m : Nat} {z : St} {c c' : W0} (h : MI m z c) (e : ∀ q, m ≤ q → q < m + 15 → c' q = c q) : MI m z c' := by
  unfold MI SvM
  rw [e m (by omega) (by omega), e (m + 1) (by omega) (by omega), e (m + 3) (by omega) (by omega), e (m + 4) (by omega) (by omega), e (m + 5) (by omega) (by omega)]
  exact h
/-- what counts on the reference's side -/
theorem MI_sc {m : Nat} {z : St} {c c' : W0} (h : MI m z c) (e1 : c' (m + 1) = c (m + 1)) (e3 : c' (m + 3) = c (m + 3)) (e4 : c' (m + 4) = c (m + 4)) (e5 : c' (m + 5) = c (m + 5)) (i4 : c' m 4 = c m 4) (i6 : c' m 6 = c m 6) (i8 : c' m 8 = c m 8) : MI m z c' := by
  unfold MI SvM
  rw [e1, e3, e4, e5, i4, i6, i8]
  exact h
theorem LI.mo {K K' : Int} {z : St} (h : LI K z) (hk : K ≤ K') : LI K' z := ⟨h.1.mo hk, h.2.1, fun k a b => (h.2.2.1 k a b).mo hk, h.2.2.2.1, fun e => (h.2.2.2.2.1 e).mo hk, h.2.2.2.2.2⟩
/-- with other numbers, the old ones saved -/
def psh (z : St) (F' : Int → Int) : St := (F', psN z.2.1, psS z.2.1 z.2.2.1 z.1, z.2.2.2)
theorem psh_li {K : Int} {z : St} {F' : Int → Int} (h : LI K z) (g : Good K F') : LI K (psh z F') := by
  obtain ⟨h1, h2, h3, h4⟩ := h
  refine ⟨g, ?_, fun k a b => ?_, h4⟩
  · show 0 ≤ psN z.2.1 ∧ psN z.2.1 ≤ 6
    unfold psN
    split <;> omega
  · show Good K (psS z.2.1 z.2.2.1 z.1 k)
    have b2 : k < psN z.2.1 := b
    unfold psN at b2
    unfold psS
    by_cases e : z.2.1 = 6
    · rw [if_pos e] at b2
      rw [if_pos e]
      split
      · exact h1
      · exact h3 (k + 1) (by omega) (by omega)
    · rw [if_neg e] at b2
      rw [if_neg e]
      split
      · exact h1
      · exact h3 k a (by omega)
/-- the calls' shapes -/
def ClX (d : Nat) (z : St) (f : W0 → Option (Int × Int × W0)) (e v : Int) (z' : St) : Prop := ∀ c, CI d z c → ∃ c1, f c = some (e, v, c1) ∧ FrD d c c1 ∧ CI d z' c1
def ClI (d : Nat) (z : St) (f : W0 → Option (Int × W0)) (v : Int) (z' : St) : Prop := ∀ c, CI d z c → ∃ c1, f c = some (v, c1) ∧ FrD d c c1 ∧ CI d z' c1
def ClP (d : Nat) (z : St) (f : W0 → Option Int) (v : Int) : Prop := ∀ c, CI d z c → f c = some v
def Mo (m : Nat) (z : St) (f : W0 → Option (Int × W0)) (t v : Int) (z' : St) : Prop := ∀ c, MI m z c → ∃ c1, f c = some (v, c1) ∧ FrM m c c1 ∧ MI m z' c1 ∧ c1 m 0 = t
/-! the problem anew -/
def bgF (F : Int → Int) : Int → Int := fun i => if 27 ≤ i ∧ i < 31 then (if i - 27 < F 1 then F 0 + (i - 27) else 0) else if i = 31 then 0 else F i
theorem bgF_e {F : Int → Int} {i : Int} (h : i < 27) : bgF F i = F i := by unfold bgF; rw [if_neg (by omega), if_neg (by omega)]
theorem bgF_s {F : Int → Int} (hm : F 1 ≤ 4) : Slk (bgF F) := by
  intro r a b
  rw [bgF_e (by omega)] at b
  rw [bgF_e (i := 0) (by omega)]
  unfold bgF
  rw [if_pos (by omega), if_pos (by omega)]
  omega
theorem Good_bg {K : Int} {F : Int → Int} (hK : 0 ≤ K) (g : GdP F) (h26 : 0 ≤ F 26 ∧ F 26 ≤ 2) (h32 : 0 ≤ F 32 ∧ F 32 ≤ K) (h33 : 0 ≤ F 33 ∧ F 33 ≤ K) : Good K (bgF F) := by
  have g2 : GdP (bgF F) := GdP_e (fun i h => bgF_e (by omega)) g
  refine ⟨g2, GdB_I g2 (bgF_s g.2.1.2), by rw [bgF_e (by omega)]; exact h26, ?_, ?_, ?_⟩
  · unfold bgF; rw [if_neg (by omega), if_pos rfl]; omega
  · unfold bgF; rw [if_neg (by omega), if_neg (by omega)]; exact h32
  · unfold bgF; rw [if_neg (by omega), if_neg (by omega)]; exact h33
theorem begins9 {m : Nat} {F : Int → Int} {c : W0} (hF : c (m + 1) = F) (hm : 0 ≤ F 1 ∧ F 1 ≤ 4) : ∃ c', f_X9_begins m c = some (0, c') ∧ Fr (fun q => q = m + 1) c c' ∧ c' (m + 1) = bgF F := by
  have L : ∀ (κ : W0 → Option (Int × W0)) (k fuel : Nat) (l : Int) (c1 : W0), l + k = 4 → 0 ≤ l → k + 1 ≤ fuel → Fr (fun q => q = m + 1) c c1 → c1 (m + 1) = (fun i => if 27 ≤ i ∧ i < 27 + l then (if i - 27 < F 1 then F 0 + (i - 27) else 0) else F i) → ∃ c2, f_X9_begins_2 m κ fuel l c1 = κ c2 ∧ Fr (fun q => q = m + 1) c c2 ∧ c2 (m + 1) = (fun i => if 27 ≤ i ∧ i < 31 then (if i - 27 < F 1 then F 0 + (i - 27) else 0) else F i) := by
    intro κ k
    induction k with
    | zero =>
      intro fuel l c1 hl h0 hf hFr hI
      obtain ⟨f, rfl⟩ : ∃ f, fuel = f + 1 := ⟨fuel - 1, by omega⟩
      obtain rfl : l = 4 := by omega
      rw [f_X9_begins_2_s]
      unfold b_X9_begins_2
      rw [gd_t (by omega), bq_p (by omega)]
      exact ⟨c1, rfl, hFr, hI⟩
    | succ k ih =>
      intro fuel l c1 hl h0 hf hFr hI
      obtain ⟨f, rfl⟩ : ∃ f, fuel = f + 1 := ⟨fuel - 1, by omega⟩
      have e0 : c1 (m + 1) 0 = F 0 := by rw [hI]; exact if_neg (by omega)
      have e1 : c1 (m + 1) 1 = F 1 := by rw [hI]; exact if_neg (by omega)
      rw [f_X9_begins_2_s]
      unfold b_X9_begins_2
      simp only [sto]
      rw [e0, e1, gd_t (by omega), bq_n (by omega), gd_t (by omega)]
      by_cases h : F 1 ≤ l
      · rw [bq_p h, gd_t (by omega)]
        refine ih f (l + 1) _ (by omega) (by omega) (by omega) (hFr.tr (Fr.up rfl)) ?_
        rw [upc_s, hI]
        funext i
        unfold updZ
        try dsimp only
        by_cases e : i = 27 + l
        · rw [if_pos e, if_pos (by omega), if_neg (by omega)]
        · rw [if_neg e]
          by_cases e2 : 27 ≤ i ∧ i < 27 + l
          · rw [if_pos e2, if_pos (show 27 ≤ i ∧ i < 27 + (l + 1) by omega)]
          · rw [if_neg e2, if_neg (by omega)]
      · rw [bq_n h, gd_t (by omega)]
        refine ih f (l + 1) _ (by omega) (by omega) (by omega) (hFr.tr (Fr.up rfl)) ?_
        rw [upc_s, hI]
        funext i
        unfold updZ
        try dsimp only
        by_cases e : i = 27 + l
        · rw [if_pos e, if_pos (by omega), if_pos (by omega), e]
          omega
        · rw [if_neg e]
          by_cases e2 : 27 ≤ i ∧ i < 27 + l
          · rw [if_pos e2, if_pos (show 27 ≤ i ∧ i < 27 + (l + 1) by omega)]
          · rw [if_neg e2, if_neg (by omega)]
  unfold f_X9_begins
  obtain ⟨c2, e2, hF2, h2⟩ := L (fun c1 => sto c1 (m + 1) 31 0 fun c2 => some (0, c2)) 4 LF 0 c (by omega) (by omega) (by rw [LF_g]; omega) Fr.rf (by
    rw [hF]
    funext i
    rw [if_neg (by omega)])
  rw [e2]
  simp only [sto]
  refine ⟨_, rfl, hF2.tr (Fr.up rfl), ?_⟩
  rw [upc_s, h2]
  funext i
  unfold updZ bgF
  try dsimp only
  by_cases e : i = 31
  · rw [if_pos e, if_neg (by omega), if_pos e]
  · rw [if_neg e, if_neg e]
/-- .. the class's -/
theorem anew8 {d : Nat} {F : Int → Int} {c : W0} (g : GdP F) (hP : RepP (d + 2) F c) (h26 : c (d + 1) 2 = F 26) (h32 : c (d + 1) 4 = F 32) (h33 : c (d + 1) 5 = F 33) : ∃ c', f_X4_start (d + 1) c = some (0, c') ∧ Fr (SS9 (d + 1)) c c' ∧ RepS (d + 1) (bgF F) c' :=
  startS8 (GdP_e (fun i h => bgF_e (by omega)) g) (RepP_e g hP (fun i h => bgF_e (by omega))) (bgF_s g.2.1.2) (by rw [bgF_e (by omega)]; exact h26) (by unfold bgF; rw [if_neg (by omega), if_neg (by omega)]; exact h32) (by unfold bgF; rw [if_neg (by omega), if_neg (by omega)]; exact h33) (by unfold bgF; rw [if_neg (by omega), if_pos rfl])
/-- the class saves, the problem changes, the basis is begun -/
theorem chg8 {d : Nat} {z : St} {F1 : Int → Int} {c : W0} (hC : CI d z c) (g : GdP F1) (e26 : F1 26 = z.1 26) (e32 : F1 32 = z.1 32) (e33 : F1 33 = z.1 33) (f : W0 → Option (Int × W0)) (v : Int) (hf : ∀ c3, RepP (d + 2) z.1 c3 → ∃ c4, f c3 = some (v, c4) ∧ Fr (fun q => q = d + 2 ∨ q = d + 4) c3 c4 ∧ RepP (d + 2) F1 c4) :
    ∃ c3 c4 c5, f_X8_saveState d c = some (0, c3) ∧ RepS (d + 1) z.1 c3 ∧ f c3 = some (v, c4) ∧ f_X4_start (d + 1) c4 = some (0, c5) ∧ FrD d c c5 ∧ CI d (psh z (bgF F1)) c5 := by
  obtain ⟨h1, h2, h3, h4, h5⟩ := hC
  obtain ⟨c3, e3, hF3, hi3, hS3⟩ := save8 h1 h2
  have hR3 : RepS (d + 1) z.1 c3 := RepS_fr h1 (fun q a b => hF3 q (by unfold SD; omega))
  obtain ⟨c4, e4, hF4, hP4⟩ := hf c3 hR3.1
  have ed1 : c4 (d + 1) = c3 (d + 1) := hF4 _ (by omega)
  obtain ⟨c5, e5, hF5, hR5⟩ := anew8 g hP4 (by rw [ed1, e26]; exact hR3.2.2.1) (by rw [ed1, e32]; exact hR3.2.2.2.2.1) (by rw [ed1, e33]; exact hR3.2.2.2.2.2)
  have hFa : Fr (fun q => d + 1 ≤ q ∧ q < d + 10) c3 c5 := (hF4.mo (fun q h => by omega)).tr (hF5.mo (fun q h => by unfold SS9 at h; omega))
  refine ⟨c3, c4, c5, e3, hR3, e4, e5, fun q hq => (hFa q (by omega)).trans (hF3 q (by unfold SD; omega)), hR5, SvC_fr hS3 (by rw [hFa d (by omega)]) (hFa _ (by omega)) (fun q a b => hFa q (by omega)), ⟨?_, fun hz => ?_⟩, ?_, fun k a b => ?_⟩
  · rw [hFa d (by omega), hi3 9 (by decide)]; exact h3.1
  · exact RepS_fr (h3.2 hz) (fun q a b => (hFa q (by omega)).trans (hF3 q (by unfold SD; omega)))
  · rw [hFa _ (by omega), hF3 _ (by unfold SD; omega)]; exact h4
  · rw [hFa _ (by omega), hF3 _ (by unfold SD; omega)]; exact h5 k a b
/-- .. the reference -/
theorem chg9 {m : Nat} {z : St} {F1 : Int → Int} {c c3 c4 : W0} (hM : MI m z c) (hn : 0 ≤ z.2.1 ∧ z.2.1 ≤ 6) (hm : 0 ≤ F1 1 ∧ F1 1 ≤ 4) (e3 : f_X9_save m c = some (0, c3)) (hF4 : Fr (fun q => q = m + 1) c3 c4) (h4 : c4 (m + 1) = F1) :
    ∃ c5, f_X9_begins m c4 = some (0, c5) ∧ FrM m c c5 ∧ MI m (psh z (bgF F1)) c5 ∧ c5 m 0 = c m 0 ∧ c5 (m + 1) = bgF F1 := by
  obtain ⟨h1, h2, h3, h5, h6⟩ := hM
  obtain ⟨c3', e3', hF3, hi3, hS3⟩ := save9 (F := z.1) h1 h2 hn
  rw [e3] at e3'
  cases e3'
  obtain ⟨c5, e5, hF5, h51⟩ := begins9 h4 hm
  have hFa : Fr (fun q => q = m + 1) c3 c5 := hF4.tr hF5
  have em : c5 m = c3 m := hFa m (by omega)
  refine ⟨c5, e5, fun q hq => (hFa q (by omega)).trans (hF3 q (by omega)), ⟨h51, ⟨by rw [em]; exact hS3.1, fun k i a b a2 b2 => by rw [hFa _ (by omega)]; exact hS3.2 k i a b a2 b2⟩, ⟨by rw [em, hi3 6 (by decide)]; exact h3.1, fun hz i a b => by rw [hFa _ (by omega), hF3 _ (by omega)]; exact h3.2 hz i a b⟩, by rw [em, hi3 8 (by decide)]; exact h5, fun k a b => by rw [hFa _ (by omega), hF3 _ (by omega)]; exact h6 k a b⟩, by rw [em, hi3 0 (by decide)], h51⟩
theorem in9 {a b c : Int} (ha : R32 a) (hb : R32 b) (hc : R32 c) : ∃ v, f_X9_in a b c = some v ∧ ((v = 1 ∧ b ≤ a ∧ a ≤ c) ∨ (v = 0 ∧ ¬ (b ≤ a ∧ a ≤ c))) := by
  unfold f_X9_in
  rw [gd_t ⟨ha, hb⟩]
  by_cases h : a < b
  · rw [bq_p h]
    exact ⟨0, rfl, Or.inr ⟨rfl, by omega⟩⟩
  · rw [bq_n h, gd_t ⟨ha, hc⟩]
    by_cases h2 : c < a
    · rw [bq_p h2]
      exact ⟨0, rfl, Or.inr ⟨rfl, by omega⟩⟩
    · rw [bq_n h2]
      exact ⟨1, rfl, Or.inl ⟨rfl, by omega, by omega⟩⟩
theorem holds9 {m : Nat} {t : Int} {c : W0} (ht : R32 t) : f_X9_holds m t c = some (if t = 0 then 1 else 0, upc c m (updZ (c m) 0 t)) := by
  unfold f_X9_holds
  simp only [sto]
  rw [gd_t ht]
  by_cases h : t = 0
  · rw [bq_p h, if_pos h]
  · rw [bq_n h, if_neg h]
theorem MI_t {m : Nat} {z : St} {c : W0} {t : Int} (h : MI m z c) : MI m z (upc c m (updZ (c m) 0 t)) := MI_sc h (upc_n (by omega)) (upc_n (by omega)) (upc_n (by omega)) (upc_n (by omega)) (by rw [upc_s, updZ_n (by decide)]) (by rw [upc_s, updZ_n (by decide)]) (by rw [upc_s, updZ_n (by decide)])
theorem FrM_t {m : Nat} {c : W0} {t : Int} : FrM m c (upc c m (updZ (c m) 0 t)) := fun q hq => upc_n (by omega)
theorem FrM.rf {m : Nat} {c : W0} : FrM m c c := fun _ _ => rfl
theorem FrD.rf {m : Nat} {c : W0} : FrD m c c := fun _ _ => rfl
theorem isC9 {m : Nat} {F : Int → Int} {c : W0} {k : Int} (hF : c (m + 1) = F) (g : GdP F) (hk : R32 k) : ∃ v, f_X9_isConstraint m k c = some v ∧ ((v = 1 ∧ 0 ≤ k ∧ k < F 1) ∨ (v = 0 ∧ ¬ (0 ≤ k ∧ k < F 1))) := by
  have g1 := g.2.1
  obtain ⟨v, e, h⟩ := in9 (a := k) (b := 0) (c := F 1 - 1) hk (by omega) (by omega)
  unfold f_X9_isConstraint
  rw [hF, e, cv_s, gd_t (by omega)]
  refine ⟨v, rfl, ?_⟩
  omega
theorem isV9 {m : Nat} {F : Int → Int} {c : W0} {k : Int} (hF : c (m + 1) = F) (g : GdP F) (hk : R32 k) : ∃ v, f_X9_isVariable m k c = some v ∧ ((v = 1 ∧ 0 ≤ k ∧ k < F 0) ∨ (v = 0 ∧ ¬ (0 ≤ k ∧ k < F 0))) := by
  have g1 := g.1
  obtain ⟨v, e, h⟩ := in9 (a := k) (b := 0) (c := F 0 - 1) hk (by omega) (by omega)
  unfold f_X9_isVariable
  rw [hF, e, cv_s, gd_t (by omega)]
  refine ⟨v, rfl, ?_⟩
  omega
theorem isCol9 {m : Nat} {F : Int → Int} {c : W0} {k : Int} (hF : c (m + 1) = F) (g : GdP F) (hk : R32 k) : ∃ v, f_X9_isColumn m k c = some v ∧ ((v = 1 ∧ 0 ≤ k ∧ k < F 0 + F 1) ∨ (v = 0 ∧ ¬ (0 ≤ k ∧ k < F 0 + F 1))) := by
  have g0 := g.1; have g1 := g.2.1
  obtain ⟨v, e, h⟩ := in9 (a := k) (b := 0) (c := F 0 + F 1 - 1) hk (by omega) (by omega)
  unfold f_X9_isColumn f_X9_columns
  rw [hF, cv_s, e, cv_s, gd_t (by omega)]
  refine ⟨v, rfl, ?_⟩
  omega
theorem isPlace9 {m : Nat} {F : Int → Int} {c : W0} {r q : Int} (hF : c (m + 1) = F) (g : GdP F) (hr : R32 r) (hq : R32 q) : ∃ v, f_X9_isPlace m r q c = some v ∧ ((v = 1 ∧ (0 ≤ r ∧ r < F 1) ∧ 0 ≤ q ∧ q < F 0 + F 1) ∨ (v = 0 ∧ ¬ ((0 ≤ r ∧ r < F 1) ∧ 0 ≤ q ∧ q < F 0 + F 1))) := by
  obtain ⟨v, e, h⟩ := isC9 hF g hr
  obtain ⟨u, e2, h2⟩ := isCol9 hF g hq
  unfold f_X9_isPlace
  rw [e, cv_s, gd_t (by omega)]
  rcases h with ⟨rfl, h⟩ | ⟨rfl, h⟩
  · rw [bq_n (by omega), e2, cv_s, gd_t (by omega)]
    rcases h2 with ⟨rfl, h2⟩ | ⟨rfl, h2⟩
    · rw [bq_n (by omega)]
      exact ⟨1, rfl, Or.inl ⟨rfl, h, h2⟩⟩
    · rw [bq_p rfl]
      exact ⟨0, rfl, Or.inr ⟨rfl, fun z => h2 z.2⟩⟩
  · rw [bq_p rfl]
    exact ⟨0, rfl, Or.inr ⟨rfl, fun z => h z.1⟩⟩
/-- the class's tests -/
theorem reqV8 {d : Nat} {F : Int → Int} {c : W0} {k : Int} (hP : RepP (d + 2) F c) (g : GdP F) (hk : R32 k) : (0 ≤ k ∧ k < F 0 ∧ f_X8_requireVariable d k c = some (0, 0, c)) ∨ (¬ (0 ≤ k ∧ k < F 0) ∧ f_X8_requireVariable d k c = some (3, 0, c)) := by
  have g0 := g.1
  unfold f_X8_requireVariable
  simp only [jn]
  rw [hP.1, gd_t hk]
  by_cases h : k < 0
  · rw [bq_p h]; exact Or.inr ⟨by omega, rfl⟩
  · rw [bq_n h, gd_t ⟨hk, by omega⟩]
    by_cases h2 : k < F 0
    · rw [bq_p h2]; exact Or.inl ⟨by omega, h2, rfl⟩
    · rw [bq_n h2]; exact Or.inr ⟨by omega, rfl⟩
theorem reqC8 {d : Nat} {F : Int → Int} {c : W0} {k : Int} (hP : RepP (d + 2) F c) (g : GdP F) (hk : R32 k) : (0 ≤ k ∧ k < F 1 ∧ f_X8_requireConstraint d k c = some (0, 0, c)) ∨ (¬ (0 ≤ k ∧ k < F 1) ∧ f_X8_requireConstraint d k c = some (3, 0, c)) := by
  have g0 := g.2.1
  unfold f_X8_requireConstraint
  simp only [jn]
  rw [hP.2.1, gd_t hk]
  by_cases h : k < 0
  · rw [bq_p h]; exact Or.inr ⟨by omega, rfl⟩
  · rw [bq_n h, gd_t ⟨hk, by omega⟩]
    by_cases h2 : k < F 1
    · rw [bq_p h2]; exact Or.inl ⟨by omega, h2, rfl⟩
    · rw [bq_n h2]; exact Or.inr ⟨by omega, rfl⟩
end PR
