section TC5
section
variable {α β : Type} {T : Option β → Prop}
theorem st_jP {f : (α → Option β) → Option β} {k : α → Option β} (P : α → Prop) (hk : ∀ x, P x → T (k x)) (hf : ∀ k' : α → Option β, (∀ x, P x → T (k' x)) → T (f k')) : T (jn k f) := hf k hk
theorem st_jP2 {γ : Type} {f : (α → γ → Option β) → Option β} {k : α → γ → Option β} (P : α → γ → Prop) (hk : ∀ x y, P x y → T (k x y)) (hf : ∀ k' : α → γ → Option β, (∀ x y, P x y → T (k' x y)) → T (f k')) : T (jn k f) := hf k hk
end
/-- what stands against a pivot, in words -/
theorem ob_w (F : Int → Int) (r q : Int) : (obF F r q = 1 ∧ pick (nmd F q) 1 0 = 1 ∨ ¬ obF F r q = 1 ∧ pick (nmd F q) 1 0 = 0) ∧ (obF F r q = 2 → ¬ 0 < rF F q) ∧ (obF F r q = 3 → 0 < rF F q ∧ ¬ 0 < tF F r q) ∧ (obF F r q = 4 ∨ obF F r q = 0 → 0 < rF F q ∧ 0 < tF F r q) := by
  unfold obF
  by_cases h1 : nmd F q
  · rw [pick_t h1, pick_t h1]
    exact ⟨Or.inl ⟨rfl, rfl⟩, fun z => absurd z (by decide), fun z => absurd z (by decide), fun z => absurd z (by decide)⟩
  · rw [pick_f h1, pick_f h1]
    by_cases h2 : 0 < rF F q
    · rw [pick_t h2]
      by_cases h3 : 0 < tF F r q
      · rw [pick_t h3]
        by_cases h4 : obS F r q
        · rw [pick_t h4]
          exact ⟨Or.inr ⟨by decide, rfl⟩, fun z => absurd z (by decide), fun z => absurd z (by decide), fun _ => ⟨h2, h3⟩⟩
        · rw [pick_f h4]
          exact ⟨Or.inr ⟨by decide, rfl⟩, fun z => absurd z (by decide), fun z => absurd z (by decide), fun _ => ⟨h2, h3⟩⟩
      · rw [pick_f h3]
        exact ⟨Or.inr ⟨by decide, rfl⟩, fun z => absurd z (by decide), fun _ => ⟨h2, h3⟩, fun z => absurd z (by decide)⟩
    · rw [pick_f h2]
      exact ⟨Or.inr ⟨by decide, rfl⟩, fun _ => h2, fun z => absurd z (by decide), fun z => absurd z (by decide)⟩
/-- the row that names a column, and whether an entry is above 0, among the first r rows -/
def NmI (F : Int → Int) (q r v : Int) : Prop := (v = -1 ∧ ∀ k, 0 ≤ k → k < r → F (27 + k) ≠ q) ∨ ((0 ≤ v ∧ v < r) ∧ F (27 + v) = q)
def HsI (F : Int → Int) (q r v : Int) : Prop := (v = 1 ∧ ∃ k, (0 ≤ k ∧ k < r) ∧ 0 < tF F k q) ∨ (v = 0 ∧ ∀ k, 0 ≤ k → k < r → ¬ 0 < tF F k q)
def BsI (F : Int → Int) (q v : Int) : Prop := (v = 1 ∧ ∀ k, 0 ≤ k → k < q → ¬ 0 < rF F k) ∨ (v = 0 ∧ ∃ k, (0 ≤ k ∧ k < q) ∧ 0 < rF F k)
def RyI (F : Int → Int) (q v : Int) : Prop := (v = 1 ∧ ∃ k, (0 ≤ k ∧ k < q) ∧ rayF F k) ∨ (v = 0 ∧ ∀ k, 0 ≤ k → k < q → ¬ rayF F k)
section
variable {S : W0 → Prop} {d : Nat} {z : St} {K : Int}
set_option maxHeartbeats 4000000 in
theorem col_46 {T : Option (Int × W0) → Prop} {κ : Int → Int → Int → W0 → Option (Int × W0)} {q l4 l5 : Int} (hq : 0 ≤ q ∧ q < z.1 0 + z.1 1) (hA : SOK d z S) (hL : LI K z) (hκ : ∀ v h c1, S c1 → NmI z.1 q (z.1 1) v → HsI z.1 q (z.1 1) h → T (κ 1 v h c1)) : ∀ (k fuel : Nat) (r v h : Int) (c : W0), r + k = z.1 1 → 0 ≤ r → k + 1 ≤ fuel → S c → NmI z.1 q r v → HsI z.1 q r h → T (f_L_areColumnsSo_46 d (z.1 0) (z.1 1) l4 l5 q (nu (rF z.1 q) (dF z.1)) κ fuel 1 v h r c) := by
  have g := hL.1.1
  have g0 := g.1; have g1 := g.2.1
  have hb := hL.1.2.1
  have hD := dz_b hL
  have hrb := rF_b g hb.1 hq
  obtain ⟨m1, m2, m3, m4, m5⟩ := nu_64 (n := rF z.1 q) (by omega) hD
  have hrs := nu_s (n := rF z.1 q) hD.1
  intro k
  induction k with
  | zero =>
    intro fuel r v h c hl h0 hf hS hN hH
    obtain ⟨f, rfl⟩ : ∃ f, fuel = f + 1 := ⟨fuel - 1, by omega⟩
    obtain rfl : r = z.1 1 := by omega
    rw [f_L_areColumnsSo_46_s]
    unfold b_L_areColumnsSo_46
    refine st_gd ⟨by omega, by omega⟩ ?_
    refine st_p (by omega) ?_
    exact hκ v h c hS hN hH
  | succ k ih =>
    intro fuel r v h c hl h0 hf hS hN hH
    obtain ⟨f, rfl⟩ : ∃ f, fuel = f + 1 := ⟨fuel - 1, by omega⟩
    have hr : 0 ≤ r ∧ r < z.1 1 := ⟨h0, by omega⟩
    have hnr := hb.1 r h0 hr.2
    have htb := tF_b g hb.1 (r := r) (q := q) (by omega) hq
    obtain ⟨n1, n2, n3, n4, n5⟩ := nu_64 (n := tF z.1 r q) (by omega) hD
    have hts := nu_s (n := tF z.1 r q) hD.1
    have hcol := hA.n ((c8_columnOf hL (p := r) (by omega)).1 hr)
    have hwhy := hA.n ((c8_whyNoPivot hL (p := r) (q := q) (by omega) (by omega)).1 ⟨hr, hq⟩)
    have hen := (c8_entry (d := d) hL (p := r) (q := q) (by omega) (by omega)).1 ⟨hr, hq⟩
    have hnum := hA.n hen.1
    have hden := hA.n hen.2
    have hnam := hA.n ((c8_isNamed hL (p := q) (by omega)).1 hq)
    have hwr := obF_r (F := z.1) (r := r) (q := q)
    obtain ⟨w1, w2, w3, w4⟩ := ob_w z.1 r q
    have hvr : -1 ≤ v ∧ v < 4 := by rcases hN with ⟨rfl, _⟩ | ⟨_, _⟩ <;> omega
    have hhr : h = 0 ∨ h = 1 := by rcases hH with ⟨rfl, _⟩ | ⟨rfl, _⟩ <;> omega
    generalize hob : obF z.1 r q = ob at *
    generalize hnm : pick (nmd z.1 q) 1 0 = nm at *
    rw [f_L_areColumnsSo_46_s]
    unfold b_L_areColumnsSo_46
    refine st_gd ⟨by omega, by omega⟩ ?_
    refine st_n (by omega) ?_
    refine st_cn hcol hS (fun c hS => ?_)
    refine st_gd ⟨by omega, by omega⟩ ?_
    refine st_jP (fun v4 => NmI z.1 q (r + 1) v4) (fun v4 hN4 => ?_) (fun k' hk => ?_)
    · have hv4 : -1 ≤ v4 ∧ v4 < 4 := by rcases hN4 with ⟨rfl, _⟩ | ⟨_, _⟩ <;> omega
      refine st_gd (by omega) ?_
      refine st_jP (fun c6 => S c6 ∧ HsI z.1 q (r + 1) 1) (fun c6 hc6 => ?_) (fun k' hk => ?_)
      · obtain ⟨hS, hH6⟩ := hc6
        refine st_cn hwhy hS (fun c hS => ?_)
        refine st_gd (by decide) ?_
        refine st_n (by decide) ?_
        refine st_cn hden hS (fun c hS => ?_)
        refine st_gd n2 ?_
        refine st_n (by omega) ?_
        refine st_cn hnum hS (fun c hS => ?_)
        refine st_cn hden hS (fun c hS => ?_)
        refine st_cv (frG hD (by omega)) ?_
        refine st_gd (by decide) ?_
        refine st_p rfl ?_
        refine st_gd (by omega) ?_
        refine st_jP (fun x => x = nm) (fun x hx => ?_) (fun k' hk => ?_)
        · refine st_cn hnam hS (fun c hS => ?_)
          refine st_gd ⟨by omega, by omega⟩ ?_
          refine st_p hx ?_
          refine st_gd (by omega) ?_
          refine st_jP (fun _ => True) (fun _ _ => ?_) (fun k' hk => ?_)
          · refine st_gd (by omega) ?_
            refine st_jP S (fun c hS => ?_) (fun k' hk => ?_)
            · refine st_gd (by omega) ?_
              refine st_jP (fun _ => ob = 4 ∨ ob = 0) (fun _ h40 => ?_) (fun k' hk => ?_)
              · have h5 := w4 h40
                refine st_gd m1 ?_
                refine st_n (fun z9 => absurd (hrs.1.mpr h5.1) (by omega)) ?_
                refine st_cn hnum hS (fun c hS => ?_)
                refine st_gd n1 ?_
                refine st_n (fun z9 => absurd (hts.1.mpr h5.2) (by omega)) ?_
                exact ih f (r + 1) v4 1 c (by omega) (by omega) (by omega) hS hN4 hH6
              · by_cases e4 : ob = 4
                · refine st_p e4 ?_
                  exact hk () (Or.inl e4)
                · refine st_n e4 ?_
                  refine st_gd (by omega) ?_
                  by_cases e0 : ob = 0
                  · refine st_p e0 ?_
                    exact hk () (Or.inr e0)
                  · refine st_n e0 ?_
                    exact ih f (r + 1) v4 1 c (by omega) (by omega) (by omega) hS hN4 hH6
            · by_cases e3 : ob = 3
              · have h5 := w3 e3
                refine st_p e3 ?_
                refine st_gd m1 ?_
                refine st_n (fun z9 => absurd (hrs.1.mpr h5.1) (by omega)) ?_
                refine st_cn hnum hS (fun c hS => ?_)
                refine st_gd n1 ?_
                refine st_n (fun z9 => h5.2 (hts.1.mp z9)) ?_
                exact hk c hS
              · refine st_n e3 ?_
                exact hk c hS
          · by_cases e2 : ob = 2
            · refine st_p e2 ?_
              refine st_gd m1 ?_
              refine st_n (fun z9 => w2 e2 (hrs.1.mp z9)) ?_
              exact hk () trivial
            · refine st_n e2 ?_
              exact hk () trivial
        · by_cases e1 : ob = 1
          · refine st_p e1 ?_
            exact hk 1 (by omega)
          · refine st_n e1 ?_
            exact hk 0 (by omega)
      · by_cases e8 : h = 0
        · subst e8
          have hH0 : ∀ k, 0 ≤ k → k < r → ¬ 0 < tF z.1 k q := by
            rcases hH with ⟨e9, _⟩ | ⟨_, e9⟩
            · exact absurd e9 (by decide)
            · exact e9
          refine st_p rfl ?_
          refine st_cn hnum hS (fun c hS => ?_)
          refine st_gd n1 ?_
          by_cases e9 : nu (tF z.1 r q) (dF z.1) ≤ 0
          · refine st_p e9 ?_
            have hH6 : HsI z.1 q (r + 1) 0 := Or.inr ⟨rfl, fun k a b => by
              by_cases e : k = r
              · subst e; exact fun z9 => absurd (hts.1.mpr z9) (by omega)
              · exact hH0 k a (by omega)⟩
            refine st_cn hwhy hS (fun c hS => ?_)
            refine st_gd (by decide) ?_
            refine st_n (by decide) ?_
            refine st_cn hden hS (fun c hS => ?_)
            refine st_gd n2 ?_
            refine st_n (by omega) ?_
            refine st_cn hnum hS (fun c hS => ?_)
            refine st_cn hden hS (fun c hS => ?_)
            refine st_cv (frG hD (by omega)) ?_
            refine st_gd (by decide) ?_
            refine st_p rfl ?_
            refine st_gd (by omega) ?_
            refine st_jP (fun x => x = nm) (fun x hx => ?_) (fun k' hk => ?_)
            · refine st_cn hnam hS (fun c hS => ?_)
              refine st_gd ⟨by omega, by omega⟩ ?_
              refine st_p hx ?_
              refine st_gd (by omega) ?_
              refine st_jP (fun _ => True) (fun _ _ => ?_) (fun k' hk => ?_)
              · refine st_gd (by omega) ?_
                refine st_jP S (fun c hS => ?_) (fun k' hk => ?_)
                · refine st_gd (by omega) ?_
                  refine st_jP (fun _ => ob = 4 ∨ ob = 0) (fun _ h40 => ?_) (fun k' hk => ?_)
                  · have h5 := w4 h40
                    refine st_gd m1 ?_
                    refine st_n (fun z9 => absurd (hrs.1.mpr h5.1) (by omega)) ?_
                    refine st_cn hnum hS (fun c hS => ?_)
                    refine st_gd n1 ?_
                    refine st_n (fun z9 => absurd (hts.1.mpr h5.2) (by omega)) ?_
                    exact ih f (r + 1) v4 0 c (by omega) (by omega) (by omega) hS hN4 hH6
                  · by_cases e4 : ob = 4
                    · refine st_p e4 ?_
                      exact hk () (Or.inl e4)
                    · refine st_n e4 ?_
                      refine st_gd (by omega) ?_
                      by_cases e0 : ob = 0
                      · refine st_p e0 ?_
                        exact hk () (Or.inr e0)
                      · refine st_n e0 ?_
                        exact ih f (r + 1) v4 0 c (by omega) (by omega) (by omega) hS hN4 hH6
                · by_cases e3 : ob = 3
                  · have h5 := w3 e3
                    refine st_p e3 ?_
                    refine st_gd m1 ?_
                    refine st_n (fun z9 => absurd (hrs.1.mpr h5.1) (by omega)) ?_
                    refine st_cn hnum hS (fun c hS => ?_)
                    refine st_gd n1 ?_
                    refine st_n (fun z9 => h5.2 (hts.1.mp z9)) ?_
                    exact hk c hS
                  · refine st_n e3 ?_
                    exact hk c hS
              · by_cases e2 : ob = 2
                · refine st_p e2 ?_
                  refine st_gd m1 ?_
                  refine st_n (fun z9 => w2 e2 (hrs.1.mp z9)) ?_
                  exact hk () trivial
                · refine st_n e2 ?_
                  exact hk () trivial
            · by_cases e1 : ob = 1
              · refine st_p e1 ?_
                exact hk 1 (by omega)
              · refine st_n e1 ?_
                exact hk 0 (by omega)
          · refine st_n e9 ?_
            exact hk c ⟨hS, Or.inl ⟨rfl, r, ⟨h0, by omega⟩, hts.1.mp (by omega)⟩⟩
        · refine st_n e8 ?_
          refine hk c ⟨hS, ?_⟩
          rcases hH with ⟨_, k9, a9, b9⟩ | ⟨e9, _⟩
          · exact Or.inl ⟨rfl, k9, ⟨a9.1, by omega⟩, b9⟩
          · exact absurd e9 e8
    · by_cases e : z.1 (27 + r) = q
      · refine st_p e ?_
        exact hk r (Or.inr ⟨⟨h0, by omega⟩, e⟩)
      · refine st_n e ?_
        refine hk v ?_
        rcases hN with ⟨e9, h9⟩ | ⟨a9, b9⟩
        · refine Or.inl ⟨e9, fun k a b => ?_⟩
          by_cases e2 : k = r
          · subst e2; exact e
          · exact h9 k a (by omega)
        · exact Or.inr ⟨⟨a9.1, by omega⟩, b9⟩
theorem col_253 {T : Option (Int × W0) → Prop} {κ : Int → W0 → Option (Int × W0)} {q l4 l5 v h : Int} (hq : 0 ≤ q ∧ q < z.1 0 + z.1 1) (hN : NmI z.1 q (z.1 1) v) (hA : SOK d z S) (hL : LI K z) (hκ : ∀ c1, S c1 → T (κ 1 c1)) : ∀ (k fuel : Nat) (r : Int) (c : W0), r + k = z.1 1 → 0 ≤ r → k + 1 ≤ fuel → S c → T (f_L_areColumnsSo_253 d (z.1 0) (z.1 1) l4 l5 q v h (nu (rF z.1 q) (dF z.1)) κ fuel 1 r c) := by
  have g := hL.1.1
  have g0 := g.1; have g1 := g.2.1
  have hb := hL.1.2.1
  have hD := dz_b hL
  have hvr : -1 ≤ v ∧ v < 4 := by rcases hN with ⟨rfl, _⟩ | ⟨_, _⟩ <;> omega
  intro k
  induction k with
  | zero =>
    intro fuel r c hl h0 hf hS
    obtain ⟨f, rfl⟩ : ∃ f, fuel = f + 1 := ⟨fuel - 1, by omega⟩
    rw [f_L_areColumnsSo_253_s]
    unfold b_L_areColumnsSo_253
    refine st_gd ⟨by omega, by omega⟩ ?_
    refine st_p (by omega) ?_
    exact hκ c hS
  | succ k ih =>
    intro fuel r c hl h0 hf hS
    obtain ⟨f, rfl⟩ : ∃ f, fuel = f + 1 := ⟨fuel - 1, by omega⟩
    rw [f_L_areColumnsSo_253_s]
    unfold b_L_areColumnsSo_253
    refine st_gd ⟨by omega, by omega⟩ ?_
    refine st_n (by omega) ?_
    refine st_gd ⟨by omega, by omega⟩ ?_
    by_cases hv : v < 0
    · refine st_p hv ?_
      exact hκ c hS
    · refine st_n hv ?_
      have hr : 0 ≤ r ∧ r < z.1 1 := ⟨h0, by omega⟩
      have hn : (0 ≤ v ∧ v < z.1 1) ∧ z.1 (27 + v) = q := by
        rcases hN with ⟨rfl, _⟩ | h9
        · exact absurd (show (-1 : Int) < 0 by decide) hv
        · exact h9
      have ht := tF_named g (r := r) (k := v) (by omega) hn.1
      have hc := rF_named g hn.1
      rw [hn.2] at ht hc
      have hen := (c8_entry (d := d) hL (p := r) (q := q) (by omega) (by omega)).1 ⟨hr, hq⟩
      have hnum := hA.n hen.1
      refine st_gd (by decide) ?_
      refine st_n (by decide) ?_
      have hz := nu_0 (D := dF z.1) (by omega)
      have h1 := nu_one (D := dF z.1) (by omega)
      have hnv : nu (tF z.1 r q) (dF z.1) = if r = v then 1 else 0 := by
        rw [ht]
        split
        · exact h1.1
        · exact hz.1
      rw [hnv] at hnum
      have h9 : nu (rF z.1 q) (dF z.1) = 0 := by rw [hc]; exact hz.1
      refine st_cn hnum hS (fun c hS => ?_)
      refine st_gd ⟨by omega, by omega⟩ ?_
      refine st_jP (fun x => x = if r = v then 1 else 0) (fun x hx => ?_) (fun k' hk => ?_)
      · refine st_gd ⟨by split <;> decide, by rw [hx]; split <;> decide⟩ ?_
        refine st_p hx.symm ?_
        refine st_gd (by rw [h9]; decide) ?_
        refine st_p h9 ?_
        exact ih f (r + 1) c (by omega) (by omega) (by omega) hS
      · by_cases e : r = v
        · refine st_p e ?_
          exact hk 1 (by rw [if_pos e])
        · refine st_n e ?_
          exact hk 0 (by rw [if_neg e])
set_option maxHeartbeats 4000000 in
theorem col_21 {T : Option (Int × W0) → Prop} {κ : Int → Int → Int → W0 → Option (Int × W0)} (hA : SOK d z S) (hL : LI K z) (hκ : ∀ b y c1, S c1 → BsI z.1 (z.1 0 + z.1 1) b → RyI z.1 (z.1 0 + z.1 1) y → T (κ 1 b y c1)) : ∀ (k fuel : Nat) (q b y : Int) (c : W0), q + k = z.1 0 + z.1 1 → 0 ≤ q → k + 1 ≤ fuel → S c → BsI z.1 q b → RyI z.1 q y → T (f_L_areColumnsSo_21 d (z.1 0) (z.1 1) κ fuel 1 b y q c) := by
  have g := hL.1.1
  have g0 := g.1; have g1 := g.2.1
  have hb := hL.1.2.1
  have hD := dz_b hL
  intro k
  induction k with
  | zero =>
    intro fuel q b y c hl h0 hf hS hB hY
    obtain ⟨f, rfl⟩ : ∃ f, fuel = f + 1 := ⟨fuel - 1, by omega⟩
    obtain rfl : q = z.1 0 + z.1 1 := by omega
    rw [f_L_areColumnsSo_21_s]
    unfold b_L_areColumnsSo_21
    refine st_gd ⟨by omega, by omega⟩ ?_
    refine st_p (by omega) ?_
    exact hκ b y c hS hB hY
  | succ k ih =>
    intro fuel q b y c hl h0 hf hS hB hY
    obtain ⟨f, rfl⟩ : ∃ f, fuel = f + 1 := ⟨fuel - 1, by omega⟩
    have hq : 0 ≤ q ∧ q < z.1 0 + z.1 1 := ⟨h0, by omega⟩
    have hrb := rF_b g hb.1 hq
    obtain ⟨m1, m2, m3, m4, m5⟩ := nu_64 (n := rF z.1 q) (by omega) hD
    have hrs := nu_s (n := rF z.1 q) hD.1
    have hre := (c8_reduced (d := d) hL (q := q) (by omega)).1 hq
    have hred := hA.n hre.1
    have hrdd := hA.n hre.2
    have hnam := hA.n ((c8_isNamed hL (p := q) (by omega)).1 hq)
    obtain ⟨hgn, hgd⟩ := giv hA hL hq
    have hbr : b = 0 ∨ b = 1 := by rcases hB with ⟨rfl, _⟩ | ⟨rfl, _⟩ <;> omega
    have hyr : y = 0 ∨ y = 1 := by rcases hY with ⟨rfl, _⟩ | ⟨rfl, _⟩ <;> omega
    rw [f_L_areColumnsSo_21_s]
    unfold b_L_areColumnsSo_21
    refine st_gd ⟨by omega, by omega⟩ ?_
    refine st_n (by omega) ?_
    refine st_cn hred hS (fun c hS => ?_)
    refine col_46 hq hA hL (fun v h c hS hN hH => ?_) (z.1 1).toNat LF 0 (-1) 0 c (by omega) (by omega) (by rw [LF_g]; omega) hS (Or.inl ⟨rfl, fun k a b => by omega⟩) (Or.inr ⟨rfl, fun k a b => by omega⟩)
    refine col_253 hq hN hA hL (fun c hS => ?_) (z.1 1).toNat LF 0 c (by omega) (by omega) (by rw [LF_g]; omega) hS
    have hvr : -1 ≤ v ∧ v < 4 := by rcases hN with ⟨rfl, _⟩ | ⟨_, _⟩ <;> omega
    have hhr : h = 0 ∨ h = 1 := by rcases hH with ⟨rfl, _⟩ | ⟨rfl, _⟩ <;> omega
    have hnv : pick (nmd z.1 q) 1 0 = if v < 0 then 0 else 1 := by
      rcases hN with ⟨rfl, h9⟩ | ⟨a9, b9⟩
      · rw [pick_f (fun z9 => by obtain ⟨k9, x1, x2, x3⟩ := z9; exact h9 k9 x1 x2 x3), if_pos (by decide)]
      · rw [pick_t ⟨v, a9.1, a9.2, b9⟩, if_neg (by omega)]
    rw [hnv] at hnam
    have hg0 : v < 0 → nu (gS z.1 q) (dF z.1) = 0 := fun hv => by
      have e : gS z.1 q = 0 := by
        unfold gS
        rw [s4_c (g := fun _ => 0) (fun r hr => ?_), s4_z]
        rcases hN with ⟨_, h9⟩ | ⟨a9, _⟩
        · rw [if_neg (fun z9 => h9 r hr.1 z9.1 z9.2)]
        · omega
      rw [e]
      exact (nu_0 (by omega)).1
    have hb0 : b = 0 ∨ 0 < nu (rF z.1 q) (dF z.1) → BsI z.1 (q + 1) 0 := fun h9 => by
      refine Or.inr ⟨rfl, ?_⟩
      rcases h9 with rfl | h9
      · rcases hB with ⟨e9, _⟩ | ⟨_, k9, a9, b9⟩
        · exact absurd e9 (by decide)
        · exact ⟨k9, ⟨a9.1, by omega⟩, b9⟩
      · exact ⟨q, ⟨h0, by omega⟩, hrs.1.mp h9⟩
    have hb1 : ¬ b = 0 → ¬ 0 < nu (rF z.1 q) (dF z.1) → BsI z.1 (q + 1) 1 := fun h8 h9 => by
      refine Or.inl ⟨rfl, fun k9 a9 b9 => ?_⟩
      by_cases e : k9 = q
      · subst e; exact fun z9 => h9 (hrs.1.mpr z9)
      · rcases hB with ⟨_, e9⟩ | ⟨e9, _⟩
        · exact e9 k9 a9 (by omega)
        · exact absurd e9 h8
    have hray : rayF z.1 q ↔ 0 < nu (rF z.1 q) (dF z.1) ∧ h = 0 := by
      constructor
      · intro h9
        refine ⟨hrs.1.mpr h9.1, ?_⟩
        rcases hH with ⟨_, k9, a9, b9⟩ | ⟨e9, _⟩
        · exact absurd b9 (h9.2 k9 a9.1 a9.2)
        · exact e9
      · intro h9
        refine ⟨hrs.1.mp h9.1, ?_⟩
        rcases hH with ⟨e9, _⟩ | ⟨_, e9⟩
        · exact absurd (e9.symm.trans h9.2) (by decide)
        · exact e9
    have hy1 : (¬ y = 0 ∨ (0 < nu (rF z.1 q) (dF z.1) ∧ h = 0)) → RyI z.1 (q + 1) 1 := fun h9 => by
      refine Or.inl ⟨rfl, ?_⟩
      rcases h9 with h9 | h9
      · rcases hY with ⟨_, k9, a9, b9⟩ | ⟨e9, _⟩
        · exact ⟨k9, ⟨a9.1, by omega⟩, b9⟩
        · exact absurd e9 h9
      · exact ⟨q, ⟨h0, by omega⟩, hray.mpr h9⟩
    have hy0 : (y = 0 ∧ (nu (rF z.1 q) (dF z.1) ≤ 0 ∨ ¬ h = 0)) → RyI z.1 (q + 1) 0 := fun h9 => by
      refine Or.inr ⟨rfl, fun k9 a9 b9 => ?_⟩
      by_cases e : k9 = q
      · subst e
        intro z9
        have := hray.mp z9
        omega
      · rcases hY with ⟨e9, _⟩ | ⟨_, e9⟩
        · exact absurd (e9.symm.trans h9.1) (by decide)
        · exact e9 k9 a9 (by omega)
    refine st_gd (by omega) ?_
    refine st_jP (fun _ => b = 0 ∨ 0 < nu (rF z.1 q) (dF z.1)) (fun _ hb9 => ?_) (fun k' hk => ?_)
    · skip
      refine st_gd (by omega) ?_
      refine st_jP (fun _ => ¬ y = 0 ∨ (0 < nu (rF z.1 q) (dF z.1) ∧ h = 0)) (fun _ hy9 => ?_) (fun k1 hk1 => ?_)
      · skip
        refine st_gd (by decide) ?_
        refine st_n (by decide) ?_
        refine st_cn hnam hS (fun c hS => ?_)
        refine st_gd (by omega) ?_
        refine st_jP (fun x => x = if v < 0 then 0 else 1) (fun x hx => ?_) (fun k' hk => ?_)
        · refine st_gd ⟨by split <;> decide, by rw [hx]; split <;> decide⟩ ?_
          refine st_p hx.symm ?_
          refine st_gd (by omega) ?_
          refine st_jP S (fun c hS => ?_) (fun k' hk => ?_)
          · refine st_gd ⟨by omega, by omega⟩ ?_
            refine st_jP S (fun c hS => ?_) (fun k' hk => ?_)
            · exact ih f (q + 1) 0 1 c (by omega) (by omega) (by omega) hS (hb0 hb9) (hy1 hy9)
            · by_cases hs : q < z.1 0
              · refine st_p hs ?_
                exact hk c hS
              · refine st_n hs ?_
                have hj : 0 ≤ q - z.1 0 ∧ q - z.1 0 < z.1 1 := ⟨by omega, by omega⟩
                have hdu := (c8_dual (d := d) hL (q := q - z.1 0) (by omega)).1 hj
                have hde := (c8_dualEq (d := d) hL (q := q - z.1 0) (by omega)).1 hj
                rw [show z.1 0 + (q - z.1 0) = q by omega, nu_neg.1, nu_neg.2] at hdu hde
                have d1 := hA.n hdu.1; have d2 := hA.n hdu.2; have d3 := hA.n hde.1; have d4 := hA.n hde.2
                refine st_cn d1 hS (fun c hS => ?_)
                refine st_gd ⟨by omega, by omega⟩ ?_
                refine st_p rfl ?_
                refine st_cn d2 hS (fun c hS => ?_)
                refine st_cn hrdd hS (fun c hS => ?_)
                refine st_gd ⟨m2, m2⟩ ?_
                refine st_p rfl ?_
                refine st_cn d3 hS (fun c hS => ?_)
                refine st_gd ⟨by omega, by omega⟩ ?_
                refine st_p rfl ?_
                refine st_cn d4 hS (fun c hS => ?_)
                refine st_cn hrdd hS (fun c hS => ?_)
                refine st_gd ⟨m2, m2⟩ ?_
                refine st_p rfl ?_
                exact hk c hS
          · by_cases hv : 0 ≤ v
            · refine st_p hv ?_
              exact hk c hS
            · refine st_n hv ?_
              have hg9 := hg0 (by omega)
              rw [hg9] at hgn
              refine st_cn hgn hS (fun c hS => ?_)
              refine st_gd (by decide) ?_
              refine st_p rfl ?_
              exact hk c hS
        · by_cases hv : v < 0
          · refine st_p hv ?_
            exact hk 0 (by rw [if_pos hv])
          · refine st_n hv ?_
            exact hk 1 (by rw [if_neg hv])
      · by_cases ey : y = 0
        · refine st_p ey ?_
          refine st_gd m1 ?_
          refine st_jP (fun _ => nu (rF z.1 q) (dF z.1) ≤ 0 ∨ ¬ h = 0) (fun _ hy9 => ?_) (fun k2 hk2 => ?_)
          · skip
            refine st_gd (by decide) ?_
            refine st_n (by decide) ?_
            refine st_cn hnam hS (fun c hS => ?_)
            refine st_gd (by omega) ?_
            refine st_jP (fun x => x = if v < 0 then 0 else 1) (fun x hx => ?_) (fun k' hk => ?_)
            · refine st_gd ⟨by split <;> decide, by rw [hx]; split <;> decide⟩ ?_
              refine st_p hx.symm ?_
              refine st_gd (by omega) ?_
              refine st_jP S (fun c hS => ?_) (fun k' hk => ?_)
              · refine st_gd ⟨by omega, by omega⟩ ?_
                refine st_jP S (fun c hS => ?_) (fun k' hk => ?_)
                · exact ih f (q + 1) 0 0 c (by omega) (by omega) (by omega) hS (hb0 hb9) (hy0 ⟨ey, hy9⟩)
                · by_cases hs : q < z.1 0
                  · refine st_p hs ?_
                    exact hk c hS
                  · refine st_n hs ?_
                    have hj : 0 ≤ q - z.1 0 ∧ q - z.1 0 < z.1 1 := ⟨by omega, by omega⟩
                    have hdu := (c8_dual (d := d) hL (q := q - z.1 0) (by omega)).1 hj
                    have hde := (c8_dualEq (d := d) hL (q := q - z.1 0) (by omega)).1 hj
                    rw [show z.1 0 + (q - z.1 0) = q by omega, nu_neg.1, nu_neg.2] at hdu hde
                    have d1 := hA.n hdu.1; have d2 := hA.n hdu.2; have d3 := hA.n hde.1; have d4 := hA.n hde.2
                    refine st_cn d1 hS (fun c hS => ?_)
                    refine st_gd ⟨by omega, by omega⟩ ?_
                    refine st_p rfl ?_
                    refine st_cn d2 hS (fun c hS => ?_)
                    refine st_cn hrdd hS (fun c hS => ?_)
                    refine st_gd ⟨m2, m2⟩ ?_
                    refine st_p rfl ?_
                    refine st_cn d3 hS (fun c hS => ?_)
                    refine st_gd ⟨by omega, by omega⟩ ?_
                    refine st_p rfl ?_
                    refine st_cn d4 hS (fun c hS => ?_)
                    refine st_cn hrdd hS (fun c hS => ?_)
                    refine st_gd ⟨m2, m2⟩ ?_
                    refine st_p rfl ?_
                    exact hk c hS
              · by_cases hv : 0 ≤ v
                · refine st_p hv ?_
                  exact hk c hS
                · refine st_n hv ?_
                  have hg9 := hg0 (by omega)
                  rw [hg9] at hgn
                  refine st_cn hgn hS (fun c hS => ?_)
                  refine st_gd (by decide) ?_
                  refine st_p rfl ?_
                  exact hk c hS
            · by_cases hv : v < 0
              · refine st_p hv ?_
                exact hk 0 (by rw [if_pos hv])
              · refine st_n hv ?_
                exact hk 1 (by rw [if_neg hv])
          · by_cases e1 : nu (rF z.1 q) (dF z.1) ≤ 0
            · refine st_p e1 ?_
              exact hk2 () (Or.inl e1)
            · refine st_n e1 ?_
              refine st_gd (by omega) ?_
              by_cases e2 : h = 0
              · refine st_p e2 ?_
                exact hk1 () (Or.inr ⟨by omega, e2⟩)
              · refine st_n e2 ?_
                exact hk2 () (Or.inr e2)
        · refine st_n ey ?_
          exact hk1 () (Or.inl ey)
    · by_cases eb : b = 0
      · refine st_p eb ?_
        exact hk () (Or.inl eb)
      · refine st_n eb ?_
        refine st_gd m1 ?_
        by_cases ec : 0 < nu (rF z.1 q) (dF z.1)
        · refine st_p ec ?_
          exact hk () (Or.inr ec)
        · refine st_n ec ?_
          refine st_gd (by omega) ?_
          refine st_jP (fun _ => ¬ y = 0 ∨ (0 < nu (rF z.1 q) (dF z.1) ∧ h = 0)) (fun _ hy9 => ?_) (fun k1 hk1 => ?_)
          · skip
            refine st_gd (by decide) ?_
            refine st_n (by decide) ?_
            refine st_cn hnam hS (fun c hS => ?_)
            refine st_gd (by omega) ?_
            refine st_jP (fun x => x = if v < 0 then 0 else 1) (fun x hx => ?_) (fun k' hk => ?_)
            · refine st_gd ⟨by split <;> decide, by rw [hx]; split <;> decide⟩ ?_
              refine st_p hx.symm ?_
              refine st_gd (by omega) ?_
              refine st_jP S (fun c hS => ?_) (fun k' hk => ?_)
              · refine st_gd ⟨by omega, by omega⟩ ?_
                refine st_jP S (fun c hS => ?_) (fun k' hk => ?_)
                · exact ih f (q + 1) 1 1 c (by omega) (by omega) (by omega) hS (hb1 eb ec) (hy1 hy9)
                · by_cases hs : q < z.1 0
                  · refine st_p hs ?_
                    exact hk c hS
                  · refine st_n hs ?_
                    have hj : 0 ≤ q - z.1 0 ∧ q - z.1 0 < z.1 1 := ⟨by omega, by omega⟩
                    have hdu := (c8_dual (d := d) hL (q := q - z.1 0) (by omega)).1 hj
                    have hde := (c8_dualEq (d := d) hL (q := q - z.1 0) (by omega)).1 hj
                    rw [show z.1 0 + (q - z.1 0) = q by omega, nu_neg.1, nu_neg.2] at hdu hde
                    have d1 := hA.n hdu.1; have d2 := hA.n hdu.2; have d3 := hA.n hde.1; have d4 := hA.n hde.2
                    refine st_cn d1 hS (fun c hS => ?_)
                    refine st_gd ⟨by omega, by omega⟩ ?_
                    refine st_p rfl ?_
                    refine st_cn d2 hS (fun c hS => ?_)
                    refine st_cn hrdd hS (fun c hS => ?_)
                    refine st_gd ⟨m2, m2⟩ ?_
                    refine st_p rfl ?_
                    refine st_cn d3 hS (fun c hS => ?_)
                    refine st_gd ⟨by omega, by omega⟩ ?_
                    refine st_p rfl ?_
                    refine st_cn d4 hS (fun c hS => ?_)
                    refine st_cn hrdd hS (fun c hS => ?_)
                    refine st_gd ⟨m2, m2⟩ ?_
                    refine st_p rfl ?_
                    exact hk c hS
              · by_cases hv : 0 ≤ v
                · refine st_p hv ?_
                  exact hk c hS
                · refine st_n hv ?_
                  have hg9 := hg0 (by omega)
                  rw [hg9] at hgn
                  refine st_cn hgn hS (fun c hS => ?_)
                  refine st_gd (by decide) ?_
                  refine st_p rfl ?_
                  exact hk c hS
            · by_cases hv : v < 0
              · refine st_p hv ?_
                exact hk 0 (by rw [if_pos hv])
              · refine st_n hv ?_
                exact hk 1 (by rw [if_neg hv])
          · by_cases ey : y = 0
            · refine st_p ey ?_
              refine st_gd m1 ?_
              refine st_jP (fun _ => nu (rF z.1 q) (dF z.1) ≤ 0 ∨ ¬ h = 0) (fun _ hy9 => ?_) (fun k2 hk2 => ?_)
              · skip
                refine st_gd (by decide) ?_
                refine st_n (by decide) ?_
                refine st_cn hnam hS (fun c hS => ?_)
                refine st_gd (by omega) ?_
                refine st_jP (fun x => x = if v < 0 then 0 else 1) (fun x hx => ?_) (fun k' hk => ?_)
                · refine st_gd ⟨by split <;> decide, by rw [hx]; split <;> decide⟩ ?_
                  refine st_p hx.symm ?_
                  refine st_gd (by omega) ?_
                  refine st_jP S (fun c hS => ?_) (fun k' hk => ?_)
                  · refine st_gd ⟨by omega, by omega⟩ ?_
                    refine st_jP S (fun c hS => ?_) (fun k' hk => ?_)
                    · exact ih f (q + 1) 1 0 c (by omega) (by omega) (by omega) hS (hb1 eb ec) (hy0 ⟨ey, hy9⟩)
                    · by_cases hs : q < z.1 0
                      · refine st_p hs ?_
                        exact hk c hS
                      · refine st_n hs ?_
                        have hj : 0 ≤ q - z.1 0 ∧ q - z.1 0 < z.1 1 := ⟨by omega, by omega⟩
                        have hdu := (c8_dual (d := d) hL (q := q - z.1 0) (by omega)).1 hj
                        have hde := (c8_dualEq (d := d) hL (q := q - z.1 0) (by omega)).1 hj
                        rw [show z.1 0 + (q - z.1 0) = q by omega, nu_neg.1, nu_neg.2] at hdu hde
                        have d1 := hA.n hdu.1; have d2 := hA.n hdu.2; have d3 := hA.n hde.1; have d4 := hA.n hde.2
                        refine st_cn d1 hS (fun c hS => ?_)
                        refine st_gd ⟨by omega, by omega⟩ ?_
                        refine st_p rfl ?_
                        refine st_cn d2 hS (fun c hS => ?_)
                        refine st_cn hrdd hS (fun c hS => ?_)
                        refine st_gd ⟨m2, m2⟩ ?_
                        refine st_p rfl ?_
                        refine st_cn d3 hS (fun c hS => ?_)
                        refine st_gd ⟨by omega, by omega⟩ ?_
                        refine st_p rfl ?_
                        refine st_cn d4 hS (fun c hS => ?_)
                        refine st_cn hrdd hS (fun c hS => ?_)
                        refine st_gd ⟨m2, m2⟩ ?_
                        refine st_p rfl ?_
                        exact hk c hS
                  · by_cases hv : 0 ≤ v
                    · refine st_p hv ?_
                      exact hk c hS
                    · refine st_n hv ?_
                      have hg9 := hg0 (by omega)
                      rw [hg9] at hgn
                      refine st_cn hgn hS (fun c hS => ?_)
                      refine st_gd (by decide) ?_
                      refine st_p rfl ?_
                      exact hk c hS
                · by_cases hv : v < 0
                  · refine st_p hv ?_
                    exact hk 0 (by rw [if_pos hv])
                  · refine st_n hv ?_
                    exact hk 1 (by rw [if_neg hv])
              · by_cases e1 : nu (rF z.1 q) (dF z.1) ≤ 0
                · refine st_p e1 ?_
                  exact hk2 () (Or.inl e1)
                · refine st_n e1 ?_
                  refine st_gd (by omega) ?_
                  by_cases e2 : h = 0
                  · refine st_p e2 ?_
                    exact hk1 () (Or.inr ⟨by omega, e2⟩)
                  · refine st_n e2 ?_
                    exact hk2 () (Or.inr e2)
            · refine st_n ey ?_
              exact hk1 () (Or.inl ey)
theorem L_col (hA : SOK d z S) (hL : LI K z) : ClS S (f_L_areColumnsSo d) 1 := fun c hS => st_end fun T hT => by
  have g := hL.1.1
  have g0 := g.1; have g1 := g.2.1
  have hb := hL.1.2.1
  have hD := dz_b hL
  have hr := rF_b9 g hb.1 (q := z.1 0 + z.1 1) ⟨by omega, by omega⟩
  obtain ⟨m1, m2, m3, m4, m5⟩ := nu_64 (n := -rF z.1 (z.1 0 + z.1 1)) (by omega) hD
  obtain ⟨v, hv⟩ := ray_ex hL
  have hdu : ∀ c, CI d z c → _ := fun c hC => c8_dualValue (d := d) hL hC
  rw [du_e g] at hdu
  unfold f_L_areColumnsSo
  refine st_cp (hA.p (fun c => c8_variables)) hS ?_
  refine st_cp (hA.p (fun c => c8_constraints)) hS ?_
  refine col_21 hA hL (fun b y c hS hB hY => ?_) (z.1 0 + z.1 1).toNat LF 0 1 0 c (by omega) (by omega) (by rw [LF_g]; omega) hS (Or.inl ⟨rfl, fun k a b => by omega⟩) (Or.inr ⟨rfl, fun k a b => by omega⟩)
  have hbo : pick (bestF z.1) 1 0 = b ∧ (b = 0 ∨ b = 1) := by
    rcases hB with ⟨rfl, h9⟩ | ⟨rfl, k9, a9, b9⟩
    · exact ⟨pick_t h9, Or.inr rfl⟩
    · exact ⟨pick_f (fun z9 => z9 k9 a9.1 a9.2 b9), Or.inl rfl⟩
  have hyo : (if v < 0 then 0 else 1) = y ∧ (y = 0 ∨ y = 1) := by
    rcases hY with ⟨rfl, k9, a9, b9⟩ | ⟨rfl, h9⟩
    · rcases hv with ⟨rfl, h8⟩ | ⟨h8, -⟩
      · exact absurd b9 (h8 k9 a9.1 a9.2)
      · exact ⟨if_neg (by omega), Or.inr rfl⟩
    · rcases hv with ⟨rfl, h8⟩ | ⟨h8, h7, h6, -⟩
      · exact ⟨if_pos (by decide), Or.inl rfl⟩
      · exact absurd h6 (h9 v h8 h7)
  refine st_gd (by decide) ?_
  refine st_n (by decide) ?_
  refine st_cp (hA.p (fun c hC => c8_isOptimal hL hC)) hS ?_
  rw [hbo.1]
  refine st_gd ⟨by omega, by omega⟩ ?_
  refine st_p rfl ?_
  refine st_cp (hA.p (fun c hC => c8_hasRay hL hv hC)) hS ?_
  rw [hyo.1]
  refine st_gd ⟨by omega, by omega⟩ ?_
  refine st_p rfl ?_
  refine st_cp (hA.p (fun c hC => (hdu c hC).1)) hS ?_
  refine st_cp (hA.p (fun c hC => (c8_value hL hC).1)) hS ?_
  refine st_gd ⟨m1, m1⟩ ?_
  refine st_p rfl ?_
  refine st_cp (hA.p (fun c hC => (hdu c hC).2)) hS ?_
  refine st_cp (hA.p (fun c hC => (c8_value hL hC).2)) hS ?_
  refine st_gd ⟨m2, m2⟩ ?_
  refine st_p rfl ?_
  exact hT c hS
end
end TC5
