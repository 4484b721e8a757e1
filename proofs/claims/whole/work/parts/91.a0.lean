section TP
/-! problems as texts: what a reading is, from left to right; x.1 the place, x.2 whether it went wrong -/
abbrev Xs : Type := Int × Int
abbrev Rs : Type := Xs × (Int → Int)
section
variable (len : Int) (B : Int → Int)
abbrev nxT (lo hi : Int) (x : Xs) : Prop := x.2 = 0 ∧ x.1 < len ∧ lo ≤ B x.1 ∧ B x.1 ≤ hi
def tkT (lo hi : Int) (x : Xs) : Int × Xs := if nxT len B lo hi x then (B x.1 - 48, x.1 + 1, 0) else (0, x.1, 1)
def fcT (x : Xs) : Int × Xs := if nxT len B 45 45 x then (-(tkT len B 49 57 (x.1 + 1, x.2)).1, (tkT len B 49 57 (x.1 + 1, x.2)).2) else tkT len B 48 57 x
def bnT (x : Xs) : Int × Xs := if 0 < (tkT len B 48 57 x).1 ∧ nxT len B 48 57 (tkT len B 48 57 x).2 then (10 * (tkT len B 48 57 x).1 + (tkT len B 48 57 (tkT len B 48 57 x).2).1, (tkT len B 48 57 (tkT len B 48 57 x).2).2) else tkT len B 48 57 x
def cmT (l : Int) (x : Xs) : Xs := if l ≤ 0 then x else (tkT len B 44 44 x).2
def fsT (place : Int) : Nat → Int → Rs → Rs
  | 0, _, X => X
  | k + 1, l, X => fsT place k (l + 1) ((fcT len B (cmT len B l X.1)).2, updZ X.2 (place + l) (fcT len B (cmT len B l X.1)).1)
def cnA (X : Rs) : Xs := (tkT len B 99 99 (tkT len B 59 59 X.1).2).2
def cnY (X : Rs) : Rs := fsT len B (6 + 4 * X.2 1) (X.2 0).toNat 0 (cnA len B X, X.2)
def cnB (X : Rs) : Int × Xs := bnT len B (tkT len B 60 60 (cnY len B X).1).2
def cnT (X : Rs) : Rs := ((cnB len B X).2, updZ (updZ (cnY len B X).2 (22 + X.2 1) (cnB len B X).1) 1 (X.2 1 + 1))
def lpT : Nat → Rs → Rs
  | 0, X => X
  | k + 1, X => if X.1.2 = 0 ∧ X.1.1 < len ∧ X.2 1 < 4 then lpT k (cnT len B X) else X
def prA : Xs := (tkT len B 118 118 (0, 0)).2
def prB : Int × Xs := tkT len B 49 52 (prA len B)
def prC : Xs := (tkT len B 109 109 (tkT len B 59 59 (prB len B).2).2).2
def prD : Int → Int := updZ (fun _ => 0) 0 (prB len B).1
def prE : Rs := fsT len B 2 (prB len B).1.toNat 0 (prC len B, prD len B)
def prF : Rs := lpT len B 5 (prE len B)
/-- how it ends: the first wrong place, whether wrong, the numbers -/
def prW : Int := if (prF len B).1.2 = 0 ∧ len ≤ (prF len B).1.1 then 0 else 1
end
def Tx (len : Int) (B : Int → Int) : Prop := (0 ≤ len ∧ len ≤ 60) ∧ ∀ k, 0 ≤ k → k < len → 33 ≤ B k ∧ B k ≤ 126
def OkX (len : Int) (x : Xs) : Prop := (0 ≤ x.1 ∧ x.1 ≤ len) ∧ (x.2 = 0 ∨ x.2 = 1)
section
variable {len : Int} {B : Int → Int} {lo hi l s place : Int} {x : Xs} {X : Rs}
theorem tkT_t (h : nxT len B lo hi x) : tkT len B lo hi x = (B x.1 - 48, x.1 + 1, 0) := if_pos h
theorem tkT_f (h : ¬ nxT len B lo hi x) : tkT len B lo hi x = (0, x.1, 1) := if_neg h
theorem nx_d : ¬ nxT len B lo hi (s, 1) := fun h => by
  have h2 : (1 : Int) = 0 := h.1
  omega
theorem tkT_d : tkT len B lo hi (s, 1) = (0, s, 1) := tkT_f nx_d
theorem tkT_ok (hx : OkX len x) : OkX len (tkT len B lo hi x).2 := by
  by_cases h : nxT len B lo hi x
  · rw [tkT_t h]
    have := hx.1
    exact ⟨⟨by show 0 ≤ x.1 + 1; omega, by show x.1 + 1 ≤ len; omega⟩, Or.inl rfl⟩
  · rw [tkT_f h]
    exact ⟨hx.1, Or.inr rfl⟩
theorem tkT_v (h : 48 ≤ lo) : 0 ≤ (tkT len B lo hi x).1 ∧ ((tkT len B lo hi x).1 = 0 ∨ (lo - 48 ≤ (tkT len B lo hi x).1 ∧ (tkT len B lo hi x).1 ≤ hi - 48)) := by
  by_cases y : nxT len B lo hi x
  · rw [tkT_t y]
    show 0 ≤ B x.1 - 48 ∧ (B x.1 - 48 = 0 ∨ (lo - 48 ≤ B x.1 - 48 ∧ B x.1 - 48 ≤ hi - 48))
    omega
  · rw [tkT_f y]
    exact ⟨Int.le_refl 0, Or.inl rfl⟩
theorem fcT_d : fcT len B (s, 1) = (0, s, 1) := (if_neg nx_d).trans tkT_d
theorem fcT_ok (hx : OkX len x) : OkX len (fcT len B x).2 := by
  unfold fcT
  by_cases h : nxT len B 45 45 x
  · rw [if_pos h]
    have := hx.1
    exact tkT_ok (x := (x.1 + 1, x.2)) ⟨⟨by show 0 ≤ x.1 + 1; omega, by show x.1 + 1 ≤ len; omega⟩, hx.2⟩
  · rw [if_neg h]
    exact tkT_ok hx
theorem fcT_9 : B9 (fcT len B x).1 := by
  unfold fcT
  by_cases h : nxT len B 45 45 x
  · rw [if_pos h]
    have := tkT_v (len := len) (B := B) (lo := 49) (hi := 57) (x := (x.1 + 1, x.2)) (by decide)
    show -9 ≤ -_ ∧ -_ ≤ 9
    omega
  · rw [if_neg h]
    have := tkT_v (len := len) (B := B) (lo := 48) (hi := 57) (x := x) (by decide)
    omega
theorem bnT_p (h : 0 < (tkT len B 48 57 x).1) (n : nxT len B 48 57 (tkT len B 48 57 x).2) : bnT len B x = (10 * (tkT len B 48 57 x).1 + (tkT len B 48 57 (tkT len B 48 57 x).2).1, (tkT len B 48 57 (tkT len B 48 57 x).2).2) := if_pos (show 0 < (tkT len B 48 57 x).1 ∧ nxT len B 48 57 (tkT len B 48 57 x).2 from ⟨h, n⟩)
theorem bnT_n (h : ¬ (0 < (tkT len B 48 57 x).1 ∧ nxT len B 48 57 (tkT len B 48 57 x).2)) : bnT len B x = tkT len B 48 57 x := if_neg h
theorem bnT_d : bnT len B (s, 1) = (0, s, 1) := by
  rw [bnT_n (fun h => by
    have h1 := h.1
    rw [tkT_d] at h1
    exact absurd h1 (Int.lt_irrefl 0)), tkT_d]
theorem fcT_p (h : nxT len B 45 45 x) : fcT len B x = (-(tkT len B 49 57 (x.1 + 1, x.2)).1, (tkT len B 49 57 (x.1 + 1, x.2)).2) := if_pos h
theorem fcT_n (h : ¬ nxT len B 45 45 x) : fcT len B x = tkT len B 48 57 x := if_neg h
theorem cmT_p (h : l ≤ 0) : cmT len B l x = x := if_pos h
theorem cmT_n (h : ¬ l ≤ 0) : cmT len B l x = (tkT len B 44 44 x).2 := if_neg h
theorem bnT_ok (hx : OkX len x) : OkX len (bnT len B x).2 := by
  unfold bnT
  split
  · exact tkT_ok (tkT_ok hx)
  · exact tkT_ok hx
theorem bnT_99 : 0 ≤ (bnT len B x).1 ∧ (bnT len B x).1 ≤ 99 := by
  have h1 := tkT_v (len := len) (B := B) (lo := 48) (hi := 57) (x := x) (by decide)
  have h2 := tkT_v (len := len) (B := B) (lo := 48) (hi := 57) (x := (tkT len B 48 57 x).2) (by decide)
  unfold bnT
  split
  · show 0 ≤ 10 * (tkT len B 48 57 x).1 + (tkT len B 48 57 (tkT len B 48 57 x).2).1 ∧ 10 * (tkT len B 48 57 x).1 + (tkT len B 48 57 (tkT len B 48 57 x).2).1 ≤ 99
    omega
  · omega
theorem cmT_d : cmT len B l (s, 1) = (s, 1) := by
  unfold cmT
  split
  · rfl
  · rw [tkT_d]
theorem cmT_ok (hx : OkX len x) : OkX len (cmT len B l x) := by
  unfold cmT
  split
  · exact hx
  · exact tkT_ok hx
theorem fsT_s {k : Nat} : fsT len B place (k + 1) l X = fsT len B place k (l + 1) ((fcT len B (cmT len B l X.1)).2, updZ X.2 (place + l) (fcT len B (cmT len B l X.1)).1) := rfl
theorem fsT_d : ∀ (k : Nat) (l : Int) (rd : Int → Int), (fsT len B place k l ((s, 1), rd)).1 = (s, 1) := by
  intro k
  induction k with
  | zero => intro l rd; rfl
  | succ k ih =>
    intro l rd
    rw [fsT_s]
    dsimp only
    rw [cmT_d, fcT_d]
    exact ih (l + 1) _
theorem fsT_ok : ∀ (k : Nat) (l : Int) (X : Rs), OkX len X.1 → OkX len (fsT len B place k l X).1 := by
  intro k
  induction k with
  | zero => intro l X h; exact h
  | succ k ih =>
    intro l X h
    rw [fsT_s]
    exact ih (l + 1) _ (fcT_ok (cmT_ok h))
theorem fsT_o : ∀ (k : Nat) (l : Int) (X : Rs) (y : Int), (y < place + l ∨ place + l + k ≤ y) → (fsT len B place k l X).2 y = X.2 y := by
  intro k
  induction k with
  | zero => intro l X y _; rfl
  | succ k ih =>
    intro l X y h
    rw [fsT_s, ih (l + 1) _ y (by omega)]
    exact updZ_n (by omega)
theorem fsT_9 : ∀ (k : Nat) (l : Int) (X : Rs) (y : Int), place + l ≤ y → y < place + l + k → B9 ((fsT len B place k l X).2 y) := by
  intro k
  induction k with
  | zero => intro l X y h h2; omega
  | succ k ih =>
    intro l X y h h2
    rw [fsT_s]
    by_cases e : y = place + l
    · rw [fsT_o k (l + 1) _ y (by omega)]
      show B9 (updZ X.2 (place + l) _ y)
      rw [e, updZ_s]
      exact fcT_9
    · exact ih (l + 1) _ y (by omega) (by omega)
end
/-- what the numbers read so far keep -/
def PiR (rd : Int → Int) : Prop := GdP rd ∧ (∀ r v, rd 1 ≤ r → r < 4 → 0 ≤ v → v < 4 → rd (6 + 4 * r + v) = 0) ∧ (∀ r v, 0 ≤ r → r < 4 → rd 0 ≤ v → v < 4 → rd (6 + 4 * r + v) = 0) ∧ ∀ v, rd 0 ≤ v → v < 4 → rd (2 + v) = 0
section
variable {len : Int} {B : Int → Int} {X : Rs}
theorem cnY_0 (h1 : 0 ≤ X.2 1) {y : Int} (hy : y < 6 + 4 * X.2 1 ∨ 10 + 4 * X.2 1 ≤ y) (h0 : X.2 0 ≤ 4) : (cnY len B X).2 y = X.2 y := fsT_o _ _ _ y (by omega)
theorem cnT_0 (h1 : 0 ≤ X.2 1) (h0 : X.2 0 ≤ 4) : (cnT len B X).2 0 = X.2 0 ∧ (cnT len B X).2 1 = X.2 1 + 1 := by
  refine ⟨?_, show updZ (updZ (cnY len B X).2 (22 + X.2 1) (cnB len B X).1) 1 (X.2 1 + 1) 1 = X.2 1 + 1 from updZ_s⟩
  show updZ (updZ (cnY len B X).2 (22 + X.2 1) (cnB len B X).1) 1 (X.2 1 + 1) 0 = X.2 0
  rw [updZ_n (by decide), updZ_n (by omega), cnY_0 h1 (by omega) h0]
theorem cnT_ok (hx : OkX len X.1) : OkX len (cnT len B X).1 := show OkX len (bnT len B (tkT len B 60 60 (cnY len B X).1).2).2 from bnT_ok (tkT_ok (fsT_ok _ _ _ (tkT_ok (tkT_ok hx))))
theorem cnT_d {s : Int} {rd : Int → Int} : (cnT len B ((s, 1), rd)).1 = (s, 1) := by
  show (bnT len B (tkT len B 60 60 (cnY len B ((s, 1), rd)).1).2).2 = (s, 1)
  have e : (cnY len B ((s, 1), rd)).1 = (s, 1) := by
    unfold cnY cnA
    dsimp only
    rw [tkT_d, tkT_d]
    exact fsT_d _ _ _
  rw [e, tkT_d]
  exact congrArg Prod.snd bnT_d
theorem lpT_t {k : Nat} (h : X.1.2 = 0 ∧ X.1.1 < len ∧ X.2 1 < 4) : lpT len B (k + 1) X = lpT len B k (cnT len B X) := if_pos h
theorem lpT_f {k : Nat} (h : ¬ (X.1.2 = 0 ∧ X.1.1 < len ∧ X.2 1 < 4)) : lpT len B k X = X := by
  cases k with
  | zero => rfl
  | succ k => exact if_neg h
theorem Pi_cn (h : PiR X.2) (h4 : X.2 1 < 4) : PiR (cnT len B X).2 := by
  obtain ⟨g, z1, z2, z3⟩ := h
  have g0 := g.1; have g1 := g.2.1
  obtain ⟨e0, e1⟩ := cnT_0 (len := len) (B := B) g1.1 g0.2
  have hv : ∀ y, y ≠ 1 → y ≠ 22 + X.2 1 → (y < 6 + 4 * X.2 1 ∨ 6 + 4 * X.2 1 + X.2 0 ≤ y) → (cnT len B X).2 y = X.2 y := fun y a b c => by
    show updZ (updZ (cnY len B X).2 (22 + X.2 1) (cnB len B X).1) 1 (X.2 1 + 1) y = X.2 y
    rw [updZ_n a, updZ_n b]
    exact fsT_o _ _ _ y (by omega)
  have hw : ∀ y, 6 + 4 * X.2 1 ≤ y → y < 6 + 4 * X.2 1 + X.2 0 → B9 ((cnT len B X).2 y) := fun y a b => by
    show B9 (updZ (updZ (cnY len B X).2 (22 + X.2 1) (cnB len B X).1) 1 (X.2 1 + 1) y)
    rw [updZ_n (by omega), updZ_n (by omega)]
    exact fsT_9 _ _ _ y (by omega) (by omega)
  have hb : (cnT len B X).2 (22 + X.2 1) = (cnB len B X).1 := by
    show updZ (updZ (cnY len B X).2 (22 + X.2 1) (cnB len B X).1) 1 (X.2 1 + 1) (22 + X.2 1) = _
    rw [updZ_n (by omega), updZ_s]
  refine ⟨⟨by rw [e0]; exact g0, by rw [e1]; omega, fun v a b => ?_, fun c v a b a2 b2 => ?_, fun c a b => ?_⟩, fun r v a b a2 b2 => ?_, fun r v a b a2 b2 => ?_, fun v a b => ?_⟩
  · rw [hv _ (by omega) (by omega) (by omega)]
    exact g.2.2.1 v a b
  · by_cases y : c = X.2 1 ∧ v < X.2 0
    · exact hw _ (by omega) (by omega)
    · rw [hv _ (by omega) (by omega) (by omega)]
      exact g.2.2.2.1 c v a b a2 b2
  · by_cases y : c = X.2 1
    · rw [y, hb]
      exact bnT_99
    · rw [hv _ (by omega) (by omega) (by omega)]
      exact g.2.2.2.2 c a b
  · rw [e1] at a
    rw [hv _ (by omega) (by omega) (by omega)]
    exact z1 r v (by omega) b a2 b2
  · rw [e0] at a2
    rw [hv _ (by omega) (by omega) (by omega)]
    exact z2 r v a b a2 b2
  · rw [e0] at a
    rw [hv _ (by omega) (by omega) (by omega)]
    exact z3 v a b
theorem Pi_lp : ∀ (k : Nat) (X : Rs), PiR X.2 → PiR (lpT len B k X).2 := by
  intro k
  induction k with
  | zero => intro X h; exact h
  | succ k ih =>
    intro X h
    by_cases y : X.1.2 = 0 ∧ X.1.1 < len ∧ X.2 1 < 4
    · rw [lpT_t y]
      exact ih _ (Pi_cn h y.2.2)
    · rw [lpT_f y]
      exact h
theorem lpT_ok : ∀ (k : Nat) (X : Rs), OkX len X.1 → OkX len (lpT len B k X).1 := by
  intro k
  induction k with
  | zero => intro X h; exact h
  | succ k ih =>
    intro X h
    by_cases y : X.1.2 = 0 ∧ X.1.1 < len ∧ X.2 1 < 4
    · rw [lpT_t y]
      exact ih _ (cnT_ok h)
    · rw [lpT_f y]
      exact h
end
section
variable {len : Int} {B : Int → Int}
theorem prA_ok (h : Tx len B) : OkX len (prA len B) := tkT_ok ⟨⟨Int.le_refl 0, h.1.1⟩, Or.inl rfl⟩
theorem prB_ok (h : Tx len B) : OkX len (prB len B).2 := tkT_ok (prA_ok h)
theorem prB_r : 0 ≤ (prB len B).1 ∧ (prB len B).1 ≤ 4 := by
  have := tkT_v (len := len) (B := B) (lo := 49) (hi := 52) (x := prA len B) (by decide)
  unfold prB
  omega
theorem prC_ok (h : Tx len B) : OkX len (prC len B) := tkT_ok (tkT_ok (prB_ok h))
theorem prE_ok (h : Tx len B) : OkX len (prE len B).1 := fsT_ok _ _ _ (prC_ok h)
theorem prF_ok (h : Tx len B) : OkX len (prF len B).1 := lpT_ok _ _ (prE_ok h)
theorem prE_01 : (prE len B).2 0 = (prB len B).1 ∧ (prE len B).2 1 = 0 := by
  unfold prE
  rw [fsT_o _ _ _ 0 (by omega), fsT_o _ _ _ 1 (by omega)]
  show updZ (fun _ => 0) 0 (prB len B).1 0 = (prB len B).1 ∧ updZ (fun _ => 0) 0 (prB len B).1 1 = 0
  exact ⟨updZ_s, updZ_n (by decide)⟩
theorem Pi_E (h : 1 ≤ (prB len B).1) : PiR (prE len B).2 := by
  have hr := prB_r (len := len) (B := B)
  obtain ⟨e0, e1⟩ := prE_01 (len := len) (B := B)
  have hv : ∀ y, 1 ≤ y → (y < 2 ∨ 2 + (prB len B).1 ≤ y) → (prE len B).2 y = 0 := fun y a b => by
    unfold prE
    rw [fsT_o _ _ _ y (by omega)]
    show updZ (fun _ => 0) 0 (prB len B).1 y = 0
    exact updZ_n (by omega)
  have hw : ∀ y, 2 ≤ y → y < 2 + (prB len B).1 → B9 ((prE len B).2 y) := fun y a b => fsT_9 _ _ _ y (by omega) (by omega)
  refine ⟨⟨by rw [e0]; omega, by rw [e1]; omega, fun v a b => ?_, fun c v a b a2 b2 => ?_, fun c a b => ?_⟩, fun r v a b a2 b2 => ?_, fun r v a b a2 b2 => ?_, fun v a b => ?_⟩
  · by_cases y : v < (prB len B).1
    · exact hw _ (by omega) (by omega)
    · rw [hv _ (by omega) (by omega)]; omega
  · rw [hv _ (by omega) (by omega)]; omega
  · rw [hv _ (by omega) (by omega)]; omega
  · rw [e1] at a
    exact hv _ (by omega) (by omega)
  · exact hv _ (by omega) (by omega)
  · rw [e0] at a
    exact hv _ (by omega) (by omega)
theorem fsT_w0 {place : Int} : ∀ (k : Nat) (l : Int) (X : Rs), OkX len X.1 → (fsT len B place k l X).1.2 = 0 → X.1.2 = 0 := by
  intro k l X hx h
  rcases hx.2 with y | y
  · exact y
  · obtain ⟨⟨s, w⟩, rd⟩ := X
    have y2 : w = 1 := y
    subst y2
    rw [fsT_d] at h
    have h2 : (1 : Int) = 0 := h
    omega
/-- a reading that ends well has read a problem -/
theorem prW_0 (hT : Tx len B) (h : prW len B = 0) : PiR (prF len B).2 ∧ (prF len B).1.1 = len := by
  have hok := prF_ok hT
  have hE := prE_ok hT
  unfold prW at h
  by_cases y : (prF len B).1.2 = 0 ∧ len ≤ (prF len B).1.1
  · refine ⟨?_, by have := hok.1; omega⟩
    have hE2 : (prE len B).1.2 = 0 := by
      rcases hE.2 with z | z
      · exact z
      · have : prF len B = prE len B := lpT_f (fun a => by omega)
        rw [this, z] at y
        omega
    have hC2 : (prC len B).2 = 0 := fsT_w0 _ _ (prC len B, prD len B) (prC_ok hT) hE2
    have hB : 1 ≤ (prB len B).1 := by
      by_cases n : nxT len B 49 52 (prA len B)
      · have e : prB len B = (B (prA len B).1 - 48, (prA len B).1 + 1, 0) := tkT_t n
        rw [e]
        show 1 ≤ B (prA len B).1 - 48
        omega
      · have e : prB len B = (0, (prA len B).1, 1) := tkT_f n
        unfold prC at hC2
        rw [e] at hC2
        dsimp only at hC2
        rw [tkT_d, tkT_d] at hC2
        have h2 : (1 : Int) = 0 := hC2
        omega
    exact Pi_lp _ _ (Pi_E hB)
  · rw [if_neg y] at h
    omega
end
end TP
