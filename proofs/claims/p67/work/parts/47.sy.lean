section SY
/-! the survey of all bases: sets of columns as numbers -/
def cntB (u : Int) : Nat → Int
  | 0 => 0
  | j + 1 => if bt u j = 1 then cntB u j + 1 else cntB u j
def nmB (u : Int) : Nat → Int → Int
  | 0 => fun _ => 0
  | j + 1 => if bt u j = 1 then updZ (nmB u j) (cntB u j) j else nmB u j
def chN (m : Int) : Nat → Int
  | 0 => 0
  | u + 1 => if cntB u 8 = m then chN m u + 1 else chN m u
theorem cntB_t {u : Int} {j : Nat} (h : bt u j = 1) : cntB u (j + 1) = cntB u j + 1 := if_pos h
theorem cntB_f {u : Int} {j : Nat} (h : ¬ bt u j = 1) : cntB u (j + 1) = cntB u j := if_neg h
theorem nmB_t {u : Int} {j : Nat} (h : bt u j = 1) : nmB u (j + 1) = updZ (nmB u j) (cntB u j) j := if_pos h
theorem nmB_f {u : Int} {j : Nat} (h : ¬ bt u j = 1) : nmB u (j + 1) = nmB u j := if_neg h
theorem cntB_r {u : Int} : ∀ j : Nat, 0 ≤ cntB u j ∧ cntB u j ≤ j := by
  intro j
  induction j with
  | zero => exact ⟨Int.le_refl 0, Int.le_refl 0⟩
  | succ j ih =>
    by_cases h : bt u j = 1
    · rw [cntB_t h]; omega
    · rw [cntB_f h]; omega
theorem cntB_m {u : Int} {j : Nat} : ∀ k : Nat, cntB u j ≤ cntB u (j + k) := by
  intro k
  induction k with
  | zero => exact Int.le_refl _
  | succ k ih =>
    by_cases h : bt u (j + k : Nat) = 1
    · rw [show j + (k + 1) = (j + k) + 1 from rfl, cntB_t h]; omega
    · rw [show j + (k + 1) = (j + k) + 1 from rfl, cntB_f h]; exact ih
theorem cntB_le {u : Int} {j j' : Nat} (h : j ≤ j') : cntB u j ≤ cntB u j' := by
  have := cntB_m (u := u) (j := j) (j' - j)
  rw [show j + (j' - j) = j' by omega] at this
  exact this
theorem nmB_r {u : Int} : ∀ (j : Nat) (k : Int), 0 ≤ k → k < cntB u j → 0 ≤ nmB u j k ∧ nmB u j k < j := by
  intro j
  induction j with
  | zero =>
    intro k a b
    have b2 : k < 0 := b
    omega
  | succ j ih =>
    intro k a b
    by_cases h : bt u j = 1
    · rw [nmB_t h]
      rw [cntB_t h] at b
      by_cases e : k = cntB u j
      · rw [e, updZ_s]; omega
      · rw [updZ_n e]
        have := ih k a (by omega)
        omega
    · rw [nmB_f h]
      rw [cntB_f h] at b
      have := ih k a b
      omega
theorem nmB_m {u : Int} {j : Nat} {k : Int} (hk : k < cntB u j) : ∀ i : Nat, nmB u (j + i) k = nmB u j k := by
  intro i
  induction i with
  | zero => rfl
  | succ i ih =>
    have hm := cntB_m (u := u) (j := j) i
    by_cases h : bt u (j + i : Nat) = 1
    · rw [show j + (i + 1) = (j + i) + 1 from rfl, nmB_t h, updZ_n (by omega)]; exact ih
    · rw [show j + (i + 1) = (j + i) + 1 from rfl, nmB_f h]; exact ih
/-- the column at its place -/
theorem nmB_at {u : Int} {j N : Nat} (h : bt u j = 1) (hj : j < N) : nmB u N (cntB u j) = j := by
  have h1 : nmB u (j + 1) (cntB u j) = j := by rw [nmB_t h, updZ_s]
  have h2 := nmB_m (u := u) (j := j + 1) (k := cntB u j) (by rw [cntB_t h]; omega) (N - (j + 1))
  rw [show j + 1 + (N - (j + 1)) = N by omega] at h2
  rw [h2, h1]
theorem bc_d : ∀ u : Fin 256, f_J6_bitCount_0f7a4 u.val = some (cntB u.val 8) := by decide +kernel
theorem sh_d : ∀ N : Fin 9, ishlZ 1 N.val = ((2 ^ N.val : Nat) : Int) := by decide +kernel
theorem ct_d : ∀ u : Fin 256, ∀ N : Fin 9, u.val < 2 ^ N.val → cntB u.val 8 = cntB u.val N.val := by decide +kernel
theorem ch_d : ∀ m : Fin 5, chN m.val 256 ≤ 70 := by decide +kernel
theorem sl_d : ∀ n m : Fin 5, cntB ((2 ^ n.val * (2 ^ m.val - 1) : Nat) : Int) (n.val + m.val) = m.val ∧ ∀ k : Fin 4, k.val < m.val → nmB ((2 ^ n.val * (2 ^ m.val - 1) : Nat) : Int) (n.val + m.val) k.val = n.val + k.val := by decide +kernel
theorem sl_r : ∀ n m : Fin 5, 2 ^ n.val * (2 ^ m.val - 1) < 2 ^ (n.val + m.val) := by decide +kernel
theorem tw_d : ∀ N : Fin 9, 2 ^ N.val ≤ 256 := by decide +kernel
theorem chN_m {m : Int} {u : Nat} : ∀ k : Nat, chN m u ≤ chN m (u + k) := by
  intro k
  induction k with
  | zero => exact Int.le_refl _
  | succ k ih =>
    show chN m u ≤ if cntB (u + k : Nat) 8 = m then chN m (u + k) + 1 else chN m (u + k)
    split <;> omega
theorem chN_b {m : Int} (hm : 0 ≤ m ∧ m ≤ 4) {u : Nat} (hu : u < 256) (h : cntB u 8 = m) : chN m u < 70 := by
  have h1 : chN m (u + 1) = chN m u + 1 := if_pos h
  have h2 := chN_m (m := m) (u := u + 1) (256 - (u + 1))
  rw [show u + 1 + (256 - (u + 1)) = 256 by omega] at h2
  have h3 : chN ((m.toNat : Nat) : Int) 256 ≤ 70 := ch_d ⟨m.toNat, by omega⟩
  rw [show ((m.toNat : Nat) : Int) = m by omega] at h3
  omega
/-! the columns of a set -/
def NF (F : Int → Int) : Nat := (F 0 + F 1).toNat
def csU (F : Int → Int) (u j : Int) : Int → Int := aF F (nmB u (NF F) j)
def bsR (F : Int → Int) : Int → Int := aF F (F 0 + F 1)
def isU (F : Int → Int) (u : Int) : Prop := cntB u (NF F) = F 1 ∧ ∃ C s, Elm (F 1) (F 1) (csU F u) C s ∧ ∀ j, 0 ≤ j → j < F 1 → 0 ≤ det4 C * tt C (bsR F) (s j)
def sU (F : Int → Int) (u : Int) (C : Mx) (s : Int → Int) (l : Int) : Int := s4 (fun j => if j < l then cF F (nmB u (NF F) j) * tt C (bsR F) (s j) else 0)
def pU (F : Int → Int) (u : Int) (p : Int × Int) : Prop := ∃ C s, Elm (F 1) (F 1) (csU F u) C s ∧ p = (nu (sU F u C s (F 1)) (det4 C), de (sU F u C s (F 1)) (det4 C))
noncomputable def vU (F : Int → Int) (u : Int) : Int × Int := Classical.epsilon (pU F u)
section
variable {F : Int → Int} {u : Int} {C C' : Mx} {s s' : Int → Int}
theorem NF_e (g : GdP F) : (NF F : Int) = F 0 + F 1 := by
  have g0 := g.1; have g1 := g.2.1
  unfold NF
  omega
theorem eqU (g : GdP F) (hc : cntB u (NF F) = F 1) : EqH (F 1) (csU F u) (bsR F) := by
  have g0 := g.1; have g1 := g.2.1
  have hN := NF_e g
  refine ⟨g1, fun j i a b h => aF_hi h, fun j i a b a2 b2 => ?_, fun i hi => aF_99 g (by omega)⟩
  have := nmB_r (u := u) (NF F) j a (by omega)
  exact aF_9 g (by omega)
theorem sU_0 : sU F u C s 0 = 0 := by
  have e : sU F u C s 0 = s4 (fun _ => 0) := s4_c fun j hj => if_neg (by omega)
  rw [e]
  rfl
theorem sU_s {l : Int} (hl : 0 ≤ l ∧ l < 4) : sU F u C s (l + 1) = sU F u C s l + cF F (nmB u (NF F) l) * tt C (bsR F) (s l) := by
  have e : sU F u C s (l + 1) = s4 (fun j => (if j < l then cF F (nmB u (NF F) j) * tt C (bsR F) (s j) else 0) + if j = l then cF F (nmB u (NF F) j) * tt C (bsR F) (s j) else 0) := s4_c fun j hj => by
    by_cases h1 : j < l
    · rw [if_pos (show j < l + 1 by omega), if_pos h1, if_neg (show ¬ j = l by omega), Int.add_zero]
    · by_cases h2 : j = l
      · rw [if_pos (show j < l + 1 by omega), if_neg h1, if_pos h2, Int.zero_add]
      · rw [if_neg (show ¬ j < l + 1 by omega), if_neg h1, if_neg h2]
        rfl
  rw [e, s4_a, s4_1' (f := fun j => cF F (nmB u (NF F) j) * tt C (bsR F) (s j)) hl]
  rfl
theorem sU_u (g : GdP F) (h : Elm (F 1) (F 1) (csU F u) C s) (h' : Elm (F 1) (F 1) (csU F u) C' s') {l : Int} : sU F u C s l * det4 C' = sU F u C' s' l * det4 C := by
  unfold sU
  rw [← s4_m2, ← s4_m2]
  refine s4_c fun j hj => ?_
  by_cases y : j < l
  · rw [if_pos y, if_pos y]
    have e := Elm_u h h' (a := bsR F) hj
    rw [Int.mul_assoc, Int.mul_comm (tt C (bsR F) (s j)), e, Int.mul_assoc, Int.mul_comm (det4 C)]
  · rw [if_neg y, if_neg y, Int.zero_mul, Int.zero_mul]
theorem vU_e (g : GdP F) (h : Elm (F 1) (F 1) (csU F u) C s) : vU F u = (nu (sU F u C s (F 1)) (det4 C), de (sU F u C s (F 1)) (det4 C)) := by
  have hx : ∃ p, pU F u p := ⟨_, C, s, h, rfl⟩
  obtain ⟨C', s', h', e⟩ := Classical.epsilon_spec hx
  unfold vU
  rw [e]
  have h9 := nu_u (n := sU F u C' s' (F 1)) (d := det4 C') (n' := sU F u C s (F 1)) (d' := det4 C) h'.2.1 h.2.1 (sU_u g h' h)
  rw [h9.1, h9.2]
theorem sU_b (g : GdP F) (hc : cntB u (NF F) = F 1) (h : Elm (F 1) (F 1) (csU F u) C s) {l : Int} (hl : l ≤ F 1) : -62355744 ≤ sU F u C s l ∧ sU F u C s l ≤ 62355744 := by
  have g0 := g.1; have g1 := g.2.1
  have hN := NF_e g
  have H := eqU g hc
  have t : ∀ j, 0 ≤ j ∧ j < 4 → -15588936 ≤ (if j < l then cF F (nmB u (NF F) j) * tt C (bsR F) (s j) else 0) ∧ (if j < l then cF F (nmB u (NF F) j) * tt C (bsR F) (s j) else 0) ≤ 15588936 := by
    intro j hj
    by_cases y : j < l
    · rw [if_pos y]
      have r := nmB_r (u := u) (NF F) j hj.1 (by omega)
      have b := eq_b H h (by omega) (r := j) (q := F 1) ⟨hj.1, by omega⟩ ⟨g1.1, by omega⟩
      rw [Aq_m] at b
      have c9 := cF_9 g r.1
      have := mbd c9 b
      omega
    · rw [if_neg y]; omega
  have t0 := t 0 (by omega); have t1 := t 1 (by omega); have t2 := t 2 (by omega); have t3 := t 3 (by omega)
  unfold sU s4
  dsimp only
  omega
theorem sg_p {x D : Int} (hD : 0 < D) : 0 ≤ D * x ↔ 0 ≤ x := ⟨fun h => pos_of hD h, fun h => Int.mul_nonneg (by omega) h⟩
theorem sg_n {x D : Int} (hD : D < 0) : 0 ≤ D * x ↔ x ≤ 0 := by
  have h := sg_p (x := -x) (D := -D) (by omega)
  rw [Int.neg_mul_neg] at h
  rw [h]
  omega
theorem nu_sg {X D : Int} (hD : D ≠ 0) : nu X D < 0 ↔ ¬ 0 ≤ D * X := by
  by_cases h : 0 < D
  · rw [(nu_s (n := X) h).2.1, sg_p h]; omega
  · have h2 := nu_u (n := X) (d := D) (n' := -X) (d' := -D) hD (by omega) (by rw [Int.mul_neg, Int.neg_mul])
    rw [h2.1, (nu_s (n := -X) (d := -D) (by omega)).2.1, sg_n (by omega)]
    omega
/-- whether a set is a feasible basis: told by any answer -/
theorem isU_i (g : GdP F) (hc : cntB u (NF F) = F 1) (h : Elm (F 1) (F 1) (csU F u) C s) : isU F u ↔ ∀ j, 0 ≤ j → j < F 1 → 0 ≤ det4 C * tt C (bsR F) (s j) := by
  have g1 := g.2.1
  refine ⟨fun ⟨_, C', s', h', hp⟩ j a b => ?_, fun hp => ⟨hc, C, s, h, hp⟩⟩
  have e := Elm_u h h' (a := bsR F) (k := j) ⟨a, by omega⟩
  have hj := hp j a b
  have hD := h.2.1; have hD' := h'.2.1
  have q1 : 0 < det4 C' * det4 C' := by
    by_cases z : 0 < det4 C'
    · exact Int.mul_pos z z
    · exact Int.mul_pos_of_neg_of_neg (by omega) (by omega)
  have q2 : 0 < det4 C * det4 C := by
    by_cases z : 0 < det4 C
    · exact Int.mul_pos z z
    · exact Int.mul_pos_of_neg_of_neg (by omega) (by omega)
  refine pos_of q1 ?_
  have e2 : det4 C' * det4 C' * (det4 C * tt C (bsR F) (s j)) = det4 C * det4 C * (det4 C' * tt C' (bsR F) (s' j)) := by
    have : det4 C' * det4 C' * (det4 C * tt C (bsR F) (s j)) = det4 C' * det4 C * (det4 C' * tt C (bsR F) (s j)) := by ac_rfl
    rw [this, e]
    ac_rfl
  rw [e2]
  exact Int.mul_nonneg (by omega) hj
theorem isU_d (g : GdP F) (hd : Dep (F 1) (csU F u)) : ¬ isU F u := fun ⟨_, _, _, h, _⟩ => Elm_dep h g.2.1.2 hd
end
/-! the scan -/
abbrev Sv : Type := Int × Int × (Int → Int) × (Int → Int) × Int × Int
def notd (S : Sv) (v : Int × Int) : Prop := ∃ k, (0 ≤ k ∧ k < S.2.1) ∧ S.2.2.1 k = v.1 ∧ S.2.2.2.1 k = v.2
def morS (S : Sv) (v : Int × Int) : Prop := S.2.1 = 0 ∨ S.2.2.2.2.1 * v.2 < v.1 * S.2.2.2.2.2
noncomputable def svA (S : Sv) (v : Int × Int) : Sv := bq (notd S v) (S.1 + 1, S.2) (S.1 + 1, S.2.1 + 1, updZ S.2.2.1 S.2.1 v.1, updZ S.2.2.2.1 S.2.1 v.2, bq (morS S v) v.1 S.2.2.2.2.1, bq (morS S v) v.2 S.2.2.2.2.2)
noncomputable def svS (F : Int → Int) : Nat → Sv
  | 0 => (0, 0, fun _ => 0, fun _ => 0, 0, 1)
  | u + 1 => bq (isU F u) (svA (svS F u) (vU F u)) (svS F u)
abbrev bNV (p q : Int) : Prop := -62355744 ≤ p ∧ p ≤ 62355744 ∧ 0 < q ∧ q ≤ 157464
def SvG (S : Sv) : Prop := 0 ≤ S.2.1 ∧ S.2.1 ≤ S.1 ∧ (S.2.1 = 0 → S.1 = 0) ∧ (∀ k, 0 ≤ k → k < S.2.1 → bNV (S.2.2.1 k) (S.2.2.2.1 k)) ∧ (0 < S.2.1 → bNV S.2.2.2.2.1 S.2.2.2.2.2 ∧ ∀ k, 0 ≤ k → k < S.2.1 → S.2.2.1 k * S.2.2.2.2.2 ≤ S.2.2.2.2.1 * S.2.2.2.1 k)
theorem vU_b {F : Int → Int} {u : Int} (g : GdP F) (h : isU F u) : bNV (vU F u).1 (vU F u).2 := by
  obtain ⟨hc, C, s, hE, -⟩ := h
  rw [vU_e g hE]
  have b := sU_b g hc hE (Int.le_refl _)
  have hd := det_b (Elm_9 hE (eqU g hc).2.2.1 (by omega))
  have n1 := nu_n (n := sU F u C s (F 1)) (d := det4 C)
  have n2 := de_n (n := sU F u C s (F 1)) (d := det4 C)
  have n3 := (nu_e (n := sU F u C s (F 1)) hE.2.1).2.1
  show -62355744 ≤ nu _ _ ∧ nu _ _ ≤ 62355744 ∧ 0 < de _ _ ∧ de _ _ ≤ 157464
  omega
theorem le_tr {a b c d e f : Int} (hb : 0 < b) (hd : 0 < d) (hf : 0 < f) (h1 : a * d ≤ c * b) (h2 : c * f ≤ e * d) : a * f ≤ e * b := by
  have q1 := Int.mul_le_mul_of_nonneg_right h1 (Int.le_of_lt hf)
  have q2 := Int.mul_le_mul_of_nonneg_right h2 (Int.le_of_lt hb)
  have e1 : a * d * f = d * (a * f) := by ac_rfl
  have e2 : c * b * f = c * f * b := by ac_rfl
  have e3 : e * d * b = d * (e * b) := by ac_rfl
  rw [e1, e2] at q1
  rw [e3] at q2
  exact Int.le_of_mul_le_mul_left (Int.le_trans q1 q2) hd
theorem svA_g {S : Sv} {v : Int × Int} (h : SvG S) (hv : bNV v.1 v.2) : SvG (svA S v) := by
  obtain ⟨h1, h2, h3, h4, h5⟩ := h
  unfold svA
  by_cases z : notd S v
  · rw [bq_p z]
    exact ⟨h1, by show S.2.1 ≤ S.1 + 1; omega, fun e => by
      obtain ⟨k, hk, -⟩ := z
      have e2 : S.2.1 = 0 := e
      omega, h4, h5⟩
  · rw [bq_n z]
    refine ⟨by show 0 ≤ S.2.1 + 1; omega, by show S.2.1 + 1 ≤ S.1 + 1; omega, fun e => by
      have e2 : S.2.1 + 1 = 0 := e
      omega, fun k a b => ?_, fun _ => ?_⟩
    · have b2 : k < S.2.1 + 1 := b
      show bNV (updZ S.2.2.1 S.2.1 v.1 k) (updZ S.2.2.2.1 S.2.1 v.2 k)
      by_cases e : k = S.2.1
      · rw [e, updZ_s, updZ_s]; exact hv
      · rw [updZ_n e, updZ_n e]; exact h4 k a (by omega)
    · show bNV (bq (morS S v) v.1 S.2.2.2.2.1) (bq (morS S v) v.2 S.2.2.2.2.2) ∧ ∀ k, 0 ≤ k → k < S.2.1 + 1 → updZ S.2.2.1 S.2.1 v.1 k * bq (morS S v) v.2 S.2.2.2.2.2 ≤ bq (morS S v) v.1 S.2.2.2.2.1 * updZ S.2.2.2.1 S.2.1 v.2 k
      by_cases y : morS S v
      · rw [bq_p y, bq_p y]
        refine ⟨hv, fun k a b => ?_⟩
        by_cases e : k = S.2.1
        · rw [e, updZ_s, updZ_s]; exact Int.le_refl _
        · rw [updZ_n e, updZ_n e]
          rcases y with y | y
          · omega
          · obtain ⟨h6, h7⟩ := h5 (by omega)
            have h8 := h4 k a (by omega)
            exact le_tr h8.2.2.1 h6.2.2.1 hv.2.2.1 (h7 k a (by omega)) (Int.le_of_lt y)
      · rw [bq_n y, bq_n y]
        have y1 : ¬ S.2.1 = 0 := fun e => y (Or.inl e)
        have y2 : ¬ S.2.2.2.2.1 * v.2 < v.1 * S.2.2.2.2.2 := fun e => y (Or.inr e)
        obtain ⟨h6, h7⟩ := h5 (by omega)
        refine ⟨h6, fun k a b => ?_⟩
        by_cases e : k = S.2.1
        · rw [e, updZ_s, updZ_s]; omega
        · rw [updZ_n e, updZ_n e]
          exact h7 k a (by omega)
theorem svS_g {F : Int → Int} (g : GdP F) : ∀ u : Nat, SvG (svS F u) := by
  intro u
  induction u with
  | zero => exact ⟨Int.le_refl 0, Int.le_refl 0, fun _ => rfl, fun k a b => by
      have b2 : k < 0 := b
      omega, fun h => by
      have h2 : (0 : Int) < 0 := h
      omega⟩
  | succ u ih =>
    show SvG (bq (isU F u) (svA (svS F u) (vU F u)) (svS F u))
    by_cases h : isU F u
    · rw [bq_p h]; exact svA_g ih (vU_b g h)
    · rw [bq_n h]; exact ih
theorem svA_1 {S : Sv} {v : Int × Int} : (svA S v).1 = S.1 + 1 := by
  unfold svA
  by_cases z : notd S v
  · rw [bq_p z]
  · rw [bq_n z]
theorem svS_t {F : Int → Int} {u : Nat} (h : isU F u) : svS F (u + 1) = svA (svS F u) (vU F u) := bq_p h
theorem svS_f {F : Int → Int} {u : Nat} (h : ¬ isU F u) : svS F (u + 1) = svS F u := bq_n h
theorem svS_n {F : Int → Int} (g : GdP F) : ∀ u : Nat, u ≤ 2 ^ NF F → (svS F u).1 ≤ chN (F 1) u := by
  have g0 := g.1; have g1 := g.2.1
  have hN := NF_e g
  intro u
  induction u with
  | zero => intro _; exact Int.le_refl 0
  | succ u ih =>
    intro hu
    have h1 := ih (by omega)
    have h2 : chN (F 1) (u + 1) = if cntB (u : Nat) 8 = F 1 then chN (F 1) u + 1 else chN (F 1) u := rfl
    have h9 : 2 ^ NF F ≤ 256 := tw_d ⟨NF F, by omega⟩
    by_cases h : isU F u
    · rw [svS_t h, svA_1, h2]
      have h3 : cntB (u : Int) 8 = cntB (u : Int) (NF F) := ct_d ⟨u, by omega⟩ ⟨NF F, by omega⟩ (by show u < 2 ^ NF F; omega)
      rw [if_pos (h3.trans h.1)]
      omega
    · rw [svS_f h, h2]
      split <;> omega
theorem svS_m {F : Int → Int} {u : Nat} : ∀ k : Nat, (svS F u).1 ≤ (svS F (u + k)).1 := by
  intro k
  induction k with
  | zero => exact Int.le_refl _
  | succ k ih =>
    by_cases h : isU F (u + k : Nat)
    · rw [show u + (k + 1) = (u + k) + 1 from rfl, svS_t h, svA_1]; omega
    · rw [show u + (k + 1) = (u + k) + 1 from rfl, svS_f h]; exact ih
/-- the slacks are a feasible basis -/
theorem isU_s {F : Int → Int} (g : GdP F) : isU F ((2 ^ (F 0).toNat * (2 ^ (F 1).toNat - 1) : Nat) : Int) := by
  have g0 := g.1; have g1 := g.2.1
  have hN := NF_e g
  have h : cntB ((2 ^ (F 0).toNat * (2 ^ (F 1).toNat - 1) : Nat) : Int) ((F 0).toNat + (F 1).toNat) = ((F 1).toNat : Int) ∧ ∀ k : Fin 4, k.val < (F 1).toNat → nmB ((2 ^ (F 0).toNat * (2 ^ (F 1).toNat - 1) : Nat) : Int) ((F 0).toNat + (F 1).toNat) k.val = ((F 0).toNat : Int) + (k.val : Int) := sl_d ⟨(F 0).toNat, by omega⟩ ⟨(F 1).toNat, by omega⟩
  rw [show (F 0).toNat + (F 1).toNat = NF F by omega] at h
  have hcs : ∀ j, 0 ≤ j → j < F 1 → csU F ((2 ^ (F 0).toNat * (2 ^ (F 1).toNat - 1) : Nat) : Int) j = aF F (F 0 + j) := fun j a b => by
    have h1 : nmB ((2 ^ (F 0).toNat * (2 ^ (F 1).toNat - 1) : Nat) : Int) (NF F) ((j.toNat : Nat) : Int) = ((F 0).toNat : Int) + ((j.toNat : Nat) : Int) := h.2 ⟨j.toNat, by omega⟩ (by show j.toNat < (F 1).toNat; omega)
    rw [show (j.toNat : Int) = j by omega, show ((F 0).toNat : Int) = F 0 by omega] at h1
    unfold csU
    rw [h1]
  have hI := I_tt (C := fun i r => if i = r then 1 else 0) (fun i r _ _ => rfl)
  refine ⟨by rw [h.1]; omega, fun i r => if i = r then 1 else 0, fun j => j, ⟨⟨fun j a b => ⟨a, b⟩, fun i j _ _ _ _ e => e, fun j _ _ => rfl, fun j _ b => b⟩, by rw [hI.1]; decide, fun j i a b a2 b2 => ?_⟩, fun j a b => ?_⟩
  · show (if i = j then (1 : Int) else 0) = if j < F 1 then csU F ((2 ^ (F 0).toNat * (2 ^ (F 1).toNat - 1) : Nat) : Int) j i else if i = j then 1 else 0
    by_cases y : j < F 1
    · rw [if_pos y, hcs j a y]
      unfold aF
      by_cases z : i < F 1
      · rw [if_pos (show 0 ≤ i ∧ i < F 1 from ⟨a2, z⟩), if_neg (show ¬ F 0 + j < F 0 by omega), if_neg (show ¬ F 0 + j = F 0 + F 1 by omega)]
        by_cases x : i = j
        · rw [if_pos x, if_pos (show F 0 + j - F 0 = i by omega)]
        · rw [if_neg x, if_neg (show ¬ F 0 + j - F 0 = i by omega)]
      · rw [if_neg (show ¬ i = j by omega), if_neg (show ¬ (0 ≤ i ∧ i < F 1) by omega)]
    · rw [if_neg y]
  · rw [hI.1, Int.one_mul, hI.2 _ _ ⟨a, by omega⟩]
    unfold bsR aF
    rw [if_pos ⟨a, b⟩, if_neg (by omega), if_pos rfl]
    exact (g.2.2.2.2 j a (by omega)).1
theorem svS_1 {F : Int → Int} (g : GdP F) : 1 ≤ (svS F (2 ^ NF F)).1 ∧ 1 ≤ (svS F (2 ^ NF F)).2.1 := by
  have g0 := g.1; have g1 := g.2.1
  have hN := NF_e g
  have h := isU_s g
  have hr : 2 ^ (F 0).toNat * (2 ^ (F 1).toNat - 1) < 2 ^ ((F 0).toNat + (F 1).toNat) := sl_r ⟨(F 0).toNat, by omega⟩ ⟨(F 1).toNat, by omega⟩
  rw [show (F 0).toNat + (F 1).toNat = NF F by omega] at hr
  generalize hu : 2 ^ (F 0).toNat * (2 ^ (F 1).toNat - 1) = u at *
  have h1 : (svS F (u + 1)).1 = (svS F u).1 + 1 := by rw [svS_t h, svA_1]
  have h2 := svS_m (F := F) (u := u + 1) (2 ^ NF F - (u + 1))
  rw [show u + 1 + (2 ^ NF F - (u + 1)) = 2 ^ NF F by omega] at h2
  have h3 := svS_g g u
  have h4 := svS_g g (2 ^ NF F)
  have h5 := h3.1; have h6 := h3.2.1; have h7 := h4.1; have h8 := h4.2.2.1
  refine ⟨by omega, ?_⟩
  by_cases z : (svS F (2 ^ NF F)).2.1 = 0
  · have := h8 z
    omega
  · omega
end SY
