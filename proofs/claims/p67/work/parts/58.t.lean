section TE
/-! what the acts do: t is the answer, a what is told, F2 the numbers behind it -/
def Oc (K : Int) (F : Int → Int) (f : Nat → W0 → Option (Int × Int × W0)) (t a : Int) (F2 : Int → Int) : Prop :=
  (t = 0 ∧ Good (K + 40) F2 ∧ (-1000000000 ≤ a ∧ a ≤ 1000000000) ∧ ∀ d z, z.1 = F → LI K z → ClX d z (f d) 0 a (psh z F2)) ∨ (∃ e, ¬ e = 0 ∧ t = cdX e ∧ ∀ d z, z.1 = F → LI K z → ClX d z (f d) e 0 z)
section
variable {K : Int} {F : Int → Int} {p q x : Int}
theorem gd_bg {F1 : Int → Int} (h : Good K F) (g : GdP F1) (h26 : F1 26 = F 26) (h32 : F1 32 = F 32) (h33 : F1 33 = F 33) : Good (K + 40) (bgF F1) := by
  have h0 := h.2.2.2.1
  exact (Good_bg (K := K) (by omega) g (by rw [h26]; exact h.2.2.1) (by rw [h32]; exact h.2.2.2.2.1) (by rw [h33]; exact h.2.2.2.2.2)).mo (by omega)
theorem oc_setVariables (h : Good K F) (hp : R32 p) : ∃ t a F2, Oc K F (fun d => f_X8_setVariables d p) t a F2 := by
  have g0 := h.1.1
  by_cases hc : 1 ≤ p ∧ p ≤ 4
  · refine ⟨0, F 0, bgF (nvF F p), Or.inl ⟨rfl, gd_bg h (nvF_g h.1 hc) ?_ ?_ ?_, by omega, fun d z e hL => ?_⟩⟩
    · unfold nvF; rw [if_neg (by decide), if_neg (by omega), if_neg (by omega)]
    · unfold nvF; rw [if_neg (by decide), if_neg (by omega), if_neg (by omega)]
    · unfold nvF; rw [if_neg (by decide), if_neg (by omega), if_neg (by omega)]
    · subst e
      rcases c8_setVariables (d := d) hL hp with ⟨_, _, a⟩ | ⟨h9, _⟩
      · exact a
      · exact absurd hc h9
  · refine ⟨_, 0, F, Or.inr ⟨1, by decide, rfl, fun d z e hL => ?_⟩⟩
    subst e
    rcases c8_setVariables (d := d) hL hp with ⟨h8, h9, _⟩ | ⟨_, a⟩
    · exact absurd ⟨h8, h9⟩ hc
    · exact a
theorem oc_setProfit (h : Good K F) (hp : R32 p) (hq : R32 q) : ∃ t a F2, Oc K F (fun d => f_X8_setProfit d p q) t a F2 := by
  have g0 := h.1.1
  by_cases hc : 0 ≤ p ∧ p < F 0
  · have h9 := h.1.2.2.1 p hc.1 (by omega)
    by_cases h2 : B9 q
    · exact ⟨0, F (2 + p), bgF (updZ F (2 + p) q), Or.inl ⟨rfl, gd_bg h (up_g1 h.1 ⟨hc.1, by omega⟩ h2) (updZ_n (by omega)) (updZ_n (by omega)) (updZ_n (by omega)), by omega, fun d z e hL => by
        subst e; exact (c8_setProfit (d := d) hL hp hq).1 ⟨hc, h2⟩⟩⟩
    · exact ⟨_, 0, F, Or.inr ⟨1, by decide, rfl, fun d z e hL => by
        subst e; exact (c8_setProfit (d := d) hL hp hq).2.2 ⟨hc, h2⟩⟩⟩
  · exact ⟨_, 0, F, Or.inr ⟨3, by decide, rfl, fun d z e hL => by
      subst e; exact (c8_setProfit (d := d) hL hp hq).2.1 hc⟩⟩
theorem oc_addConstraint (h : Good K F) (hp : R32 p) : ∃ t a F2, Oc K F (fun d => f_X8_addConstraint d p) t a F2 := by
  have g1 := h.1.2.1
  by_cases hc : 0 ≤ p ∧ p ≤ 99
  · by_cases h2 : F 1 < 4
    · exact ⟨0, F 1, bgF (adF F p), Or.inl ⟨rfl, gd_bg h (adF_g h.1 h2 hc) (adF_k h.1 h2 (by decide)) (adF_k h.1 h2 (by decide)) (adF_k h.1 h2 (by decide)), by omega, fun d z e hL => by
        subst e; exact (c8_addConstraint (d := d) hL hp).1 ⟨hc, h2⟩⟩⟩
    · exact ⟨_, 0, F, Or.inr ⟨2, by decide, rfl, fun d z e hL => by
        subst e; exact (c8_addConstraint (d := d) hL hp).2.2 ⟨hc, h2⟩⟩⟩
  · exact ⟨_, 0, F, Or.inr ⟨1, by decide, rfl, fun d z e hL => by
      subst e; exact (c8_addConstraint (d := d) hL hp).2.1 hc⟩⟩
theorem oc_setCoefficient (h : Good K F) (hp : R32 p) (hq : R32 q) (hx : R32 x) : ∃ t a F2, Oc K F (fun d => f_X8_setCoefficient d p q x) t a F2 := by
  have g0 := h.1.1; have g1 := h.1.2.1
  by_cases hc : (0 ≤ p ∧ p < F 1) ∧ 0 ≤ q ∧ q < F 0
  · have h9 := h.1.2.2.2.1 p q hc.1.1 (by omega) hc.2.1 (by omega)
    by_cases h2 : B9 x
    · exact ⟨0, F (6 + 4 * p + q), bgF (updZ F (6 + 4 * p + q) x), Or.inl ⟨rfl, gd_bg h (up_g2 h.1 ⟨hc.1.1, by omega⟩ ⟨hc.2.1, by omega⟩ h2) (updZ_n (by omega)) (updZ_n (by omega)) (updZ_n (by omega)), by omega, fun d z e hL => by
        subst e; exact (c8_setCoefficient (d := d) hL hp hq hx).1 ⟨hc, h2⟩⟩⟩
    · exact ⟨_, 0, F, Or.inr ⟨1, by decide, rfl, fun d z e hL => by
        subst e; exact (c8_setCoefficient (d := d) hL hp hq hx).2.2 ⟨hc, h2⟩⟩⟩
  · exact ⟨_, 0, F, Or.inr ⟨3, by decide, rfl, fun d z e hL => by
      subst e; exact (c8_setCoefficient (d := d) hL hp hq hx).2.1 hc⟩⟩
theorem oc_setBound (h : Good K F) (hp : R32 p) (hq : R32 q) : ∃ t a F2, Oc K F (fun d => f_X8_setBound d p q) t a F2 := by
  have g1 := h.1.2.1
  by_cases hc : 0 ≤ p ∧ p < F 1
  · have h9 := h.1.2.2.2.2 p hc.1 (by omega)
    by_cases h2 : 0 ≤ q ∧ q ≤ 99
    · exact ⟨0, F (22 + p), bgF (updZ F (22 + p) q), Or.inl ⟨rfl, gd_bg h (up_g3 h.1 ⟨hc.1, by omega⟩ h2) (updZ_n (by omega)) (updZ_n (by omega)) (updZ_n (by omega)), by omega, fun d z e hL => by
        subst e; exact (c8_setBound (d := d) hL hp hq).1 ⟨hc, h2⟩⟩⟩
    · exact ⟨_, 0, F, Or.inr ⟨1, by decide, rfl, fun d z e hL => by
        subst e; exact (c8_setBound (d := d) hL hp hq).2.2 ⟨hc, h2⟩⟩⟩
  · exact ⟨_, 0, F, Or.inr ⟨3, by decide, rfl, fun d z e hL => by
      subst e; exact (c8_setBound (d := d) hL hp hq).2.1 hc⟩⟩
theorem oc_dropConstraint (h : Good K F) (hp : R32 p) : ∃ t a F2, Oc K F (fun d => f_X8_dropConstraint d p) t a F2 := by
  have g1 := h.1.2.1
  by_cases hc : 0 ≤ p ∧ p < F 1
  · exact ⟨0, F 1 - 1, bgF (drF F p), Or.inl ⟨rfl, gd_bg h (drF_g h.1 hc) (drF_k h.1 hc (by decide)) (drF_k h.1 hc (by decide)) (drF_k h.1 hc (by decide)), by omega, fun d z e hL => by
      subst e; exact (c8_dropConstraint (d := d) hL hp).1 hc⟩⟩
  · exact ⟨_, 0, F, Or.inr ⟨3, by decide, rfl, fun d z e hL => by
      subst e; exact (c8_dropConstraint (d := d) hL hp).2 hc⟩⟩
theorem oc_pivot (h : Good K F) (hp : R32 p) (hq : R32 q) : ∃ t a F2, Oc K F (fun d => f_X8_pivot d p q) t a F2 := by
  have g0 := h.1.1; have g1 := h.1.2.1
  by_cases hc : Plc F p q
  · have h9 := h.2.1.1 p hc.1.1 hc.1.2
    by_cases h2 : obF F p q = 0
    · exact ⟨0, F (27 + p), pvW F p q, Or.inl ⟨rfl, (pv_good h (obF_0 hc h2)).mo (by omega), by omega, fun d z e hL => by
        subst e; exact (c8_pivot (d := d) hL hp hq).1 ⟨hc, h2⟩⟩⟩
    · exact ⟨_, 0, F, Or.inr ⟨2, by decide, rfl, fun d z e hL => by
        subst e; exact (c8_pivot (d := d) hL hp hq).2.2 ⟨hc, h2⟩⟩⟩
  · exact ⟨_, 0, F, Or.inr ⟨3, by decide, rfl, fun d z e hL => by
      subst e; exact (c8_pivot (d := d) hL hp hq).2.1 hc⟩⟩
theorem oc_step (h : Good K F) : ∃ t a F2, Oc K F (fun d => f_X8_step d) t a F2 := by
  by_cases hc : opn F
  · have h9 := opn_pv h.1 hc
    have h8 := h9.2.1
    have g0 := h.1.1; have g1 := h.1.2.1
    exact ⟨0, chV F, stp F, Or.inl ⟨rfl, (pv_good h h9).mo (by omega), by omega, fun d z e hL => by
      subst e; exact (c8_step (d := d) hL).1 hc⟩⟩
  · exact ⟨_, 0, F, Or.inr ⟨2, by decide, rfl, fun d z e hL => by
      subst e; exact (c8_step (d := d) hL).2 hc⟩⟩
theorem oc_setRule (h : Good K F) (hp : R32 p) : ∃ t a F2, Oc K F (fun d => f_X8_setRule d p) t a F2 := by
  have h9 := h.2.2.1
  by_cases hc : 0 ≤ p ∧ p ≤ 2
  · exact ⟨0, F 26, updZ F 26 p, Or.inl ⟨rfl, (rl_good h hc).mo (by omega), by omega, fun d z e hL => by
      subst e; exact (c8_setRule (d := d) hL hp).1 hc⟩⟩
  · exact ⟨_, 0, F, Or.inr ⟨1, by decide, rfl, fun d z e hL => by
      subst e; exact (c8_setRule (d := d) hL hp).2 hc⟩⟩
theorem lift_I {d : Nat} {z z' : St} {f : W0 → Option (Int × W0)} {v : Int} (h : ClI d z f v z') : ClX d z (fun c => match f c with | none => none | some r => some ((0 : Int), r.1, r.2)) 0 v z' := fun c hC => by
  obtain ⟨c1, e, h1, h2⟩ := h c hC
  refine ⟨c1, ?_, h1, h2⟩
  try dsimp only
  rw [e]
theorem oc_solve (h : Good K F) : ∃ t a F2, Oc K F (fun d c => match f_X8_solve d c with | none => none | some r => some ((0 : Int), r.1, r.2)) t a F2 := by
  have h9 := slF_r 40 F
  exact ⟨0, (slF 40 F).1, (slF 40 F).2, Or.inl ⟨rfl, slF_g 40 h, by omega, fun d z e hL => by
    subst e; exact lift_I (c8_solve (d := d) hL)⟩⟩
theorem oc_begin (h : Good K F) (hK : K ≤ 1000000) : ∃ t a F2, Oc K F (fun d c => match f_X8_begin d c with | none => none | some r => some ((0 : Int), r.1, r.2)) t a F2 := by
  have h9 := h.2.2.2.1
  exact ⟨0, F 31, bgF F, Or.inl ⟨rfl, gd_bg h h.1 rfl rfl rfl, by omega, fun d z e hL => by
    subst e; exact lift_I (c8_begin (d := d) hL)⟩⟩
theorem Oc_e {f f' : Nat → W0 → Option (Int × Int × W0)} (e : ∀ d c, f d c = f' d c) (h : ∃ t a F2, Oc K F f' t a F2) : ∃ t a F2, Oc K F f t a F2 := by
  have : f = f' := funext fun d => funext fun c => e d c
  rw [this]
  exact h
theorem oc_chR {how p3 p4 p5 : Int} (h : Good K F) (hK : K ≤ 1000000) (h3 : R32 p3) (h4 : R32 p4) (h5 : R32 p5) : ∃ t a F2, Oc K F (fun d c => chR d how p3 p4 p5 c) t a F2 := by
  by_cases q0 : how = 0
  · exact Oc_e (fun d c => by unfold chR; rw [bq_p q0]) (oc_setVariables h h3)
  by_cases q1 : how = 1
  · exact Oc_e (fun d c => by unfold chR; rw [bq_n q0, bq_p q1]) (oc_setProfit h h3 h4)
  by_cases q2 : how = 2
  · exact Oc_e (fun d c => by unfold chR; rw [bq_n q0, bq_n q1, bq_p q2]) (oc_addConstraint h h3)
  by_cases q3 : how = 3
  · exact Oc_e (fun d c => by unfold chR; rw [bq_n q0, bq_n q1, bq_n q2, bq_p q3]) (oc_setCoefficient h h3 h4 h5)
  by_cases q4 : how = 4
  · exact Oc_e (fun d c => by unfold chR; rw [bq_n q0, bq_n q1, bq_n q2, bq_n q3, bq_p q4]) (oc_setBound h h3 h4)
  by_cases q5 : how = 5
  · exact Oc_e (fun d c => by unfold chR; rw [bq_n q0, bq_n q1, bq_n q2, bq_n q3, bq_n q4, bq_p q5]) (oc_dropConstraint h h3)
  by_cases q6 : how = 6
  · exact Oc_e (fun d c => by unfold chR; rw [bq_n q0, bq_n q1, bq_n q2, bq_n q3, bq_n q4, bq_n q5, bq_p q6]) (oc_pivot h h3 h4)
  by_cases q7 : how = 7
  · exact Oc_e (fun d c => by unfold chR; rw [bq_n q0, bq_n q1, bq_n q2, bq_n q3, bq_n q4, bq_n q5, bq_n q6, bq_p q7]) (oc_step h)
  by_cases q8 : how = 8
  · exact Oc_e (fun d c => by unfold chR; rw [bq_n q0, bq_n q1, bq_n q2, bq_n q3, bq_n q4, bq_n q5, bq_n q6, bq_n q7, bq_p q8]; cases f_X8_solve d c <;> rfl) (oc_solve h)
  by_cases q9 : how = 9
  · exact Oc_e (fun d c => by unfold chR; rw [bq_n q0, bq_n q1, bq_n q2, bq_n q3, bq_n q4, bq_n q5, bq_n q6, bq_n q7, bq_n q8, bq_p q9]) (oc_setRule h h3)
  exact Oc_e (fun d c => by unfold chR; rw [bq_n q0, bq_n q1, bq_n q2, bq_n q3, bq_n q4, bq_n q5, bq_n q6, bq_n q7, bq_n q8, bq_n q9]; cases f_X8_begin d c <;> rfl) (oc_begin h hK)
theorem cdX_n (e : Int) : ¬ cdX e = 0 ∧ 0 ≤ cdX e ∧ cdX e ≤ 3 := by
  unfold cdX
  split
  · decide
  · split <;> decide
/-- what holds behind an act of a desk at d, out at 210 -/
def ActO (F : Int → Int) (K : Int) (G : Nat → W0 → Option (Int × W0)) (t a : Int) (F2 : Int → Int) : Prop :=
  (t = 0 → Good (K + 40) F2) ∧ (0 ≤ t ∧ t ≤ 3) ∧ R32 a ∧ ∀ d z c, d + 105 ≤ 210 → z.1 = F → LI K z → CI d z c → ∃ c1, G d c = some (t, c1) ∧ (∀ q, (q < d ∨ d + 105 ≤ q) → q ≠ 210 → c1 q = c q) ∧ ((t = 0 ∧ CI d (psh z F2) c1 ∧ c1 210 0 = a) ∨ (¬ t = 0 ∧ CI d z c1))
theorem chg_o {how p3 p4 p5 : Int} (h : Good K F) (hK : K ≤ 1000000) (h2 : R32 how) (h3 : R32 p3) (h4 : R32 p4) (h5 : R32 p5) : ∃ t a F2, ActO F K (fun d c => f_L_changes d how p3 p4 p5 210 c) t a F2 := by
  obtain ⟨t, a, F2, hO⟩ := oc_chR (how := how) h hK h3 h4 h5
  rcases hO with ⟨rfl, h6, h7, h8⟩ | ⟨e, e0, rfl, h8⟩
  · refine ⟨0, a, F2, fun _ => h6, by decide, ⟨by omega, by omega⟩, fun d z c hd hz hL hC => ?_⟩
    obtain ⟨c1, e1, e2, e3⟩ := h8 d z hz hL c hC
    refine ⟨upc c1 210 (updZ (c1 210) 0 a), ?_, fun q hq hn => ?_, Or.inl ⟨rfl, ?_, ?_⟩⟩
    · refine (gd_t h2).trans ?_
      show chE 210 (chR d how p3 p4 p5 c) = _
      have e1 : chR d how p3 p4 p5 c = some (0, a, c1) := e1
      rw [e1]
      exact bq_p rfl
    · rw [upc_n hn]
      exact e2 q hq
    · exact CI_fr e3 (fun q a b => upc_n (by omega))
    · rw [upc_s, updZ_s]
  · have hcd := cdX_n e
    refine ⟨cdX e, 0, F, fun z => absurd z hcd.1, hcd.2, by decide, fun d z c hd hz hL hC => ?_⟩
    obtain ⟨c1, e1, e2, e3⟩ := h8 d z hz hL c hC
    refine ⟨c1, ?_, fun q hq _ => e2 q hq, Or.inr ⟨hcd.1, e3⟩⟩
    refine (gd_t h2).trans ?_
    show chE 210 (chR d how p3 p4 p5 c) = _
    have e1 : chR d how p3 p4 p5 c = some (e, 0, c1) := e1
    rw [e1]
    exact bq_n e0
end
/-! which act a cell means -/
theorem and31 (x : Int) : 0 ≤ iandZ x 2147483647 ∧ iandZ x 2147483647 ≤ 2147483647 := by
  unfold iandZ
  have h1 : (i32 x &&& i32 2147483647).toBitVec.toNat ≤ 2147483647 := by
    rw [Int32.toBitVec_and, BitVec.toNat_and]
    exact Nat.le_trans Nat.and_le_right (by decide)
  have h2 : (i32 x &&& i32 2147483647).toInt = ((i32 x &&& i32 2147483647).toBitVec.toNat : Int) := BitVec.toInt_eq_toNat_of_lt (by omega)
  omega
theorem and1 (x : Int) : 0 ≤ iandZ x 1 ∧ iandZ x 1 ≤ 1 := by
  unfold iandZ
  have h1 : (i32 x &&& i32 1).toBitVec.toNat ≤ 1 := by
    rw [Int32.toBitVec_and, BitVec.toNat_and]
    exact Nat.le_trans Nat.and_le_right (by decide)
  have h2 : (i32 x &&& i32 1).toInt = ((i32 x &&& i32 1).toBitVec.toNat : Int) := BitVec.toInt_eq_toNat_of_lt (by omega)
  omega
theorem low_e (x : Int) {n : Int} (hn : 0 < n ∧ n ≤ 2147483647) : ∃ r, f_L_low x n = some r ∧ 0 ≤ r ∧ r < n := by
  have h := and31 x
  refine ⟨_, ?_, Int.tmod_nonneg n h.1, Int.tmod_lt_of_pos _ hn.1⟩
  unfold f_L_low
  exact gd_t ⟨by omega, ⟨by omega, by omega⟩, by omega, by omega⟩
theorem td4 {x : Int} (h : 0 ≤ x ∧ x ≤ 4) : 0 ≤ Int.tdiv x 4 ∧ Int.tdiv x 4 ≤ 1 := by
  rw [Int.tdiv_eq_ediv_of_nonneg h.1]
  omega
section
variable {n m : Int}
def VV (n m : Int) (d : Nat) (c : W0) : Prop := f_X8_variables d c = some n ∧ f_X8_constraints d c = some m
/-- the act is some change, the same for all worlds with n variables and m constraints -/
def TT (n m : Int) (G : Nat → W0 → Option (Int × W0)) : Prop := ∃ how a b e, (R32 how ∧ R32 a ∧ R32 b ∧ R32 e) ∧ ∀ d c, VV n m d c → G d c = f_L_changes d how a b e 210 c
theorem fs_gd {P : Prop} {G : Nat → W0 → Option (Int × W0)} (h : P) (k : TT n m G) : TT n m (fun d c => gd P (G d c)) := by
  obtain ⟨a, b, e, f, h1, h2⟩ := k
  exact ⟨a, b, e, f, h1, fun d c hV => (gd_t h).trans (h2 d c hV)⟩
theorem fs_p {P : Prop} {G G' : Nat → W0 → Option (Int × W0)} (h : P) (k : TT n m G) : TT n m (fun d c => bq P (G d c) (G' d c)) := by
  obtain ⟨a, b, e, f, h1, h2⟩ := k
  exact ⟨a, b, e, f, h1, fun d c hV => (bq_p h).trans (h2 d c hV)⟩
theorem fs_q {P : Prop} {G G' : Nat → W0 → Option (Int × W0)} (h : ¬ P) (k : TT n m G') : TT n m (fun d c => bq P (G d c) (G' d c)) := by
  obtain ⟨a, b, e, f, h1, h2⟩ := k
  exact ⟨a, b, e, f, h1, fun d c hV => (bq_n h).trans (h2 d c hV)⟩
theorem fs_cv {o : Option Int} {r : Int} {G : Int → Nat → W0 → Option (Int × W0)} (h : o = some r) (k : TT n m (fun d c => G r d c)) : TT n m (fun d c => cv o (fun x => G x d c)) := by
  obtain ⟨a, b, e, f, h1, h2⟩ := k
  exact ⟨a, b, e, f, h1, fun d c hV => by show cv o (fun x => G x d c) = _; rw [h, cv_s]; exact h2 d c hV⟩
theorem fs_vv {G : Int → Nat → W0 → Option (Int × W0)} (k : TT n m (fun d c => G n d c)) : TT n m (fun d c => cv (f_X8_variables d c) (fun x => G x d c)) := by
  obtain ⟨a, b, e, f, h1, h2⟩ := k
  exact ⟨a, b, e, f, h1, fun d c hV => by show cv (f_X8_variables d c) (fun x => G x d c) = _; rw [hV.1, cv_s]; exact h2 d c hV⟩
theorem fs_m {G : Int → Nat → W0 → Option (Int × W0)} (k : TT n m (fun d c => G m d c)) : TT n m (fun d c => cv (f_X8_constraints d c) (fun x => G x d c)) := by
  obtain ⟨a, b, e, f, h1, h2⟩ := k
  exact ⟨a, b, e, f, h1, fun d c hV => by show cv (f_X8_constraints d c) (fun x => G x d c) = _; rw [hV.2, cv_s]; exact h2 d c hV⟩
theorem fs_jP {α : Type} {f : Nat → W0 → (α → Option (Int × W0)) → Option (Int × W0)} {k : α → Nat → W0 → Option (Int × W0)} (P : α → Prop) (hk : ∀ x, P x → TT n m (fun d c => k x d c)) (hf : ∀ k' : α → Nat → W0 → Option (Int × W0), (∀ x, P x → TT n m (fun d c => k' x d c)) → TT n m (fun d c => f d c (fun x => k' x d c))) : TT n m (fun d c => jn (fun x => k x d c) (f d c)) := hf k hk
theorem fs_l {h a b e : Int} (h1 : R32 h) (h2 : R32 a) (h3 : R32 b) (h4 : R32 e) : TT n m (fun d c => cl (f_L_changes d h a b e 210 c) fun v c1 => some ((v : Int), c1)) := ⟨h, a, b, e, ⟨h1, h2, h3, h4⟩, fun d c _ => by
  show cl (f_L_changes d h a b e 210 c) (fun v c1 => some ((v : Int), c1)) = _
  unfold cl
  cases f_L_changes d h a b e 210 c <;> rfl⟩
set_option maxHeartbeats 4000000 in
theorem act_e {v : Int} (hn : 1 ≤ n ∧ n ≤ 4) (hm : 0 ≤ m ∧ m ≤ 4) : TT n m (fun d c => f_L_act d v 210 c) := by
  unfold f_L_act
  obtain ⟨r1, er1, hr1⟩ := low_e (ishrZ v 22) (n := 9) (by omega)
  refine fs_cv er1 ?_
  refine fs_gd (by omega) ?_
  refine fs_jP (fun (y : Int) => y = 0 ∨ y = 1) (fun x2 hx2 => ?_) (fun k2_1 hk2_1 => ?_)
  · skip
    obtain ⟨r3, er3, hr3⟩ := low_e v (n := 30) (by omega)
    refine fs_cv er3 ?_
    refine fs_m ?_
    refine fs_gd (by omega) ?_
    refine fs_jP (fun (_ : Unit) => True) (fun x4 hx4 => ?_) (fun k6_3 hk6_3 => ?_)
    · skip
      obtain ⟨r5, er5, hr5⟩ := low_e (ishrZ v 5) (n := (m + 1)) (by omega)
      refine fs_cv er5 ?_
      refine fs_vv ?_
      refine fs_gd (by omega) ?_
      refine fs_jP (fun (y : Int) => y = 0 ∨ y = 1) (fun x6 hx6 => ?_) (fun k10_5 hk10_5 => ?_)
      · skip
        obtain ⟨r7, er7, hr7⟩ := low_e (ishrZ (ishrZ v 5) 3) (n := (n + x6)) (by omega)
        refine fs_cv er7 ?_
        refine fs_gd (by omega) ?_
        by_cases q8 : 4 ≤ r3
        · refine fs_p q8 ?_
          refine fs_gd (by omega) ?_
          by_cases q9 : 8 ≤ r3
          · refine fs_p q9 ?_
            refine fs_gd (by omega) ?_
            by_cases q10 : 16 ≤ r3
            · refine fs_p q10 ?_
              refine fs_gd (by omega) ?_
              by_cases q11 : 20 ≤ r3
              · refine fs_p q11 ?_
                refine fs_gd (by omega) ?_
                by_cases q12 : 24 ≤ r3
                · refine fs_p q12 ?_
                  refine fs_gd (by omega) ?_
                  by_cases q13 : 28 ≤ r3
                  · refine fs_p q13 ?_
                    refine fs_gd (by omega) ?_
                    refine fs_jP (fun (y : Int) => y = 10 ∨ y = 8) (fun x14 hx14 => ?_) (fun k13_13 hk13_13 => ?_)
                    · skip
                      exact fs_l (by omega) (by omega) (by omega) (by omega)
                    · skip
                      by_cases q15 : r3 = 28
                      · refine fs_p q15 ?_
                        exact hk13_13 8 (by omega)
                      · refine fs_q q15 ?_
                        exact hk13_13 10 (by omega)
                  · refine fs_q q13 ?_
                    exact fs_l (by omega) (by omega) (by omega) (by omega)
                · refine fs_q q12 ?_
                  refine fs_vv ?_
                  refine fs_m ?_
                  refine fs_gd (by omega) ?_
                  refine fs_jP (fun (y : Int) => y = 0 ∨ y = 1) (fun x16 hx16 => ?_) (fun k21_15 hk21_15 => ?_)
                  · skip
                    obtain ⟨r17, er17, hr17⟩ := low_e (ishrZ (ishrZ v 5) 3) (n := ((n + m) + x16)) (by omega)
                    refine fs_cv er17 ?_
                    exact fs_l (by omega) (by omega) (by omega) (by omega)
                  · skip
                    by_cases q18 : x2 = 0
                    · refine fs_p q18 ?_
                      exact hk21_15 1 (by omega)
                    · refine fs_q q18 ?_
                      exact hk21_15 0 (by omega)
              · refine fs_q q11 ?_
                refine fs_gd (by omega) ?_
                by_cases q19 : r3 = 16
                · refine fs_p q19 ?_
                  obtain ⟨r20, er20, hr20⟩ := low_e (ishrZ v 5) (n := 5) (by omega)
                  refine fs_cv er20 ?_
                  refine fs_gd (by omega) ?_
                  refine fs_jP (fun (y : Int) => y = 0 ∨ y = 1) (fun x21 hx21 => ?_) (fun k39_20 hk39_20 => ?_)
                  · skip
                    obtain ⟨r22, er22, hr22⟩ := low_e (ishrZ v 5) (n := 5) (by omega)
                    refine fs_cv er22 ?_
                    refine fs_gd (by omega) ?_
                    have ht := td4 (x := r22) (by omega)
                    exact fs_l (by omega) (by omega) (by omega) (by omega)
                  · skip
                    by_cases q23 : x2 = 0
                    · refine fs_p q23 ?_
                      exact hk39_20 0 (by omega)
                    · refine fs_q q23 ?_
                      exact hk39_20 1 (by omega)
                · refine fs_q q19 ?_
                  refine fs_gd (by omega) ?_
                  by_cases q24 : r3 = 17
                  · refine fs_p q24 ?_
                    refine fs_gd (by omega) ?_
                    refine fs_jP (fun (y : Int) => y = 100 ∨ y = 120) (fun x25 hx25 => ?_) (fun k33_24 hk33_24 => ?_)
                    · skip
                      obtain ⟨r26, er26, hr26⟩ := low_e (ishrZ (ishrZ v 5) 3) (n := x25) (by omega)
                      refine fs_cv er26 ?_
                      exact fs_l (by omega) (by omega) (by omega) (by omega)
                    · skip
                      by_cases q27 : x2 = 0
                      · refine fs_p q27 ?_
                        exact hk33_24 120 (by omega)
                      · refine fs_q q27 ?_
                        exact hk33_24 100 (by omega)
                  · refine fs_q q24 ?_
                    refine fs_gd (by omega) ?_
                    by_cases q28 : r3 = 18
                    · refine fs_p q28 ?_
                      exact fs_l (by omega) (by omega) (by omega) (by omega)
                    · refine fs_q q28 ?_
                      refine fs_gd (by omega) ?_
                      refine fs_jP (fun (y : Int) => y = 3 ∨ y = 5) (fun x29 hx29 => ?_) (fun k26_28 hk26_28 => ?_)
                      · skip
                        obtain ⟨r30, er30, hr30⟩ := low_e (ishrZ v 5) (n := x29) (by omega)
                        refine fs_cv er30 ?_
                        exact fs_l (by omega) (by omega) (by omega) (by omega)
                      · skip
                        by_cases q31 : x2 = 0
                        · refine fs_p q31 ?_
                          exact hk26_28 5 (by omega)
                        · refine fs_q q31 ?_
                          exact hk26_28 3 (by omega)
            · refine fs_q q10 ?_
              refine fs_gd (by omega) ?_
              refine fs_jP (fun (y : Int) => y = 14 ∨ y = 30) (fun x32 hx32 => ?_) (fun k44_31 hk44_31 => ?_)
              · skip
                obtain ⟨r33, er33, hr33⟩ := low_e (ishrZ (ishrZ v 5) 6) (n := x32) (by omega)
                refine fs_cv er33 ?_
                exact fs_l (by omega) (by omega) (by omega) (by omega)
              · skip
                by_cases q34 : x2 = 0
                · refine fs_p q34 ?_
                  exact hk44_31 30 (by omega)
                · refine fs_q q34 ?_
                  exact hk44_31 14 (by omega)
          · refine fs_q q9 ?_
            refine fs_gd (by omega) ?_
            refine fs_jP (fun (y : Int) => y = 100 ∨ y = 120) (fun x35 hx35 => ?_) (fun k49_34 hk49_34 => ?_)
            · skip
              obtain ⟨r36, er36, hr36⟩ := low_e (ishrZ v 5) (n := x35) (by omega)
              refine fs_cv er36 ?_
              exact fs_l (by omega) (by omega) (by omega) (by omega)
            · skip
              by_cases q37 : x2 = 0
              · refine fs_p q37 ?_
                exact hk49_34 120 (by omega)
              · refine fs_q q37 ?_
                exact hk49_34 100 (by omega)
        · refine fs_q q8 ?_
          refine fs_gd (by omega) ?_
          refine fs_jP (fun (y : Int) => y = 13 ∨ y = 30) (fun x38 hx38 => ?_) (fun k54_37 hk54_37 => ?_)
          · skip
            obtain ⟨r39, er39, hr39⟩ := low_e (ishrZ (ishrZ v 5) 6) (n := x38) (by omega)
            refine fs_cv er39 ?_
            exact fs_l (by omega) (by omega) (by omega) (by omega)
          · skip
            by_cases q40 : x2 = 0
            · refine fs_p q40 ?_
              exact hk54_37 30 (by omega)
            · refine fs_q q40 ?_
              exact hk54_37 13 (by omega)
      · skip
        by_cases q41 : x2 = 0
        · refine fs_p q41 ?_
          exact hk10_5 1 (by omega)
        · refine fs_q q41 ?_
          exact hk10_5 0 (by omega)
    · skip
      by_cases q42 : x2 = 0
      · refine fs_p q42 ?_
        exact hk6_3 () trivial
      · refine fs_q q42 ?_
        refine fs_m ?_
        refine fs_gd (by omega) ?_
        by_cases q43 : m ≤ 0
        · refine fs_p q43 ?_
          exact hk6_3 () trivial
        · refine fs_q q43 ?_
          obtain ⟨r44, er44, hr44⟩ := low_e (ishrZ v 5) (n := (m + 0)) (by omega)
          refine fs_cv er44 ?_
          refine fs_vv ?_
          refine fs_gd (by omega) ?_
          refine fs_jP (fun (y : Int) => y = 0 ∨ y = 1) (fun x45 hx45 => ?_) (fun k62_44 hk62_44 => ?_)
          · skip
            obtain ⟨r46, er46, hr46⟩ := low_e (ishrZ (ishrZ v 5) 3) (n := (n + x45)) (by omega)
            refine fs_cv er46 ?_
            refine fs_gd (by omega) ?_
            by_cases q47 : 4 ≤ r3
            · refine fs_p q47 ?_
              refine fs_gd (by omega) ?_
              by_cases q48 : 8 ≤ r3
              · refine fs_p q48 ?_
                refine fs_gd (by omega) ?_
                by_cases q49 : 16 ≤ r3
                · refine fs_p q49 ?_
                  refine fs_gd (by omega) ?_
                  by_cases q50 : 20 ≤ r3
                  · refine fs_p q50 ?_
                    refine fs_gd (by omega) ?_
                    by_cases q51 : 24 ≤ r3
                    · refine fs_p q51 ?_
                      refine fs_gd (by omega) ?_
                      by_cases q52 : 28 ≤ r3
                      · refine fs_p q52 ?_
                        refine fs_gd (by omega) ?_
                        refine fs_jP (fun (y : Int) => y = 10 ∨ y = 8) (fun x53 hx53 => ?_) (fun k65_52 hk65_52 => ?_)
                        · skip
                          exact fs_l (by omega) (by omega) (by omega) (by omega)
                        · skip
                          by_cases q54 : r3 = 28
                          · refine fs_p q54 ?_
                            exact hk65_52 8 (by omega)
                          · refine fs_q q54 ?_
                            exact hk65_52 10 (by omega)
                      · refine fs_q q52 ?_
                        exact fs_l (by omega) (by omega) (by omega) (by omega)
                    · refine fs_q q51 ?_
                      refine fs_vv ?_
                      refine fs_m ?_
                      refine fs_gd (by omega) ?_
                      refine fs_jP (fun (y : Int) => y = 0 ∨ y = 1) (fun x55 hx55 => ?_) (fun k73_54 hk73_54 => ?_)
                      · skip
                        obtain ⟨r56, er56, hr56⟩ := low_e (ishrZ (ishrZ v 5) 3) (n := ((n + m) + x55)) (by omega)
                        refine fs_cv er56 ?_
                        exact fs_l (by omega) (by omega) (by omega) (by omega)
                      · skip
                        by_cases q57 : x2 = 0
                        · refine fs_p q57 ?_
                          exact hk73_54 1 (by omega)
                        · refine fs_q q57 ?_
                          exact hk73_54 0 (by omega)
                  · refine fs_q q50 ?_
                    refine fs_gd (by omega) ?_
                    by_cases q58 : r3 = 16
                    · refine fs_p q58 ?_
                      obtain ⟨r59, er59, hr59⟩ := low_e (ishrZ v 5) (n := 5) (by omega)
                      refine fs_cv er59 ?_
                      refine fs_gd (by omega) ?_
                      refine fs_jP (fun (y : Int) => y = 0 ∨ y = 1) (fun x60 hx60 => ?_) (fun k91_59 hk91_59 => ?_)
                      · skip
                        obtain ⟨r61, er61, hr61⟩ := low_e (ishrZ v 5) (n := 5) (by omega)
                        refine fs_cv er61 ?_
                        refine fs_gd (by omega) ?_
                        have ht := td4 (x := r61) (by omega)
                        exact fs_l (by omega) (by omega) (by omega) (by omega)
                      · skip
                        by_cases q62 : x2 = 0
                        · refine fs_p q62 ?_
                          exact hk91_59 0 (by omega)
                        · refine fs_q q62 ?_
                          exact hk91_59 1 (by omega)
                    · refine fs_q q58 ?_
                      refine fs_gd (by omega) ?_
                      by_cases q63 : r3 = 17
                      · refine fs_p q63 ?_
                        refine fs_gd (by omega) ?_
                        refine fs_jP (fun (y : Int) => y = 100 ∨ y = 120) (fun x64 hx64 => ?_) (fun k85_63 hk85_63 => ?_)
                        · skip
                          obtain ⟨r65, er65, hr65⟩ := low_e (ishrZ (ishrZ v 5) 3) (n := x64) (by omega)
                          refine fs_cv er65 ?_
                          exact fs_l (by omega) (by omega) (by omega) (by omega)
                        · skip
                          by_cases q66 : x2 = 0
                          · refine fs_p q66 ?_
                            exact hk85_63 120 (by omega)
                          · refine fs_q q66 ?_
                            exact hk85_63 100 (by omega)
                      · refine fs_q q63 ?_
                        refine fs_gd (by omega) ?_
                        by_cases q67 : r3 = 18
                        · refine fs_p q67 ?_
                          exact fs_l (by omega) (by omega) (by omega) (by omega)
                        · refine fs_q q67 ?_
                          refine fs_gd (by omega) ?_
                          refine fs_jP (fun (y : Int) => y = 3 ∨ y = 5) (fun x68 hx68 => ?_) (fun k78_67 hk78_67 => ?_)
                          · skip
                            obtain ⟨r69, er69, hr69⟩ := low_e (ishrZ v 5) (n := x68) (by omega)
                            refine fs_cv er69 ?_
                            exact fs_l (by omega) (by omega) (by omega) (by omega)
                          · skip
                            by_cases q70 : x2 = 0
                            · refine fs_p q70 ?_
                              exact hk78_67 5 (by omega)
                            · refine fs_q q70 ?_
                              exact hk78_67 3 (by omega)
                · refine fs_q q49 ?_
                  refine fs_gd (by omega) ?_
                  refine fs_jP (fun (y : Int) => y = 14 ∨ y = 30) (fun x71 hx71 => ?_) (fun k96_70 hk96_70 => ?_)
                  · skip
                    obtain ⟨r72, er72, hr72⟩ := low_e (ishrZ (ishrZ v 5) 6) (n := x71) (by omega)
                    refine fs_cv er72 ?_
                    exact fs_l (by omega) (by omega) (by omega) (by omega)
                  · skip
                    by_cases q73 : x2 = 0
                    · refine fs_p q73 ?_
                      exact hk96_70 30 (by omega)
                    · refine fs_q q73 ?_
                      exact hk96_70 14 (by omega)
              · refine fs_q q48 ?_
                refine fs_gd (by omega) ?_
                refine fs_jP (fun (y : Int) => y = 100 ∨ y = 120) (fun x74 hx74 => ?_) (fun k101_73 hk101_73 => ?_)
                · skip
                  obtain ⟨r75, er75, hr75⟩ := low_e (ishrZ v 5) (n := x74) (by omega)
                  refine fs_cv er75 ?_
                  exact fs_l (by omega) (by omega) (by omega) (by omega)
                · skip
                  by_cases q76 : x2 = 0
                  · refine fs_p q76 ?_
                    exact hk101_73 120 (by omega)
                  · refine fs_q q76 ?_
                    exact hk101_73 100 (by omega)
            · refine fs_q q47 ?_
              refine fs_gd (by omega) ?_
              refine fs_jP (fun (y : Int) => y = 13 ∨ y = 30) (fun x77 hx77 => ?_) (fun k106_76 hk106_76 => ?_)
              · skip
                obtain ⟨r78, er78, hr78⟩ := low_e (ishrZ (ishrZ v 5) 6) (n := x77) (by omega)
                refine fs_cv er78 ?_
                exact fs_l (by omega) (by omega) (by omega) (by omega)
              · skip
                by_cases q79 : x2 = 0
                · refine fs_p q79 ?_
                  exact hk106_76 30 (by omega)
                · refine fs_q q79 ?_
                  exact hk106_76 13 (by omega)
          · skip
            by_cases q80 : x2 = 0
            · refine fs_p q80 ?_
              exact hk62_44 1 (by omega)
            · refine fs_q q80 ?_
              exact hk62_44 0 (by omega)
  · skip
    by_cases q81 : r1 ≤ 0
    · refine fs_p q81 ?_
      exact hk2_1 0 (by omega)
    · refine fs_q q81 ?_
      exact hk2_1 1 (by omega)
end
theorem act_o {K : Int} {F : Int → Int} {v : Int} (h : Good K F) (hK : K ≤ 1000000) : ∃ t a F2, ActO F K (fun d c => f_L_act d v 210 c) t a F2 := by
  have g0 := h.1.1; have g1 := h.1.2.1
  obtain ⟨how, x, y, w, ⟨r1, r2, r3, r4⟩, e⟩ := act_e (n := F 0) (m := F 1) (v := v) ⟨by omega, by omega⟩ ⟨by omega, by omega⟩
  obtain ⟨t, a, F2, h1, h2, h3, h4⟩ := chg_o (how := how) h hK r1 r2 r3 r4
  refine ⟨t, a, F2, h1, h2, h3, fun d z c hd hz hL hC => ?_⟩
  obtain ⟨c1, e1, e2⟩ := h4 d z c hd hz hL hC
  refine ⟨c1, ?_, e2⟩
  exact (e d c ⟨by rw [← hz]; exact c8_variables hC, by rw [← hz]; exact c8_constraints hC⟩).trans e1
end TE
