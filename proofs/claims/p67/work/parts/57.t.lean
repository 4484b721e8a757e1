section TC6
section
variable {S : W0 → Prop} {d : Nat} {z : St} {K : Int}
theorem bas_82 {T : Option (Int × W0) → Prop} {κ : Int → W0 → Option (Int × W0)} (hA : SOK d z S) (hL : LI K z) (hκ : ∀ c1, S c1 → T (κ 1 c1)) : ∀ (k fuel : Nat) (r : Int) (c : W0), r + k = z.1 1 → 0 ≤ r → k + 1 ≤ fuel → S c → T (f_L_areBasesSo_82 d κ fuel 1 r c) := by
  have g := hL.1.1
  have g0 := g.1; have g1 := g.2.1
  have hb := hL.1.2.1
  intro k
  induction k with
  | zero =>
    intro fuel r c hl h0 hf hS
    obtain ⟨f, rfl⟩ : ∃ f, fuel = f + 1 := ⟨fuel - 1, by omega⟩
    rw [f_L_areBasesSo_82_s]
    unfold b_L_areBasesSo_82
    refine st_cp (hA.p (fun c => c8_constraints)) hS ?_
    refine st_gd ⟨by omega, by omega⟩ ?_
    refine st_p (by omega) ?_
    exact hκ c hS
  | succ k ih =>
    intro fuel r c hl h0 hf hS
    obtain ⟨f, rfl⟩ : ∃ f, fuel = f + 1 := ⟨fuel - 1, by omega⟩
    have hr : 0 ≤ r ∧ r < z.1 1 := ⟨h0, by omega⟩
    obtain ⟨A, hle⟩ := le_ex g hb hr
    obtain ⟨B, hgr⟩ := gr_ex g hb hr
    have hbd := g.2.2.2.2 r h0 (by omega)
    have hfe := FeB_b hb (p := r)
    have hA1 : A ≤ z.1 (22 + r) := by
      by_cases h : z.1 (22 + r) < A
      · exact absurd hfe (hle.2.2 _ hbd.1 h)
      · omega
    have hB1 : z.1 (22 + r) ≤ B := by
      by_cases h : B < z.1 (22 + r)
      · exact absurd hfe (hgr.2.2 _ h hbd.2)
      · omega
    have hA2 := hle.1; have hB2 := hgr.1
    have c1 := hA.n ((c8_leastBound hL (p := r) (by omega) (fun _ => hle)).1 hr)
    have c2 := hA.n ((c8_greatestBound hL (p := r) (by omega) (fun _ => hgr)).1 hr)
    have c3 := hA.n ((c8_boundOf hL (p := r) (by omega)).1 hr)
    rw [f_L_areBasesSo_82_s]
    unfold b_L_areBasesSo_82
    refine st_cp (hA.p (fun c => c8_constraints)) hS ?_
    refine st_gd ⟨by omega, by omega⟩ ?_
    refine st_n (by omega) ?_
    refine st_cn c1 hS (fun c hS => ?_)
    refine st_cn c2 hS (fun c hS => ?_)
    refine st_gd (by decide) ?_
    refine st_n (by decide) ?_
    refine st_gd (by omega) ?_
    refine st_n (by omega) ?_
    refine st_cn c3 hS (fun c hS => ?_)
    refine st_gd ⟨by omega, by omega⟩ ?_
    refine st_n (by omega) ?_
    refine st_cn c3 hS (fun c hS => ?_)
    refine st_gd ⟨by omega, by omega⟩ ?_
    refine st_n (by omega) ?_
    refine st_gd (by omega) ?_
    refine st_n (by omega) ?_
    exact ih f (r + 1) c (by omega) (by omega) (by omega) hS
theorem L_bas (hA : SOK d z S) (hL : LI K z) : ClS S (f_L_areBasesSo d) 1 := fun c hS => st_end fun T hT => by
  have g := hL.1.1
  have g0 := g.1; have g1 := g.2.1
  have hb := hL.1.2.1
  have hD := dz_b hL
  have hn := NF_e g
  have hr := rF_b9 g hb.1 (q := z.1 0 + z.1 1) ⟨by omega, by omega⟩
  obtain ⟨m1, m2, m3, m4, m5⟩ := nu_64 (n := -rF z.1 (z.1 0 + z.1 1)) (by omega) hD
  obtain ⟨s1, s2, s3, s4'⟩ := c8_survey (d := d) hL
  obtain ⟨b1, b2⟩ := sv_by g hb
  have v1 := svS_1 g
  have vG := svS_g g (2 ^ NF z.1)
  have hmax : (svS z.1 (2 ^ NF z.1)).1 ≤ 70 := by
    have h1 := svS_n g (2 ^ NF z.1) (Nat.le_refl _)
    have h2 := tw_d ⟨NF z.1, by omega⟩
    have h2 : 2 ^ NF z.1 ≤ 256 := h2
    have h3 := chN_m (m := z.1 1) (u := 2 ^ NF z.1) (256 - 2 ^ NF z.1)
    rw [show 2 ^ NF z.1 + (256 - 2 ^ NF z.1) = 256 by omega] at h3
    have h4 := ch_d ⟨(z.1 1).toNat, by omega⟩
    rw [show (((⟨(z.1 1).toNat, by omega⟩ : Fin 5).val : Nat) : Int) = z.1 1 by show (((z.1 1).toNat : Nat) : Int) = _; omega] at h4
    omega
  have hbb := (vG.2.2.2.2 (by omega)).1
  generalize svS z.1 (2 ^ NF z.1) = V at *
  have a1 := mbd (show -62355744 ≤ V.2.2.2.2.1 ∧ V.2.2.2.2.1 ≤ 62355744 by omega) (show -157464 ≤ de (-rF z.1 (z.1 0 + z.1 1)) (dF z.1) ∧ de (-rF z.1 (z.1 0 + z.1 1)) (dF z.1) ≤ 157464 by omega)
  have a2 := mbd m5 (show -157464 ≤ V.2.2.2.2.2 ∧ V.2.2.2.2.2 ≤ 157464 by omega)
  have v2 := vG.2.1
  have r64 : R64 (V.2.2.2.2.1 * de (-rF z.1 (z.1 0 + z.1 1)) (dF z.1) - nu (-rF z.1 (z.1 0 + z.1 1)) (dF z.1) * V.2.2.2.2.2) := ⟨by omega, by omega⟩
  unfold f_L_areBasesSo
  refine st_cl (hA.l s3) hS (fun c hS => ?_)
  refine st_cp (hA.p (fun c hC => (c8_value hL hC).2)) hS ?_
  refine st_cp (hA.p (fun c hC => (c8_value hL hC).1)) hS ?_
  refine st_cl (hA.l s4') hS (fun c hS => ?_)
  refine st_gd r64 ?_
  refine st_j ?_
  refine st_n (by omega) ?_
  refine st_cp (hA.p (fun c hC => c8_isOptimal hL hC)) hS ?_
  refine st_gd (by unfold pick; split <;> decide) ?_
  refine st_jP (fun _ => True) (fun _ _ => ?_) (fun k' hk => ?_)
  · refine st_cl (hA.l s1) hS (fun c hS => ?_)
    refine st_gd ⟨by omega, by omega⟩ ?_
    refine st_n (by omega) ?_
    refine st_cl (hA.l s2) hS (fun c hS => ?_)
    refine st_gd ⟨by omega, by omega⟩ ?_
    refine st_n (by omega) ?_
    refine st_cl (hA.l s2) hS (fun c hS => ?_)
    refine st_cl (hA.l s1) hS (fun c hS => ?_)
    refine st_gd ⟨⟨by omega, by omega⟩, by omega, by omega⟩ ?_
    refine st_n (by omega) ?_
    refine st_cl (hA.l s1) hS (fun c hS => ?_)
    refine st_gd ⟨by omega, by omega⟩ ?_
    refine st_n (by omega) ?_
    refine bas_82 hA hL (fun c hS => ?_) (z.1 1).toNat LF 0 c (by omega) (by omega) (by rw [LF_g]; omega) hS
    refine st_gd (by decide) ?_
    exact hT c hS
  · by_cases ho : bestF z.1
    · rw [pick_t ho]
      refine st_n (by decide) ?_
      refine st_gd r64 ?_
      refine st_p (b2 ho) ?_
      exact hk () trivial
    · rw [pick_f ho]
      refine st_p rfl ?_
      exact hk () trivial
end
/-! a step -/
theorem slF_m : ∀ (k : Nat) (F : Int → Int), (slF k F).1 < k → slF (k + 1) F = slF k F ∧ ¬ opn (slF k F).2 := by
  intro k
  induction k with
  | zero =>
    intro F h
    have := (slF_r 0 F).1
    omega
  | succ k ih =>
    intro F h
    by_cases ho : opn F
    · rw [slF_y ho] at h
      have h2 := ih (stp F) (by
        have h : (slF k (stp F)).1 + 1 < ((k + 1 : Nat) : Int) := h
        omega)
      rw [slF_y (k := k + 1) ho, slF_y ho, h2.1]
      exact ⟨rfl, h2.2⟩
    · rw [slF_n ho, slF_n ho]
      exact ⟨rfl, ho⟩
theorem opn_ob {F : Int → Int} (g : GdP F) (h : opn F) : obF F (lrV F (chV F)) (chV F) = 0 := by
  obtain ⟨h1, h2, h3, h4, h5⟩ := opn_pv g h
  generalize lrV F (chV F) = r at *
  generalize chV F = q at *
  have hn : ¬ nmd F q := fun z => by
    obtain ⟨k, a, b, e⟩ := z
    have := rF_named g (k := k) ⟨a, b⟩
    rw [e] at this
    omega
  have hs : ¬ obS F r q := fun z => by
    obtain ⟨k, a, b, c, e⟩ := z
    have := h5 k a b c
    unfold ordF at e
    omega
  unfold obF
  rw [pick_f hn, pick_t h3, pick_t h4, pick_f hs]
/-- the value behind a pivot -/
theorem pv_val {F : Int → Int} (g : GdP F) (hd : 0 < dF F) {r q : Int} (hv : PvOK F r q) (hb : GdB F) : dF (pvW F r q) = tF F r q ∧ (pvW F r q) 0 = F 0 ∧ (pvW F r q) 1 = F 1 ∧ ¬ nu (-rF (pvW F r q) (F 0 + F 1)) (dF (pvW F r q)) * de (-rF F (F 0 + F 1)) (dF F) - nu (-rF F (F 0 + F 1)) (dF F) * de (-rF (pvW F r q) (F 0 + F 1)) (dF (pvW F r q)) < 0 ∧ (nu (-rF (pvW F r q) (F 0 + F 1)) (dF (pvW F r q)) * de (-rF F (F 0 + F 1)) (dF F) - nu (-rF F (F 0 + F 1)) (dF F) * de (-rF (pvW F r q) (F 0 + F 1)) (dF (pvW F r q)) = 0 ↔ tF F r (F 0 + F 1) = 0) := by
  have g0 := g.1; have g1 := g.2.1
  obtain ⟨h1, h2, h3, h4, h5⟩ := hv
  have hp := pvW_v (F := F) (r := r) (q := q) (by omega) (by omega)
  have e1 := dF_p g hp h1
  have e2 := rF_p g hp h1 (F 0 + F 1)
  have hs := hb.2.2.1 r h1.1 h1.2
  refine ⟨e1, hp.1 0 (by decide), hp.1 1 (by decide), ?_⟩
  have hc := fr_cmp (n := -rF (pvW F r q) (F 0 + F 1)) (d := dF (pvW F r q)) (n' := -rF F (F 0 + F 1)) (d' := dF F) (by rw [e1]; exact h4) hd
  have e3 : -rF (pvW F r q) (F 0 + F 1) * dF F - -rF F (F 0 + F 1) * dF (pvW F r q) = rF F q * tF F r (F 0 + F 1) := by
    rw [e1, Int.neg_mul, Int.neg_mul, Int.mul_comm _ (dF F), e2, Int.mul_comm (rF F (F 0 + F 1))]
    omega
  rw [e3] at hc
  have hn := Int.mul_nonneg (Int.le_of_lt h3) hs
  refine ⟨fun z => absurd (hc.1.mp z) (by omega), hc.2.trans ⟨fun z => ?_, fun z => by rw [z, Int.mul_zero]⟩⟩
  rcases Int.mul_eq_zero.mp z with h | h
  · omega
  · exact h
/-- an undo right behind what was saved -/
def udS (z : St) : St := (z.1, psN z.2.1 - 1, psS z.2.1 z.2.2.1 z.1, z.2.2.2)
theorem ps_top (z : St) (h : 0 ≤ z.2.1 ∧ z.2.1 ≤ 6) : psS z.2.1 z.2.2.1 z.1 (psN z.2.1 - 1) = z.1 ∧ 1 ≤ psN z.2.1 ∧ psN z.2.1 - 1 = if z.2.1 = 6 then 5 else z.2.1 := by
  unfold psS psN
  by_cases e : z.2.1 = 6
  · rw [if_pos e, if_pos e, if_pos e, if_pos (by decide)]
    exact ⟨rfl, by decide, rfl⟩
  · rw [if_neg e, if_neg e, if_neg e, if_pos (by omega)]
    exact ⟨rfl, by omega, by omega⟩
theorem Ag_rf {F : Int → Int} : Ag F F := fun _ _ _ => rfl
theorem undo_ps {d : Nat} {z : St} {K : Int} {F' : Int → Int} (hL : LI K z) (hg : Good K F') : ClX d (psh z F') (f_X8_undo d) 0 (psN z.2.1 - 1) (udS z) ∧ LI K (udS z) := by
  have h1 := psh_li hL hg
  obtain ⟨h2, h3, -⟩ := ps_top z hL.2.1
  have hA : Ag ((psh z F').2.2.1 ((psh z F').2.1 - 1)) z.1 := by
    show Ag (psS z.2.1 z.2.2.1 z.1 (psN z.2.1 - 1)) z.1
    rw [h2]
    exact Ag_rf
  exact ⟨(c8_undo (d := d) h1).1 h3 z.1 hA, undo_li h1 h3 hA⟩
/-- worlds that go with the desk's state -/
def FOK (d : Nat) (Sf : St → W0 → Prop) : Prop := (∀ z c, Sf z c → CI d z c) ∧ ∀ z z' c c1, Sf z c → FrD d c c1 → CI d z' c1 → Sf z' c1
section
variable {Sf : St → W0 → Prop} {d : Nat} {z z' : St} {K : Int}
theorem FOK.s (h : FOK d Sf) (z : St) : SOK d z (Sf z) := ⟨h.1 z, h.2 z z⟩
theorem st_cx {β : Type} {T : Option β → Prop} (hF : FOK d Sf) {f : W0 → Option (Int × Int × W0)} {v : Int} {c : W0} {κ : Int → W0 → Option β} (h : ClX d z f 0 v z') (hS : Sf z c) (k : ∀ c1, Sf z' c1 → T (κ v c1)) : T (cn (f c) κ) := by
  obtain ⟨c1, e, h1, h2⟩ := h c (hF.1 z c hS)
  rw [e, cn_s]
  exact k c1 (hF.2 z z' c c1 hS h1 h2)
theorem st_ci {β : Type} {T : Option β → Prop} (hF : FOK d Sf) {f : W0 → Option (Int × W0)} {v : Int} {c : W0} {κ : Int → W0 → Option β} (h : ClI d z f v z') (hS : Sf z c) (k : ∀ c1, Sf z' c1 → T (κ v c1)) : T (cl (f c) κ) := by
  obtain ⟨c1, e, h1, h2⟩ := h c (hF.1 z c hS)
  rw [e, cl_s]
  exact k c1 (hF.2 z z' c c1 hS h1 h2)
theorem chg_7 {o : Nat} {c c1 : W0} (h : f_X8_step d c = some (2, 0, c1)) : f_L_changes d 7 0 0 0 o c = some (3, c1) := by
  unfold f_L_changes chR
  rw [gd_t (by decide), bq_n (by decide), bq_n (by decide), bq_n (by decide), bq_n (by decide), bq_n (by decide), bq_n (by decide), bq_n (by decide), bq_p rfl, h]
  unfold chE
  try dsimp only
  rw [bq_n (by decide)]
  rfl
set_option maxHeartbeats 4000000 in
theorem L_stp {o : Nat} (hF : FOK d Sf) (hL : LI K z) (hK0 : 0 ≤ K) (hK : K ≤ 1000000) {T : Option (Int × W0) → Prop} (hT : ∀ z' c1, Sf z' c1 → z'.1 = z.1 → LI (K + 40) z' → T (some (1, c1))) {c : W0} (hS : Sf z c) : T (f_L_isStepTo d o c) := by
  have g := hL.1.1
  have g0 := g.1; have g1 := g.2.1
  have hb := hL.1.2.1
  have hD := dz_b hL
  obtain ⟨-, -, h26, h31, h32, h33⟩ := hL.1
  have hr := rF_b9 g hb.1 (q := z.1 0 + z.1 1) ⟨by omega, by omega⟩
  obtain ⟨m1, m2, m3, m4, m5⟩ := nu_64 (n := -rF z.1 (z.1 0 + z.1 1)) (by omega) hD
  obtain ⟨v, hv⟩ := ray_ex hL
  have hsl := slF_r 40 z.1
  have hLe : LI (K + 40) z := hL.mo (by omega)
  unfold f_L_isStepTo
  refine st_cp ((hF.s z).p (fun c hC => c8_isOptimal hL hC)) hS ?_
  refine st_gd (by unfold pick; split <;> decide) ?_
  refine st_jP (fun _ => ¬ opn z.1) (fun _ ho => ?_) (fun k' hk => ?_)
  · -- at an end
    refine st_cp ((hF.s z).p (fun c hC => (c8_value hL hC).1)) hS ?_
    refine st_cp ((hF.s z).p (fun c hC => (c8_value hL hC).2)) hS ?_
    refine st_ci hF (c8_pivotsLeft hL) hS (fun c hS => ?_)
    refine st_cp ((hF.s z).p (fun c => c8_pivots)) hS ?_
    refine st_gd (by omega) ?_
    refine st_p (by rw [slF_n ho]) ?_
    obtain ⟨c1, e1, e2, e3⟩ := (c8_step (d := d) hL).2 ho c (hF.1 z c hS)
    have hS1 := hF.2 z z c c1 hS e2 e3
    rw [chg_7 e1, cl_s]
    refine st_gd (by decide) ?_
    refine st_p rfl ?_
    refine st_cp ((hF.s z).p (fun c => c8_pivots)) hS1 ?_
    refine st_gd ⟨by omega, by omega⟩ ?_
    refine st_p rfl ?_
    exact hT z c1 hS1 rfl hLe
  · by_cases ho : bestF z.1
    · rw [pick_t ho]
      refine st_n (by decide) ?_
      exact hk () (fun h => h.1 ho)
    rw [pick_f ho]
    refine st_p rfl ?_
    refine st_cp ((hF.s z).p (fun c hC => c8_hasRay hL hv hC)) hS ?_
    refine st_gd (by split <;> decide) ?_
    by_cases hv0 : v < 0
    rotate_left
    · rw [if_neg hv0]
      refine st_n (by decide) ?_
      refine hk () (fun h => ?_)
      rcases hv with ⟨rfl, _⟩ | ⟨p0, p1, p2, _⟩
      · exact absurd (show (-1 : Int) < 0 by decide) hv0
      · exact h.2 v p0 p1 p2
    rw [if_pos hv0]
    refine st_p rfl ?_
    have hop : opn z.1 := ⟨ho, fun j a b => by
      rcases hv with ⟨_, h⟩ | ⟨p0, _⟩
      · exact h j a b
      · omega⟩
    have hpv := opn_pv g hop
    have hob := opn_ob g hop
    have hrr := hpv.1; have hcc := hpv.2.1
    have hgs := pv_good hL.1 hpv
    have hsp : stp z.1 = pvW z.1 (lrV z.1 (chV z.1)) (chV z.1) := rfl
    obtain ⟨w1, w2, w3, w4, w5⟩ := pv_val g hD.1 hpv hb
    have hs1 := slF_y (k := 39) hop
    have hs2 := slF_r 39 (stp z.1)
    have hs3 := slF_m 39 (stp z.1)
    have hs4 := slF_m 40 z.1
    have hnx := (c8_next (d := d) hL).1 hop
    have hst := (c8_step (d := d) hL).1 hop
    rw [← hsp] at hgs w1 w2 w3 w4 w5
    have hx33 : stp z.1 33 = z.1 33 + pick (tF z.1 (lrV z.1 (chV z.1)) (z.1 0 + z.1 1) = 0) 1 0 := by
      have := hpv.1
      rw [hsp]
      unfold pvW
      rw [updZ_n (by decide), updZ_n (by decide), updZ_n (by omega), updZ_s]
    have hx31 : stp z.1 31 = z.1 31 + 1 := by
      rw [hsp]
      unfold pvW
      rw [updZ_n (by decide), updZ_s]
    have hx27 : stp z.1 (27 + lrV z.1 (chV z.1)) = chV z.1 := by
      have := hpv.1
      rw [hsp]
      unfold pvW
      rw [updZ_n (by omega), updZ_n (by omega), updZ_s]
    have hpk : pick (tF z.1 (lrV z.1 (chV z.1)) (z.1 0 + z.1 1) = 0) 1 0 = 0 ∨ pick (tF z.1 (lrV z.1 (chV z.1)) (z.1 0 + z.1 1) = 0) 1 0 = 1 := by
      unfold pick
      split
      · exact Or.inr rfl
      · exact Or.inl rfl
    have hnr := hb.1 _ hpv.1.1 hpv.1.2
    have hL1 : LI (K + 1) (psh z (stp z.1)) := psh_li (hL.mo (by omega)) hgs
    have hd1 := dz_b hL1
    have hr1 := rF_b9 hL1.1.1 hL1.1.2.1.1 (q := stp z.1 0 + stp z.1 1) ⟨by have := hL1.1.1.1; have := hL1.1.1.2.1; show 0 ≤ stp z.1 0 + stp z.1 1; omega, Int.le_refl _⟩
    have hr1 : -63772920 ≤ rF (stp z.1) (z.1 0 + z.1 1) ∧ rF (stp z.1) (z.1 0 + z.1 1) ≤ 63772920 := by rw [w2, w3] at hr1; exact hr1
    have hd1 : 0 < dF (stp z.1) ∧ dF (stp z.1) ≤ 157464 := hd1
    obtain ⟨n1, n2, n3, n4, n5⟩ := nu_64 (n := -rF (stp z.1) (z.1 0 + z.1 1)) (by omega) hd1
    have hv1 : ∀ c, CI d (psh z (stp z.1)) c → f_X8_valueNumerator d c = some (nu (-rF (stp z.1) (z.1 0 + z.1 1)) (dF (stp z.1))) ∧ f_X8_valueDenominator d c = some (de (-rF (stp z.1) (z.1 0 + z.1 1)) (dF (stp z.1))) := fun c hC => by
      have h := c8_value hL1 hC
      rw [show (psh z (stp z.1)).1 = stp z.1 from rfl, w2, w3] at h
      exact h
    have a1 := mbd n5 (show -157464 ≤ de (-rF z.1 (z.1 0 + z.1 1)) (dF z.1) ∧ de (-rF z.1 (z.1 0 + z.1 1)) (dF z.1) ≤ 157464 by omega)
    have a2 := mbd m5 (show -157464 ≤ de (-rF (stp z.1) (z.1 0 + z.1 1)) (dF (stp z.1)) ∧ de (-rF (stp z.1) (z.1 0 + z.1 1)) (dF (stp z.1)) ≤ 157464 by omega)
    have r64 : R64 (nu (-rF (stp z.1) (z.1 0 + z.1 1)) (dF (stp z.1)) * de (-rF z.1 (z.1 0 + z.1 1)) (dF z.1) - nu (-rF z.1 (z.1 0 + z.1 1)) (dF z.1) * de (-rF (stp z.1) (z.1 0 + z.1 1)) (dF (stp z.1))) := ⟨by omega, by omega⟩
    -- the states that follow
    obtain ⟨u1, hL2⟩ := undo_ps (d := d) (hL.mo (show K ≤ K + 1 by omega)) hgs
    have p0 := ps_top z hL.2.1
    have hL2' : LI K (udS z) := (undo_ps (d := d) hL (F' := z.1) hL.1).2
    have hst2 : ClX d (udS z) (f_X8_step d) 0 (chV z.1) (psh (udS z) (stp z.1)) := (c8_step (d := d) hL2').1 hop
    obtain ⟨u2, -⟩ := undo_ps (d := d) (hL2'.mo (show K ≤ K + 1 by omega)) hgs
    have hL4 : LI K (udS (udS z)) := (undo_ps (d := d) hL2' (F' := z.1) hL.1).2
    have hso : ClI d (udS (udS z)) (f_X8_solve d) (slF 40 z.1).1 (psh (udS (udS z)) (slF 40 z.1).2) := c8_solve (d := d) hL4
    have hgS := slF_g 40 hL.1
    obtain ⟨u3, hL6⟩ := undo_ps (d := d) (hL4.mo (show K ≤ K + ((40 : Nat) : Int) by omega)) hgS
    have q2 := ps_top (udS z) hL2'.2.1
    have q4 := ps_top (udS (udS z)) hL4.2.1
    have e0 := hL.2.1; have e2 := hL2'.2.1; have e4 := hL4.2.1
    have hL6' : LI K (udS (udS (udS z))) := (undo_ps (d := d) hL4 (F' := z.1) hL.1).2
    have e6 := hL6'.2.1
    have hn0 : 0 ≤ psN z.2.1 - 1 ∧ psN z.2.1 - 1 ≤ 6 := e2
    have hn2 : 0 ≤ psN (udS z).2.1 - 1 ∧ psN (udS z).2.1 - 1 ≤ 6 := e4
    have hn4 : 0 ≤ psN (udS (udS z)).2.1 - 1 ∧ psN (udS (udS z)).2.1 - 1 ≤ 6 := e6
    have hL5 : LI (K + ((40 : Nat) : Int)) (psh (udS (udS z)) (slF 40 z.1).2) := psh_li (hL4.mo (by omega)) hgS
    refine st_cp ((hF.s z).p (fun c hC => (c8_value hL hC).1)) hS ?_
    refine st_cp ((hF.s z).p (fun c hC => (c8_value hL hC).2)) hS ?_
    refine st_ci hF (c8_pivotsLeft hL) hS (fun c hS => ?_)
    refine st_cp ((hF.s z).p (fun c => c8_pivots)) hS ?_
    refine st_cx hF hnx.1 hS (fun c hS => ?_)
    refine st_cx hF hnx.2 hS (fun c hS => ?_)
    refine st_cx hF ((c8_columnOf hL (by omega)).1 hpv.1) hS (fun c hS => ?_)
    refine st_cp ((hF.s z).p (fun c => c8_idlePivots)) hS ?_
    have hwn := (c8_whyNoPivot (d := d) hL (p := lrV z.1 (chV z.1)) (q := chV z.1) (by omega) (by have := hpv.2.1; omega)).1 ⟨hpv.1, hpv.2.1⟩
    rw [hob] at hwn
    refine st_cx hF hwn hS (fun c hS => ?_)
    refine st_gd (by decide) ?_
    refine st_j ?_
    refine st_p rfl ?_
    refine st_cx hF ((c8_pivot hL (by omega) (by have := hpv.2.1; omega)).1 ⟨⟨hpv.1, hpv.2.1⟩, hob⟩) hS (fun c hS => ?_)
    have hS : Sf (psh z (stp z.1)) c := hS
    refine st_gd ⟨by omega, by omega⟩ ?_
    refine st_p rfl ?_
    have hco := (c8_columnOf (d := d) hL1 (p := lrV z.1 (chV z.1)) (by omega)).1 ⟨hpv.1.1, by show _ < stp z.1 1; rw [w3]; exact hpv.1.2⟩
    rw [show (psh z (stp z.1)).1 (27 + lrV z.1 (chV z.1)) = chV z.1 from hx27] at hco
    refine st_cx hF hco hS (fun c hS => ?_)
    have hcr := hpv.2.1
    refine st_gd ⟨by omega, by omega⟩ ?_
    refine st_p rfl ?_
    refine st_cp ((hF.s (psh z (stp z.1))).p (fun c => c8_pivots)) hS ?_
    rw [show (psh z (stp z.1)).1 31 = z.1 31 + 1 from hx31]
    refine st_gd ⟨by omega, by omega⟩ ?_
    refine st_p rfl ?_
    refine st_cp ((hF.s (psh z (stp z.1))).p (fun c hC => (hv1 c hC).1)) hS ?_
    refine st_cp ((hF.s (psh z (stp z.1))).p (fun c hC => (hv1 c hC).2)) hS ?_
    refine st_gd r64 ?_
    refine st_j ?_
    refine st_n w4 ?_
    refine st_cp ((hF.s (psh z (stp z.1))).p (fun c => c8_idlePivots)) hS ?_
    rw [show (psh z (stp z.1)).1 33 = z.1 33 + pick (tF z.1 (lrV z.1 (chV z.1)) (z.1 0 + z.1 1) = 0) 1 0 from hx33]
    refine st_gd r64 ?_
    refine st_jP (fun x => x = pick (tF z.1 (lrV z.1 (chV z.1)) (z.1 0 + z.1 1) = 0) 1 0) (fun x hx => ?_) (fun k' hk => ?_)
    rotate_left
    · by_cases e : nu (-rF (stp z.1) (z.1 0 + z.1 1)) (dF (stp z.1)) * de (-rF z.1 (z.1 0 + z.1 1)) (dF z.1) - nu (-rF z.1 (z.1 0 + z.1 1)) (dF z.1) * de (-rF (stp z.1) (z.1 0 + z.1 1)) (dF (stp z.1)) = 0
      · refine st_p e ?_
        exact hk 1 (pick_t (w5.mp e)).symm
      · refine st_n e ?_
        exact hk 0 (pick_f (fun h => e (w5.mpr h))).symm
    subst hx
    refine st_gd ⟨by omega, by omega⟩ ?_
    refine st_p rfl ?_
    refine st_gd ⟨by omega, by omega⟩ ?_
    refine st_jP (fun c => Sf (psh z (stp z.1)) c) (fun c hS => ?_) (fun k' hk => ?_)
    rotate_left
    · by_cases e : (slF 40 z.1).1 = 40
      · refine st_p e ?_
        exact hk _ hS
      · refine st_n e ?_
        refine st_ci hF (c8_pivotsLeft hL1) hS (fun c hS => ?_)
        have e9 : (slF 40 z.1).1 = (slF 39 (stp z.1)).1 + 1 := by rw [hs1]
        have e8 : (slF 40 (psh z (stp z.1)).1).1 = (slF 40 z.1).1 - 1 := by
          show (slF 40 (stp z.1)).1 = _
          rw [(hs3 (by omega)).1]
          omega
        rw [e8]
        refine st_gd ⟨⟨by omega, by omega⟩, by omega, by omega⟩ ?_
        refine st_p rfl ?_
        exact hk _ hS
    refine st_cx hF u1 hS (fun c hS => ?_)
    refine st_gd ⟨by omega, by omega⟩ ?_
    refine st_n (by omega) ?_
    refine st_cx hF hst2 hS (fun c hS => ?_)
    refine st_gd ⟨by omega, by omega⟩ ?_
    refine st_p rfl ?_
    have hL3 : LI (K + 1) (psh (udS z) (stp z.1)) := psh_li (hL2'.mo (by omega)) hgs
    have hco2 := (c8_columnOf (d := d) hL3 (p := lrV z.1 (chV z.1)) (by omega)).1 ⟨hpv.1.1, by show _ < stp z.1 1; rw [w3]; exact hpv.1.2⟩
    rw [show (psh (udS z) (stp z.1)).1 (27 + lrV z.1 (chV z.1)) = chV z.1 from hx27] at hco2
    refine st_cx hF hco2 hS (fun c hS => ?_)
    refine st_gd ⟨by omega, by omega⟩ ?_
    refine st_p rfl ?_
    refine st_cx hF u2 hS (fun c hS => ?_)
    refine st_gd ⟨by omega, by omega⟩ ?_
    refine st_n (by omega) ?_
    refine st_ci hF hso hS (fun c hS => ?_)
    refine st_gd ⟨by omega, by omega⟩ ?_
    refine st_p rfl ?_
    refine st_gd ⟨by omega, by omega⟩ ?_
    refine st_jP (fun _ => True) (fun _ _ => ?_) (fun k' hk => ?_)
    · refine st_cx hF u3 hS (fun c hS => ?_)
      refine st_gd ⟨by omega, by omega⟩ ?_
      refine st_n (by omega) ?_
      refine st_cp ((hF.s (udS (udS (udS z)))).p (fun c => c8_pivots)) hS ?_
      refine st_gd ⟨by show R32 (z.1 31); omega, by omega⟩ ?_
      refine st_p rfl ?_
      refine st_cp ((hF.s (udS (udS (udS z)))).p (fun c hC => (c8_value hL6' hC).1)) hS ?_
      refine st_gd ⟨m1, m1⟩ ?_
      refine st_p rfl ?_
      exact hT _ c hS rfl hL6
    · by_cases e : (slF 40 z.1).1 = 40
      · refine st_p e ?_
        exact hk () trivial
      · refine st_n e ?_
        have hno := (hs4 (by omega)).2
        obtain ⟨v', hv'⟩ := ray_ex hL5
        refine st_cp ((hF.s (psh (udS (udS z)) (slF 40 z.1).2)).p (fun c hC => c8_isOptimal hL5 hC)) hS ?_
        refine st_gd (by unfold pick; split <;> decide) ?_
        by_cases ho2 : bestF (slF 40 z.1).2
        · rw [show pick (bestF (psh (udS (udS z)) (slF 40 z.1).2).1) 1 0 = 1 from pick_t ho2]
          refine st_n (by decide) ?_
          exact hk () trivial
        · rw [show pick (bestF (psh (udS (udS z)) (slF 40 z.1).2).1) 1 0 = 0 from pick_f ho2]
          refine st_p rfl ?_
          refine st_cp ((hF.s (psh (udS (udS z)) (slF 40 z.1).2)).p (fun c hC => c8_hasRay hL5 hv' hC)) hS ?_
          refine st_gd (by split <;> decide) ?_
          have hv2 : ¬ v' < 0 := fun hv2 => hno ⟨ho2, fun j a b => by
            rcases hv' with ⟨_, h⟩ | ⟨p9, _⟩
            · exact h j a b
            · omega⟩
          rw [if_neg hv2]
          refine st_n (by decide) ?_
          exact hk () trivial
end
end TC6
