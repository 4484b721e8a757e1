section TD
section
variable {th : Nat} {len : Int} {B : Int → Int} {c : W0}
/-- the class's loop over the constraints -/
theorem rdl8 {p1 : Nat} (hT : Tx len B) : ∀ (k fuel : Nat) (s : Int) (rd : Int → Int) (c : W0), 5 ≤ rd 1 + k → k + 1 ≤ fuel → (0 ≤ s ∧ s ≤ len) → PiR rd → TX th len B s c → RepP (th + 4) rd c → ∃ b c', f_X3_read_76 th p1 (fun c17 => gd (R32 (c17 th 2) ∧ R32 (c17 (th + 1) 0)) <| bq ((c17 th 2) = (c17 (th + 1) 0)) (some (1, c17)) (some (0, c17))) fuel (rd 1) c = some (b, c') ∧ Fr (SRd th) c c' ∧ TX th len B (lpT len B k ((s, 0), rd)).1.1 c' ∧ ((b = 1 ∧ ((lpT len B k ((s, 0), rd)).1.2 = 0 ∧ len ≤ (lpT len B k ((s, 0), rd)).1.1) ∧ RepP (th + 4) (lpT len B k ((s, 0), rd)).2 c') ∨ (b = 0 ∧ ¬ ((lpT len B k ((s, 0), rd)).1.2 = 0 ∧ len ≤ (lpT len B k ((s, 0), rd)).1.1))) := by
  have h1 := hT.1
  intro k
  induction k with
  | zero =>
    intro fuel s rd c hk hf hs hI hX hP
    have := hI.1.2.1
    omega
  | succ k ih =>
    intro fuel s rd c hk hf hs hI hX hP
    obtain ⟨f, rfl⟩ : ∃ f, fuel = f + 1 := ⟨fuel - 1, by omega⟩
    have g1 := hI.1.2.1
    rw [f_X3_read_76_s]
    unfold b_X3_read_76
    rw [gd_t (by omega)]
    have stop : ¬ ((((s, 0), rd) : Rs).1.2 = 0 ∧ (((s, 0), rd) : Rs).1.1 < len ∧ (((s, 0), rd) : Rs).2 1 < 4) → ∃ b c', (gd (R32 (c th 2) ∧ R32 (c (th + 1) 0)) <| bq ((c th 2) = (c (th + 1) 0)) (some ((1 : Int), c)) (some ((0 : Int), c))) = some (b, c') ∧ Fr (SRd th) c c' ∧ TX th len B (lpT len B (k + 1) ((s, 0), rd)).1.1 c' ∧ ((b = 1 ∧ ((lpT len B (k + 1) ((s, 0), rd)).1.2 = 0 ∧ len ≤ (lpT len B (k + 1) ((s, 0), rd)).1.1) ∧ RepP (th + 4) (lpT len B (k + 1) ((s, 0), rd)).2 c') ∨ (b = 0 ∧ ¬ ((lpT len B (k + 1) ((s, 0), rd)).1.2 = 0 ∧ len ≤ (lpT len B (k + 1) ((s, 0), rd)).1.1))) := fun z => by
      rw [lpT_f z, hX.1, hX.2.1, gd_t (by omega)]
      by_cases y : s = len
      · rw [bq_p y]
        exact ⟨1, c, rfl, Fr.rf, hX, Or.inl ⟨rfl, ⟨rfl, by show len ≤ s; omega⟩, hP⟩⟩
      · rw [bq_n y]
        exact ⟨0, c, rfl, Fr.rf, hX, Or.inr ⟨rfl, fun q => by
          have q2 : len ≤ s := q.2
          omega⟩⟩
    by_cases u : 4 ≤ rd 1
    · rw [bq_p u]
      exact stop (fun z => by
        have z2 : rd 1 < 4 := z.2.2
        omega)
    · rw [bq_n u, hX.1, hX.2.1, gd_t (by omega)]
      by_cases w : len ≤ s
      · rw [bq_p w]
        have st := stop (fun z => by
          have z2 : s < len := z.2.1
          omega)
        exact st
      · rw [bq_n w]
        obtain ⟨b, c2, e2, hF2, hb, hX2⟩ := con8 hX hT hs hP hI (by omega)
        have hgo : (((s, 0), rd) : Rs).1.2 = 0 ∧ (((s, 0), rd) : Rs).1.1 < len ∧ (((s, 0), rd) : Rs).2 1 < 4 := ⟨rfl, by show s < len; omega, by show rd 1 < 4; omega⟩
        have hok := cnT_ok (len := len) (B := B) (X := ((s, 0), rd)) ⟨hs, Or.inl rfl⟩
        obtain ⟨n0, n1⟩ := cnT_0 (len := len) (B := B) (X := ((s, 0), rd)) g1.1 hI.1.1.2
        have n1' : (cnT len B ((s, 0), rd)).2 1 = rd 1 + 1 := n1
        rw [e2, cl_s, lpT_t hgo]
        rcases hb with ⟨rfl, w2, hP2⟩ | ⟨rfl, w2⟩
        · have ex : cnT len B ((s, 0), rd) = (((cnT len B ((s, 0), rd)).1.1, 0), (cnT len B ((s, 0), rd)).2) := Prod.ext (Prod.ext rfl w2) rfl
          obtain ⟨b, c3, e3, hF3, hX3, hb3⟩ := ih f (cnT len B ((s, 0), rd)).1.1 (cnT len B ((s, 0), rd)).2 c2 (by omega) (by omega) hok.1 (Pi_cn (X := ((s, 0), rd)) hI hgo.2.2) hX2 hP2
          rw [← ex] at hX3 hb3
          rw [n1'] at e3
          rw [gd_t (by omega), bq_n (by omega)]
          exact ⟨b, c3, e3, hF2.tr hF3, hX3, hb3⟩
        · rw [gd_t (by omega), bq_p rfl, lpT_f (fun z => by
            have z1 := z.1
            omega)]
          exact ⟨0, c2, rfl, hF2, hX2, Or.inr ⟨rfl, fun z => by omega⟩⟩
def SRe (th q : Nat) : Prop := q = th ∨ q = th + 1 ∨ q = th + 3 ∨ q = th + 4 ∨ q = th + 6
theorem rd8 {p1 : Nat} (hp : p1 + 2 < th) (hT : Tx len B) (h0 : c p1 0 = len) (h2 : ∀ k, 0 ≤ k → k < len → c (p1 + 2) k = B k) : ∃ b c', f_X3_read th p1 c = some (b, c') ∧ Fr (SRe th) c c' ∧ c' th 2 = (prF len B).1.1 ∧ ((b = 1 ∧ prW len B = 0 ∧ RepP (th + 4) (prF len B).2 c') ∨ (b = 0 ∧ prW len B = 1)) := by
  have h1 := hT.1
  have mt : ∀ q : Nat, q = th → SRe th q := fun q z => Or.inl z
  have m6 : ∀ q : Nat, (q = th ∨ q = th + 6) → SRe th q := fun q z => z.elim Or.inl (fun z => Or.inr (Or.inr (Or.inr (Or.inr z))))
  have md : ∀ q : Nat, SRd th q → SRe th q := fun q z => by unfold SRd at z; unfold SRe; omega
  unfold f_X3_read f_X7_copy
  dsimp only [sto, stw]
  rw [cl_s, h0]
  have nx : ∀ q, ¬ SRe th q → upc (upc (upc c (th + 1) (updZ (c (th + 1)) 0 len)) (th + 1 + 2) (upc c (th + 1) (updZ (c (th + 1)) 0 len) (p1 + 2))) th (updZ (upc (upc c (th + 1) (updZ (c (th + 1)) 0 len)) (th + 1 + 2) (upc c (th + 1) (updZ (c (th + 1)) 0 len) (p1 + 2)) th) 2 0) q = c q := fun q hq => by
    unfold SRe at hq
    rw [upc_n (by omega), upc_n (by omega), upc_n (by omega)]
  have hX0 : TX th len B 0 (upc (upc (upc c (th + 1) (updZ (c (th + 1)) 0 len)) (th + 1 + 2) (upc c (th + 1) (updZ (c (th + 1)) 0 len) (p1 + 2))) th (updZ (upc (upc c (th + 1) (updZ (c (th + 1)) 0 len)) (th + 1 + 2) (upc c (th + 1) (updZ (c (th + 1)) 0 len) (p1 + 2)) th) 2 0)) := by
    refine ⟨by rw [upc_s, updZ_s], ?_, fun k a b => ?_⟩
    · rw [upc_n (show th + 1 ≠ th by omega), upc_n (show th + 1 ≠ th + 1 + 2 by omega), upc_s, updZ_s]
    · rw [upc_n (show th + 1 + 2 ≠ th by omega), upc_s, upc_n (show p1 + 2 ≠ th + 1 by omega)]
      exact h2 k a b
  generalize upc (upc (upc c (th + 1) (updZ (c (th + 1)) 0 len)) (th + 1 + 2) (upc c (th + 1) (updZ (c (th + 1)) 0 len) (p1 + 2))) th (updZ (upc (upc c (th + 1) (updZ (c (th + 1)) 0 len)) (th + 1 + 2) (upc c (th + 1) (updZ (c (th + 1)) 0 len) (p1 + 2)) th) 2 0) = c3 at *
  have hF3 : Fr (SRe th) c c3 := fun q hq => nx q hq
  -- a failure before the loop
  have ff : ∀ (s' : Int) (c' : W0), (prE len B).1 = (s', 1) → Fr (SRe th) c c' → TX th len B s' c' → ∃ b c'', some ((0 : Int), c') = some (b, c'') ∧ Fr (SRe th) c c'' ∧ c'' th 2 = (prF len B).1.1 ∧ ((b = 1 ∧ prW len B = 0 ∧ RepP (th + 4) (prF len B).2 c'') ∨ (b = 0 ∧ prW len B = 1)) := fun s' c' e hF hX => by
    have eF : prF len B = prE len B := lpT_f (fun z => by
      have z1 := z.1
      rw [e] at z1
      have z2 : (1 : Int) = 0 := z1
      omega)
    refine ⟨0, c', rfl, hF, ?_, Or.inr ⟨rfl, ?_⟩⟩
    · rw [eF, e]; exact hX.1
    · unfold prW
      rw [eF, e]
      exact if_neg (fun z => by
        have z2 : (1 : Int) = 0 := z.1
        omega)
  have dC : ∀ s', prC len B = (s', 1) → (prE len B).1 = (s', 1) := fun s' e => by
    unfold prE
    rw [e]
    exact fsT_d _ _ _
  have dB : ∀ s', (prB len B).2 = (s', 1) → (prE len B).1 = (s', 1) := fun s' e => dC s' (by
    unfold prC
    rw [e, tkT_d]
    show (tkT len B 109 109 (s', 1)).2 = _
    rw [tkT_d])
  obtain ⟨b, c5, e5, hF5, hb⟩ := take8 (p := 118) hX0 hT ⟨by omega, h1.1⟩ (by omega)
  rw [e5, cl_s]
  rcases hb with ⟨rfl, n5, hX5⟩ | ⟨rfl, n5, hX5⟩
  · have a5 : 0 < len := n5.2.1
    have eA : prA len B = (0 + 1, 0) := by
      unfold prA
      rw [tkT_t n5]
    have f5 : Fr (SRe th) c c5 := hF3.tr (hF5.mo mt)
    obtain ⟨b, e6, hb⟩ := nextD8 (lo := 49) (hi := 52) hX5 hT ⟨by omega, by omega⟩ (by omega) (by omega)
    rw [gd_t (by omega), bq_n (by omega), e6, cv_s]
    rcases hb with ⟨rfl, n6⟩ | ⟨rfl, n6⟩
    · have a6 : 0 + 1 < len := n6.2.1
      have l6 : 49 ≤ B (0 + 1) := n6.2.2.1
      have u6 : B (0 + 1) ≤ 52 := n6.2.2.2
      have eB : prB len B = (B (0 + 1) - 48, 0 + 1 + 1, 0) := by
        unfold prB
        rw [eA, tkT_t n6]
      have eB1 : (prB len B).1 = B (0 + 1) - 48 := by rw [eB]
      rw [gd_t (by omega), bq_n (by omega), digit8 hX5 hT ⟨by omega, a6⟩, cl_s]
      have hX8 : TX th len B (0 + 1 + 1) (upc c5 th (updZ (c5 th) 2 (0 + 1 + 1))) := TX_up hX5
      have f8 : Fr (SRe th) c (upc c5 th (updZ (c5 th) 2 (0 + 1 + 1))) := f5.tr (Fr.up (Or.inl rfl))
      generalize upc c5 th (updZ (c5 th) 2 (0 + 1 + 1)) = c8 at *
      unfold f_X2_empty
      rw [gd_t (by omega), cl_s]
      have n9 : ∀ q, q ≠ th + 4 → q ≠ th + 6 → upc (upc c8 (th + 4 + 2) (rszZ (c8 (th + 4 + 2)) 0 4 0)) (th + 4) (updZ (updZ (updZ (c8 (th + 4)) 0 0) 0 (B (0 + 1) - 48)) 1 0) q = c8 q := fun q a b => by rw [upc_n a, upc_n b]
      have d9 : upc (upc c8 (th + 4 + 2) (rszZ (c8 (th + 4 + 2)) 0 4 0)) (th + 4) (updZ (updZ (updZ (c8 (th + 4)) 0 0) 0 (B (0 + 1) - 48)) 1 0) (th + 4) = updZ (updZ (updZ (c8 (th + 4)) 0 0) 0 (B (0 + 1) - 48)) 1 0 := upc_s
      have g9 : upc (upc c8 (th + 4 + 2) (rszZ (c8 (th + 4 + 2)) 0 4 0)) (th + 4) (updZ (updZ (updZ (c8 (th + 4)) 0 0) 0 (B (0 + 1) - 48)) 1 0) (th + 6) = rszZ (c8 (th + 6)) 0 4 0 := by
        rw [upc_n (by omega)]
        exact upc_s
      generalize upc (upc c8 (th + 4 + 2) (rszZ (c8 (th + 4 + 2)) 0 4 0)) (th + 4) (updZ (updZ (updZ (c8 (th + 4)) 0 0) 0 (B (0 + 1) - 48)) 1 0) = c9 at *
      have hX9 : TX th len B (0 + 1 + 1) c9 := TX_f hX8 (n9 _ (by omega) (by omega)) (n9 _ (by omega) (by omega)) (n9 _ (by omega) (by omega))
      have f9 : Fr (SRe th) c c9 := f8.tr (fun q hq => n9 q (fun z => hq (Or.inr (Or.inr (Or.inr (Or.inl z))))) (fun z => hq (Or.inr (Or.inr (Or.inr (Or.inr z))))))
      obtain ⟨b, c12, e12, hF12, hb⟩ := take8 (p := 59) hX9 hT ⟨by omega, by omega⟩ (by omega)
      rw [e12, cl_s]
      rcases hb with ⟨rfl, n12, hX12⟩ | ⟨rfl, n12, hX12⟩
      · have a12 : 0 + 1 + 1 < len := n12.2.1
        obtain ⟨b, c14, e14, hF14, hb⟩ := take8 (p := 109) hX12 hT ⟨by omega, by omega⟩ (by omega)
        rw [gd_t (by omega), bq_n (by omega), e14, cl_s]
        rcases hb with ⟨rfl, n14, hX14⟩ | ⟨rfl, n14, hX14⟩
        · have a14 : 0 + 1 + 1 + 1 < len := n14.2.1
          have eC : prC len B = (0 + 1 + 1 + 1 + 1, 0) := by
            unfold prC
            rw [eB]
            show (tkT len B 109 109 (tkT len B 59 59 (0 + 1 + 1, 0)).2).2 = _
            rw [tkT_t n12]
            show (tkT len B 109 109 (0 + 1 + 1 + 1, 0)).2 = _
            rw [tkT_t n14]
          have q14 : Fr (fun q => q = th) c9 c14 := hF12.tr hF14
          have f14 : Fr (SRe th) c c14 := f9.tr (q14.mo mt)
          have eE : prE len B = fsT len B 2 (prB len B).1.toNat 0 ((0 + 1 + 1 + 1 + 1, 0), prD len B) := by
            unfold prE
            rw [eC]
          obtain ⟨b, c16, e16, hF16, hb, hX16, hO16⟩ := facs8 (row := 4) (place := 2) (n := (prB len B).1) hT ⟨by omega, by omega⟩ (by omega) (prB len B).1.toNat LF 0 (0 + 1 + 1 + 1 + 1) (prD len B) c14 (by omega) (by omega) (by rw [LF_g]; omega) ⟨by omega, by omega⟩ hX14 (by rw [q14 _ (by omega), d9, updZ_n (by decide), updZ_s, eB1])
          rw [← eE] at hb hX16
          have f16 : Fr (SRe th) c c16 := f14.tr (hF16.mo m6)
          have hok := prE_ok hT
          obtain ⟨p0, p1'⟩ := prE_01 (len := len) (B := B)
          rw [gd_t (by omega), bq_n (by omega)]
          unfold f_X3_takeFactors
          rw [e16, cl_s]
          rcases hb with ⟨rfl, w16, hv16⟩ | ⟨rfl, w16⟩
          · have ex : prE len B = (((prE len B).1.1, 0), (prE len B).2) := Prod.ext (Prod.ext rfl w16) rfl
            have hI : PiR (prE len B).2 := Pi_E (by omega)
            have d16 : c16 (th + 4) = updZ (updZ (updZ (c8 (th + 4)) 0 0) 0 (B (0 + 1) - 48)) 1 0 := by
              rw [hF16 _ (by omega), q14 _ (by omega), d9]
            have o16 : ∀ y, (y < 20 ∨ 20 + (prB len B).1 ≤ y) → c16 (th + 6) y = rszZ (c8 (th + 6)) 0 4 0 y := fun y hy => by
              rw [hO16 y (by omega), q14 _ (by omega), g9]
            have z16 : ∀ r v, 0 ≤ r → r ≤ 4 → 0 ≤ v → v < 4 → (r < 4 ∨ (prB len B).1 ≤ v) → c16 (th + 6) (r * 5 + v) = 0 := fun r v a b a2 b2 hh => by
              rw [o16 _ (by omega)]
              unfold rszZ
              rw [if_pos (by omega)]
            have eo : ∀ y, 2 + (prB len B).1 ≤ y → (prE len B).2 y = 0 := fun y hy => by
              rw [eE, fsT_o _ _ _ y (by omega)]
              show updZ (fun _ => 0) 0 (prB len B).1 y = 0
              exact updZ_n (by omega)
            have hP : RepP (th + 4) (prE len B).2 c16 := by
              refine ⟨?_, ?_, fun r v a b a2 b2 => ?_, fun v a b => ?_, fun r a b => ?_, fun r v a b a2 b2 => ?_⟩
              · rw [d16, updZ_n (by decide), updZ_s, p0, eB1]
              · rw [d16, updZ_s, p1']
              · rw [p1'] at b
                omega
              · show c16 (th + 6) (4 * 5 + v) = _
                by_cases y : v < (prB len B).1
                · exact hv16 v a y
                · rw [eo _ (by omega)]
                  exact z16 4 v (by omega) (by omega) a b (Or.inr (by omega))
              · rw [p1'] at b
                omega
              · rw [p0] at a2
                exact z16 r v a b (by omega) b2 (Or.inr a2)
            have hl := rdl8 (th := th) (p1 := p1) hT 5 LF (prE len B).1.1 (prE len B).2 c16 (by omega) (by rw [LF_g]; omega) hok.1 hI hX16 hP
            rw [← ex, p1'] at hl
            obtain ⟨b, c17, e17, hF17, hX17, hb⟩ := hl
            rw [gd_t (by omega), bq_n (by omega)]
            refine ⟨b, c17, e17, f16.tr (hF17.mo md), hX17.1, ?_⟩
            rcases hb with ⟨b1, b2, b3⟩ | ⟨b1, b2⟩
            · exact Or.inl ⟨b1, by unfold prW; exact if_pos b2, b3⟩
            · exact Or.inr ⟨b1, by unfold prW; exact if_neg b2⟩
          · rw [gd_t (by omega), bq_p rfl]
            exact ff _ c16 (Prod.ext rfl w16) f16 hX16
        · rw [gd_t (by omega), bq_p rfl]
          exact ff _ c14 (dC _ (by
            unfold prC
            rw [eB]
            show (tkT len B 109 109 (tkT len B 59 59 (0 + 1 + 1, 0)).2).2 = _
            rw [tkT_t n12]
            show (tkT len B 109 109 (0 + 1 + 1 + 1, 0)).2 = _
            rw [tkT_f n14])) (f9.tr ((hF12.tr hF14).mo mt)) hX14
      · rw [gd_t (by omega), bq_p rfl]
        exact ff _ c12 (dC _ (by
          unfold prC
          rw [eB]
          show (tkT len B 109 109 (tkT len B 59 59 (0 + 1 + 1, 0)).2).2 = _
          rw [tkT_f n12]
          show (tkT len B 109 109 (0 + 1 + 1, 1)).2 = _
          rw [tkT_d])) (f9.tr (hF12.mo mt)) hX12
    · rw [gd_t (by omega), bq_p rfl]
      exact ff _ c5 (dB _ (by unfold prB; rw [eA, tkT_f n6])) f5 hX5
  · rw [gd_t (by omega), bq_p rfl]
    have eA : prA len B = (0, 1) := by
      unfold prA
      rw [tkT_f n5]
    exact ff _ c5 (dB _ (by unfold prB; rw [eA, tkT_d])) (hF3.tr (hF5.mo mt)) hX5
end
/-! the calls -/
section
variable {d m : Nat} {z : St} {K : Int}
theorem Tx_z (hL : LI K z) : Tx z.2.2.2.2.2.1 z.2.2.2.2.2.2 := hL.2.2.2.2.2
theorem CI_r {c c' : W0} (hC : CI d z c) (h : Fr (SRe (d + 35)) c c') : FrD d c c' ∧ CI d z c' := ⟨fun q a => h q (by unfold SRe; omega), CI_f2 hC (fun q a b x => h q (by unfold SRe; omega))⟩
theorem MI_r {c c' : W0} (hM : MI m z c) (h : RF m c c') : FrM m c c' ∧ MI m z c' := ⟨fun q a => h.1 q (by omega) (by omega), MI_sc hM (h.1 _ (by omega) (by omega)) (h.1 _ (by omega) (by omega)) (h.1 _ (by omega) (by omega)) (h.1 _ (by omega) (by omega)) (h.2 4 (by decide) (by decide)) (h.2 6 (by decide) (by decide)) (h.2 8 (by decide) (by decide))⟩
theorem c8_firstError (hL : LI K z) : ClI d z (f_X8_firstError d) (prF z.2.2.2.2.2.1 z.2.2.2.2.2.2).1.1 z := by
  intro c hC
  obtain ⟨b, c1, e1, hF, h2, -⟩ := rd8 (th := d + 35) (p1 := d + 29) (by omega) (Tx_z hL) hC.2.2.2.1 hC.2.2.2.2
  unfold f_X8_firstError
  rw [e1, cl_s, h2]
  exact ⟨c1, rfl, CI_r hC hF⟩
theorem m9_firstError (hL : LI K z) : Mo m z (f_X9_firstError m) 0 (prF z.2.2.2.2.2.1 z.2.2.2.2.2.2).1.1 z := by
  intro c hM
  obtain ⟨c1, e1, hF, hR⟩ := read9 (m := m) (c := upc c m (updZ (c m) 0 0)) (Tx_z hL) (by rw [upc_s, updZ_n (by decide)]; exact hM.2.2.2.1) (by rw [upc_n (by omega)]; exact hM.2.2.2.2)
  unfold f_X9_firstError
  dsimp only [sto]
  rw [e1, cl_s, hR.1.1]
  have h := MI_r (MI_t hM) hF
  exact ⟨c1, rfl, fun q a => (h.1 q a).trans (upc_n (by omega)), h.2, by rw [hF.2 0 (by decide) (by decide), upc_s, updZ_s]⟩
/-- what is loaded -/
def ldF (z : St) : Int → Int := fun i => if 0 ≤ i ∧ i < 26 then (prF z.2.2.2.2.2.1 z.2.2.2.2.2.2).2 i else z.1 i
def ldS (z : St) : St := wb (psh z (bgF (ldF z))) 0 z.2.2.2.2.2.2
theorem ldF_i {i : Int} (h : 0 ≤ i ∧ i < 26) : ldF z i = (prF z.2.2.2.2.2.1 z.2.2.2.2.2.2).2 i := if_pos h
theorem ldF_k {i : Int} (h : 26 ≤ i) : ldF z i = z.1 i := if_neg (by omega)
theorem ldF_g (hL : LI K z) (h : prW z.2.2.2.2.2.1 z.2.2.2.2.2.2 = 0) : GdP (ldF z) := by
  obtain ⟨hI, -⟩ := prW_0 (Tx_z hL) h
  obtain ⟨g0, g1, g2, g3, g4⟩ := hI.1
  refine ⟨by rw [ldF_i (by omega)]; exact g0, by rw [ldF_i (by omega)]; exact g1, fun v a b => by rw [ldF_i (by omega)]; exact g2 v a b, fun c v a b a2 b2 => by rw [ldF_i (by omega)]; exact g3 c v a b a2 b2, fun c a b => by rw [ldF_i (by omega)]; exact g4 c a b⟩
theorem ld_li (hL : LI K z) (hK : 0 ≤ K) (h : prW z.2.2.2.2.2.1 z.2.2.2.2.2.2 = 0) : LI K (ldS z) := by
  have g := hL.1
  exact LI_b (psh_li hL (Good_bg hK (ldF_g hL h) (by rw [ldF_k (by omega)]; exact g.2.2.1) (by rw [ldF_k (by omega)]; exact g.2.2.2.2.1) (by rw [ldF_k (by omega)]; exact g.2.2.2.2.2))) (by omega) (fun k a b => by omega)
theorem c8_load (hL : LI K z) : (prW z.2.2.2.2.2.1 z.2.2.2.2.2.2 = 0 → ClX d z (f_X8_load d) 0 (ldF z 1) (ldS z)) ∧ (prW z.2.2.2.2.2.1 z.2.2.2.2.2.2 = 1 → ClX d z (f_X8_load d) 1 0 z) := by
  refine ⟨fun h c hC => ?_, fun h c hC => ?_⟩
  · obtain ⟨b, c2, e2, hF2, -, hb⟩ := rd8 (th := d + 35) (p1 := d + 29) (by omega) (Tx_z hL) hC.2.2.2.1 hC.2.2.2.2
    rcases hb with ⟨rfl, -, hP⟩ | ⟨rfl, hb⟩
    · obtain ⟨hFD2, hC2⟩ := CI_r hC hF2
      obtain ⟨k1, k2, k3, k4, k5⟩ := hC2
      have g := ldF_g hL h
      obtain ⟨c3, e3, hF3, hi3, hS3⟩ := save8 k1 k2
      have hP3 : RepP (d + 39) (prF z.2.2.2.2.2.1 z.2.2.2.2.2.2).2 c3 := RepP_c (show RepP (d + 39) _ c2 from hP) (hF3 _ (by unfold SD; omega)) (hF3 _ (by unfold SD; omega))
      have hR3 : RepS (d + 1) z.1 c3 := RepS_fr k1 (fun q a b => hF3 q (by unfold SD; omega))
      have hi := prW_0 (Tx_z hL) h
      have g1 := hi.1.1.2.1
      -- the problem is copied
      have hP4 : RepP (d + 2) (ldF z) (upc (upc c3 (d + 2) (updZ (updZ (c3 (d + 2)) 0 (c3 (d + 39) 0)) 1 (c3 (d + 39) 1))) (d + 2 + 2) (c3 (d + 39 + 2))) := by
        obtain ⟨r1, r2, r3, r4, r5, r6⟩ := hP3
        have e1 : ldF z 1 = (prF z.2.2.2.2.2.1 z.2.2.2.2.2.2).2 1 := ldF_i (by omega)
        have e0 : ldF z 0 = (prF z.2.2.2.2.2.1 z.2.2.2.2.2.2).2 0 := ldF_i (by omega)
        refine ⟨by rw [upc_n (by omega), upc_s, updZ_n (by decide), updZ_s, r1, e0], by rw [upc_n (by omega), upc_s, updZ_s, r2, e1], fun r v a b a2 b2 => ?_, fun v a b => ?_, fun r a b => ?_, fun r v a b a2 b2 => ?_⟩
        · rw [e1] at b
          rw [upc_s, ldF_i (by omega)]; exact r3 r v a b a2 b2
        · rw [upc_s, ldF_i (by omega)]; exact r4 v a b
        · rw [e1] at b
          rw [upc_s, ldF_i (by omega)]; exact r5 r a b
        · rw [e0] at a2
          rw [upc_s]; exact r6 r v a b a2 b2
      have f4 : Fr (fun q => q = d + 2 ∨ q = d + 4) c3 (upc (upc c3 (d + 2) (updZ (updZ (c3 (d + 2)) 0 (c3 (d + 39) 0)) 1 (c3 (d + 39) 1))) (d + 2 + 2) (c3 (d + 39 + 2))) := (Fr.up (Or.inl rfl)).tr (Fr.up (Or.inr rfl))
      unfold f_X8_load
      rw [e2, cl_s, gd_t (by omega), bq_n (by omega), e3, cl_s]
      unfold f_X2_copy
      rw [gd_t ⟨by omega, by omega, by omega⟩, cl_s]
      generalize upc (upc c3 (d + 2) (updZ (updZ (c3 (d + 2)) 0 (c3 (d + 39) 0)) 1 (c3 (d + 39) 1))) (d + 2 + 2) (c3 (d + 39 + 2)) = c4 at *
      have ed1 : c4 (d + 1) = c3 (d + 1) := f4 _ (by omega)
      obtain ⟨c5, e5, hF5, hR5⟩ := anew8 g hP4 (by rw [ed1, ldF_k (by omega)]; exact hR3.2.2.1) (by rw [ed1, ldF_k (by omega)]; exact hR3.2.2.2.2.1) (by rw [ed1, ldF_k (by omega)]; exact hR3.2.2.2.2.2)
      have hFa : Fr (fun q => d + 1 ≤ q ∧ q < d + 10) c3 c5 := (f4.mo (fun q h => by omega)).tr (hF5.mo (fun q h => by unfold SS9 at h; omega))
      have hCa : CI d (psh z (bgF (ldF z))) c5 := by
        refine ⟨hR5, SvC_fr hS3 (by rw [hFa d (by omega)]) (hFa _ (by omega)) (fun q a b => hFa q (by omega)), ⟨?_, fun hz => ?_⟩, ?_, fun k a b => ?_⟩
        · rw [hFa d (by omega), hi3 9 (by decide)]; exact k3.1
        · exact RepS_fr (k3.2 hz) (fun q a b => (hFa q (by omega)).trans (hF3 q (by unfold SD; omega)))
        · rw [hFa _ (by omega), hF3 _ (by unfold SD; omega)]; exact k4
        · rw [hFa _ (by omega), hF3 _ (by unfold SD; omega)]; exact k5 k a b
      unfold f_X7_clear
      dsimp only [sto]
      rw [e5, cl_s, cl_s]
      have hv : upc c5 (d + 29) (updZ (c5 (d + 29)) 0 0) (d + 2) 1 = ldF z 1 := by
        rw [upc_n (by omega)]
        have := hR5.1.2.1
        rw [bgF_e (by omega)] at this
        exact this
      rw [hv]
      refine ⟨_, rfl, fun q hq => ?_, CI_b hCa (fun q a b x y => upc_n x) (by rw [upc_s, updZ_s]) (fun k a b => by omega)⟩
      rw [upc_n (by omega), hFa q (by omega), hF3 q (by unfold SD; omega)]
      exact hFD2 q hq
    · rw [h] at hb
      omega
  · obtain ⟨b, c2, e2, hF2, -, hb⟩ := rd8 (th := d + 35) (p1 := d + 29) (by omega) (Tx_z hL) hC.2.2.2.1 hC.2.2.2.2
    rcases hb with ⟨rfl, hb, -⟩ | ⟨rfl, hb⟩
    · rw [h] at hb
      omega
    · unfold f_X8_load
      rw [e2, cl_s, gd_t (by omega), bq_p rfl]
      exact ⟨c2, rfl, CI_r hC hF2⟩
theorem m9_load (hL : LI K z) : (prW z.2.2.2.2.2.1 z.2.2.2.2.2.2 = 0 → Mo m z (f_X9_load m) 0 (ldF z 1) (ldS z)) ∧ (prW z.2.2.2.2.2.1 z.2.2.2.2.2.2 = 1 → Mo m z (f_X9_load m) 1 0 z) := by
  refine ⟨fun h c hM => ?_, fun h c hM => ?_⟩
  · obtain ⟨c1, e1, hF, hR⟩ := read9 (m := m) (c := c) (Tx_z hL) hM.2.2.2.1 hM.2.2.2.2
    obtain ⟨hFM, hM1⟩ := MI_r hM hF
    have hi := prW_0 (Tx_z hL) h
    have g1 := hi.1.1.2.1
    have h19 : c1 m 19 = 0 := hR.1.2.trans h
    unfold f_X9_load
    rw [e1, cl_s, h19, gd_t (by omega), jn_e, bq_p rfl]
    try dsimp only
    rw [holds9 (by omega), cl_s, if_pos rfl, gd_t (by omega), bq_n (by omega)]
    have hM6 : MI m z (upc c1 m (updZ (c1 m) 0 0)) := MI_t hM1
    have t6 : upc c1 m (updZ (c1 m) 0 0) m 0 = 0 := by rw [upc_s, updZ_s]
    have q6 : ∀ q, q ≠ m → upc c1 m (updZ (c1 m) 0 0) q = c1 q := fun q a => upc_n a
    generalize upc c1 m (updZ (c1 m) 0 0) = c6 at *
    obtain ⟨c7, e7, h71, hi7, hq7⟩ := sv9_e hM6 hL.2.1
    rw [e7, cl_s]
    have h13 : ∀ i, 0 ≤ i → i < 26 → c7 (m + 13) i = (prF z.2.2.2.2.2.1 z.2.2.2.2.2.2).2 i := fun i a b => by
      rw [hq7 _ (by omega) (by omega), q6 _ (by omega)]
      exact hR.2.1 i a b
    have L : ∀ (κ : W0 → Option (Int × W0)) (k fuel : Nat) (l : Int) (c8 : W0), l + k = 26 → 0 ≤ l → k + 1 ≤ fuel → Fr (fun q => q = m + 1) c7 c8 → (c8 (m + 1) = fun i => if 0 ≤ i ∧ i < l then (prF z.2.2.2.2.2.1 z.2.2.2.2.2.2).2 i else z.1 i) → ∃ c9, f_X9_load_31 m κ fuel l c8 = κ c9 ∧ Fr (fun q => q = m + 1) c7 c9 ∧ c9 (m + 1) = ldF z := by
      intro κ k
      induction k with
      | zero =>
        intro fuel l c8 hl h0 hf hFr hI
        obtain ⟨f, rfl⟩ : ∃ f, fuel = f + 1 := ⟨fuel - 1, by omega⟩
        obtain rfl : l = 26 := by omega
        rw [f_X9_load_31_s]
        unfold b_X9_load_31
        rw [gd_t (by omega), bq_p (by omega)]
        exact ⟨c8, rfl, hFr, hI⟩
      | succ k ih =>
        intro fuel l c8 hl h0 hf hFr hI
        obtain ⟨f, rfl⟩ : ∃ f, fuel = f + 1 := ⟨fuel - 1, by omega⟩
        rw [f_X9_load_31_s]
        unfold b_X9_load_31
        rw [gd_t (by omega), bq_n (by omega), gd_t (by omega), gd_t (by omega)]
        dsimp only [sto]
        refine ih f (l + 1) _ (by omega) (by omega) (by omega) (hFr.tr (Fr.up rfl)) ?_
        rw [upc_s, hI, hFr (m + 13) (by omega), h13 l h0 (by omega)]
        funext i
        unfold updZ
        try dsimp only
        by_cases e : i = l
        · rw [if_pos e, if_pos (show 0 ≤ i ∧ i < l + 1 by omega), e]
        · rw [if_neg e]
          by_cases e2 : 0 ≤ i ∧ i < l
          · rw [if_pos e2, if_pos (show 0 ≤ i ∧ i < l + 1 by omega)]
          · rw [if_neg e2, if_neg (show ¬ (0 ≤ i ∧ i < l + 1) by omega)]
    obtain ⟨c9, e9, hF9, h91⟩ := L (fun c9 => cl (f_X9_begins m c9) fun _ c10 => sto c10 m 8 0 fun c12 => some ((c12 (m + 1) 1), c12)) 26 LF 0 c7 (by omega) (by omega) (by rw [LF_g]; omega) Fr.rf (by
      rw [h71]
      funext i
      rw [if_neg (by omega)])
    rw [e9]
    try dsimp only
    have g := ldF_g hL h
    obtain ⟨c10, e10, hFM10, hM10, t10, h101⟩ := chg9 (F1 := ldF z) hM6 hL.2.1 g.2.1 e7 hF9 h91
    rw [e10, cl_s]
    dsimp only [sto]
    have hv : upc c10 m (updZ (c10 m) 8 0) (m + 1) 1 = ldF z 1 := by
      rw [upc_n (by omega), h101, bgF_e (by omega)]
    rw [hv]
    refine ⟨_, rfl, fun q hq => ?_, MI_b hM10 (fun q a b => upc_n a) (by rw [upc_s, updZ_n (by decide)]) (by rw [upc_s, updZ_n (by decide)]) (by rw [upc_s, updZ_s]) (fun k a b => by omega), by rw [upc_s, updZ_n (by decide), t10]; exact t6⟩
    rw [upc_n (by omega), hFM10 q hq, q6 q (by omega)]
    exact hFM q hq
  · obtain ⟨c1, e1, hF, hR⟩ := read9 (m := m) (c := c) (Tx_z hL) hM.2.2.2.1 hM.2.2.2.2
    obtain ⟨hFM, hM1⟩ := MI_r hM hF
    have h19 : c1 m 19 = 1 := hR.1.2.trans h
    unfold f_X9_load
    rw [e1, cl_s, h19, gd_t (by omega), jn_e, bq_n (by omega)]
    try dsimp only
    rw [holds9 (by omega), cl_s, if_neg (by omega), gd_t (by omega), bq_p rfl]
    exact ⟨_, rfl, FrM.tr hFM FrM_t, MI_t hM1, by rw [upc_s, updZ_s]⟩
end
end TD
