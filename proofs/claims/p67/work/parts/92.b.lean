section LB
/-- both desks: o at 0 in state z, p at 105 in state y -/
def WW (z y : St) (c : W0) : Prop := CI 0 z c ∧ CI 105 y c
theorem WW_o (y : St) : FOK 0 (fun z c => WW z y c) := ⟨fun z c h => h.1, fun z z' c c1 h hf hC => ⟨hC, CI_fr h.2 (fun q a b => hf q (Or.inr (by omega)))⟩⟩
theorem WW_p (z : St) : FOK 105 (fun y c => WW z y c) := ⟨fun y c h => h.2, fun y y' c c1 h hf hC => ⟨CI_fr h.1 (fun q a b => hf q (Or.inl (by omega))), hC⟩⟩
theorem al_E {z y : St} {K : Int} {c : W0} (h : WW z y c) (hz : LI K z) (hy : LI K y) (hK : K ≤ 1000000) (e : y.1 = z.1) : ∃ c1, f_L_areAlike 0 105 c = some (1, c1) ∧ WW z y c1 := L_alike ((WW_o y).s z) ((WW_p z).s y) hz hy hK e c h
theorem act_0 {F : Int → Int} {K t a v : Int} {F2 : Int → Int} (hA : ActO F K (fun d c => f_L_act d v 210 c) t a F2) {z y : St} {c : W0} (h : WW z y c) (hz : LI K z) (e : z.1 = F) : ∃ c1, f_L_act 0 v 210 c = some (t, c1) ∧ ((t = 0 ∧ WW (psh z F2) y c1 ∧ c1 210 0 = a) ∨ (¬ t = 0 ∧ WW z y c1)) := by
  obtain ⟨c1, e1, e2, e3⟩ := hA.2.2.2 0 z c (by omega) e hz h.1
  refine ⟨c1, e1, ?_⟩
  have hp : CI 105 y c1 := CI_fr h.2 (fun q a b => e2 q (Or.inr (by omega)) (by omega))
  rcases e3 with ⟨h1, h2, h3⟩ | ⟨h1, h2⟩
  · exact Or.inl ⟨h1, ⟨h2, hp⟩, h3⟩
  · exact Or.inr ⟨h1, h2, hp⟩
theorem act_1 {F : Int → Int} {K t a v : Int} {F2 : Int → Int} (hA : ActO F K (fun d c => f_L_act d v 210 c) t a F2) {z y : St} {c : W0} (h : WW z y c) (hy : LI K y) (e : y.1 = F) : ∃ c1, f_L_act 105 v 210 c = some (t, c1) ∧ ((t = 0 ∧ WW z (psh y F2) c1 ∧ c1 210 0 = a) ∨ (¬ t = 0 ∧ WW z y c1)) := by
  obtain ⟨c1, e1, e2, e3⟩ := hA.2.2.2 105 y c (by omega) e hy h.2
  refine ⟨c1, e1, ?_⟩
  have hp : CI 0 z c1 := CI_fr h.1 (fun q a b => e2 q (Or.inl (by omega)) (by omega))
  rcases e3 with ⟨h1, h2, h3⟩ | ⟨h1, h2⟩
  · exact Or.inl ⟨h1, ⟨hp, h2⟩, h3⟩
  · exact Or.inr ⟨h1, hp, h2⟩
theorem undo_0 {z y : St} {K : Int} {F' : Int → Int} {c : W0} (h : WW (psh z F') y c) (hz : LI K z) (hg : Good K F') : (∃ c1, f_X8_undo 0 c = some (0, if z.2.1 = 6 then 5 else z.2.1, c1) ∧ WW (udS z) y c1) ∧ LI K (udS z) := by
  obtain ⟨h1, h2⟩ := undo_ps (d := 0) hz hg
  obtain ⟨c1, e1, e2, e3⟩ := h1 c h.1
  rw [(ps_top z hz.2.1).2.2] at e1
  exact ⟨⟨c1, e1, (WW_o y).2 _ _ c c1 h e2 e3⟩, h2⟩
abbrev lvL (M b : Nat) (e : Int) : List (Nat × Value) := [(0, .ref b), (1, .ref (M + 0)), (2, .ref (M + 105)), (3, .ref (M + 210)), (4, vI e)]
abbrev lvB (M b : Nat) (e v n t a : Int) : List (Nat × Value) := [(0, .ref b), (1, .ref (M + 0)), (2, .ref (M + 105)), (3, .ref (M + 210)), (4, vI e), (5, vI v), (6, vI n), (7, vI t), (8, vI a)]
theorem lvL_a {M b : Nat} {e : Int} {lv : List (Nat × Value)} (h0 : lvG lv 0 = some (.ref b)) (h1 : lvG lv 1 = some (.ref (M + 0))) (h2 : lvG lv 2 = some (.ref (M + 105))) (h3 : lvG lv 3 = some (.ref (M + 210))) (h4 : lvG lv 4 = some (vI e)) : lvA lv (lvL M b e) := lvA_c h0 (lvA_c h1 (lvA_c h2 (lvA_c h3 (lvA_c h4 lvA_n))))
section
variable {Φ : gwC} {hb : gwHp} {M b L B : Nat} {xs : Nat → Int32} {Z : gwE} {x : Option Nat}
/-- behind a turn -/
def LK (Φ : gwC) (hb : gwHp) (M b L : Nat) (xs : Nat → Int32) (Z : gwE) (B : Nat) (x : Option Nat) (pc : Nat) (e K : Int) (cells slots : Nat) : Prop := ∀ (z y : St) (c : W0) (cells' slots' : Nat) (lv : List (Nat × Value)), LI K z → LI K y → y.1 = z.1 → WW z y c → cells' ≤ cells → slots' ≤ slots → lvA lv (lvL M b e) → G Φ mL_law (EP (PL9 b L B xs) Z) x cells' slots' pc lv [] (hp Φ hb M shA c)
set_option maxRecDepth 100000 in
set_option maxHeartbeats 4000000 in
/-- from 184 on: the checks, once in three turns -/
theorem law_184 {e K : Int} {cells slots : Nat} (he : 0 ≤ e ∧ e ≤ 1000) (hK0 : 0 ≤ K) (hK : K ≤ 900000) (hc : cells ≤ 500000) (hs : slots ≤ 6000000) (k : LK Φ hb M b L xs Z B x 231 e (K + 40) (cells + 16) (slots + 96)) : LK Φ hb M b L xs Z B x 184 e K cells slots := by
  intro z y c cells' slots' lv hz hy hzy hW hc' hs' hlv
  refine gw_L ?_ hlv
  refine gw_iload dL_law_184 rfl rfl ?_
  refine gw_iconstZ dL_law_186 rfl ?_
  refine gw_iremZ dL_law_187 rfl (by decide) ⟨by omega, by omega⟩ (by decide) ?_
  refine gw_iconstZ dL_law_188 rfl ?_
  have h3 : 0 ≤ Int.tmod e 3 ∧ Int.tmod e 3 < 3 := ⟨Int.tmod_nonneg 3 he.1, Int.tmod_lt_of_pos e (by decide)⟩
  have kk : ∀ (z y : St) (c : W0) (cells' slots' : Nat) (lv : List (Nat × Value)), LI (K + 40) z → LI (K + 40) y → y.1 = z.1 → WW z y c → cells' ≤ cells + 16 → slots' ≤ slots + 96 → lvA lv (lvL M b e) → G Φ mL_law (EP (PL9 b L B xs) Z) x cells' slots' 231 lv [] (hp Φ hb M shA c) := k
  refine gw_icmp_neZ (tgt := 231) dL_law_189 rfl (by decide) ⟨by omega, by omega⟩ (by decide) (fun q => ?_) (fun q => ?_)
  · exact kk z y c _ _ _ (hz.mo (by omega)) (hy.mo (by omega)) hzy hW (by omega) (by omega) (lvL_a rfl rfl rfl rfl rfl)
  · obtain ⟨c1, e1, hW⟩ := L_sol ((WW_o y).s z) hz c hW
    obtain ⟨c2, e2, hW⟩ := L_col ((WW_o y).s z) hz c1 hW
    obtain ⟨c3, e3, hW⟩ := L_bas ((WW_o y).s z) hz c2 hW
    obtain ⟨z4, c4, e4, hW, hzz, hz4⟩ : ∃ z4 c4, f_L_isStepTo 0 210 c3 = some (1, c4) ∧ WW z4 y c4 ∧ z4.1 = z.1 ∧ LI (K + 40) z4 := L_stp (o := 210) (WW_o y) hz hK0 (by omega) (T := fun o => ∃ z4 c4, o = some (1, c4) ∧ WW z4 y c4 ∧ z4.1 = z.1 ∧ LI (K + 40) z4) (fun z' c1 p1 p2 p3 => ⟨z', c1, rfl, p1, p2, p3⟩) hW
    obtain ⟨c5, e5, hW⟩ := al_E hW hz4 (hy.mo (by omega)) (by omega) (hzy.trans hzz.symm)
    refine gw_aload_n dL_law_192 rfl rfl ?_
    refine la_isSolutionSo shA_D (by omega) (by omega) dL_law_193 e1 ?_ (by decide)
    refine gw_if_eqZ (tgt := 229) dL_law_196 rfl (by decide) (by decide) (fun q => absurd q (by decide)) (fun _ => ?_)
    refine gw_aload_n dL_law_199 rfl rfl ?_
    refine la_areColumnsSo shA_D (by omega) (by omega) dL_law_200 e2 ?_ (by decide)
    refine gw_if_eqZ (tgt := 229) dL_law_203 rfl (by decide) (by decide) (fun q => absurd q (by decide)) (fun _ => ?_)
    refine gw_aload_n dL_law_206 rfl rfl ?_
    refine la_areBasesSo shA_D (by omega) (by omega) dL_law_207 e3 ?_ (by decide)
    refine gw_if_eqZ (tgt := 229) dL_law_210 rfl (by decide) (by decide) (fun q => absurd q (by decide)) (fun _ => ?_)
    refine gw_aload_n dL_law_213 rfl rfl ?_
    refine gw_aload_n dL_law_214 rfl rfl ?_
    refine la_isStepSo shA_D shA_o (by omega) (by omega) dL_law_215 e4 ?_ (by decide)
    refine gw_if_eqZ (tgt := 229) dL_law_218 rfl (by decide) (by decide) (fun q => absurd q (by decide)) (fun _ => ?_)
    refine gw_aload_n dL_law_221 rfl rfl ?_
    refine gw_aload_n dL_law_222 rfl rfl ?_
    refine la_areAlike shA_D shA_P (by omega) (by omega) dL_law_223 e5 ?_ (by decide)
    refine gw_if_neZ (tgt := 231) dL_law_226 rfl (by decide) (by decide) (fun _ => ?_) (fun q => absurd q (by decide))
    exact kk z4 y c5 _ _ _ hz4 (hy.mo (by omega)) (hzy.trans hzz.symm) hW (by omega) (by omega) (lvL_a rfl rfl rfl rfl rfl)
set_option maxRecDepth 100000 in
set_option maxHeartbeats 4000000 in
/-- from 149 on: the other desk's act -/
theorem law_149 {e v n t a w K : Int} {F F2 : Int → Int} {cells slots : Nat} (hA : ActO F K (fun d c => f_L_act d v 210 c) t a F2) (hK0 : 0 ≤ K) (hK : K ≤ 900000) (hc : cells ≤ 500000) (hs : slots ≤ 6000000) (k : LK Φ hb M b L xs Z B x 184 e (K + 40) (cells + 16) (slots + 96)) (z y : St) (c : W0) (cells' slots' : Nat) (lv : List (Nat × Value)) (hz : LI (K + 40) z) (hy : LI K y) (hyF : y.1 = F) (hzF : z.1 = if t = 0 then F2 else F) (hW : WW z y c) (hc' : cells' ≤ cells) (hs' : slots' ≤ slots) (hw : t = 0 → w = a) (hlv : lvA lv (lvB M b e v n t w)) : G Φ mL_law (EP (PL9 b L B xs) Z) x cells' slots' 149 lv [] (hp Φ hb M shA c) := by
  obtain ⟨c1, e1, h1⟩ := act_1 hA hW hy hyF
  have ht := hA.2.1; have ha := hA.2.2.1
  refine gw_L ?_ hlv
  refine gw_aload_n dL_law_149 rfl rfl ?_
  refine gw_iload dL_law_150 rfl rfl ?_
  refine gw_aload_n dL_law_152 rfl rfl ?_
  refine la_act shA_P shA_o (by omega) (by omega) dL_law_153 e1 ?_ (by decide)
  refine gw_iload dL_law_156 rfl rfl ?_
  refine gw_icmp_neZ (tgt := 182) dL_law_158 rfl (by decide) ⟨by omega, by omega⟩ ⟨by omega, by omega⟩ (fun q => absurd rfl q) (fun _ => ?_)
  refine gw_iload dL_law_161 rfl rfl ?_
  have fin : ∀ (y' : St) (c2 : W0), LI (K + 40) y' → y'.1 = z.1 → WW z y' c2 → G Φ mL_law (EP (PL9 b L B xs) Z) x (cells' + 16) (slots' + 96) 174 (lvB M b e v n t w) [] (hp Φ hb M shA c2) := by
    intro y' c2 hy' hyz hW'
    obtain ⟨c3, e3, hW3⟩ := al_E hW' hz hy' (by omega) hyz
    refine gw_aload_n dL_law_174 rfl rfl ?_
    refine gw_aload_n dL_law_175 rfl rfl ?_
    refine la_areAlike shA_D shA_P (by omega) (by omega) dL_law_176 e3 ?_ (by decide)
    refine gw_if_neZ (tgt := 184) dL_law_179 rfl (by decide) (by decide) (fun _ => ?_) (fun q => absurd q (by decide))
    exact k z y' c3 _ _ _ hz hy' hyz hW3 (by omega) (by omega) (lvL_a rfl rfl rfl rfl rfl)
  rcases h1 with ⟨h2, h3, h4⟩ | ⟨h2, h3⟩
  · refine gw_if_neZ (tgt := 174) dL_law_163 rfl (by decide) ⟨by omega, by omega⟩ (fun q => absurd h2 q) (fun _ => ?_)
    refine gw_aload_n dL_law_166 rfl rfl ?_
    refine gw_iconstZ dL_law_167 rfl ?_
    refine gs_ialdZ dL_law_168 rfl shA_o (by decide) (by decide) ?_
    refine gw_iload dL_law_169 rfl rfl ?_
    have hw9 := hw h2
    refine gw_icmp_neZ (tgt := 182) dL_law_171 rfl (by decide) ⟨by omega, by omega⟩ ⟨by omega, by omega⟩ (fun q => absurd (h4.trans hw9.symm) q) (fun _ => ?_)
    rw [if_pos h2] at hzF
    exact fin (psh y F2) c1 (psh_li (hy.mo (by omega)) (hA.1 h2)) hzF.symm h3
  · refine gw_if_neZ (tgt := 174) dL_law_163 rfl (by decide) ⟨by omega, by omega⟩ (fun _ => ?_) (fun q => absurd q h2)
    rw [if_neg h2] at hzF
    exact fin y c1 (hy.mo (by omega)) (hyF.trans hzF.symm) h3
set_option maxRecDepth 100000 in
set_option maxHeartbeats 4000000 in
/-- one turn -/
theorem law_turn {e K : Int} {cells slots : Nat} (hB : Φ.2.1 = B) (hL : L ≤ 260) (he : 0 ≤ e ∧ e < 52) (hK0 : 0 ≤ K) (hK : K ≤ 800000) (hc : cells ≤ 400000) (hs : slots ≤ 5000000) (k : LK Φ hb M b L xs Z B x 231 e (K + 200) (cells + 64) (slots + 384)) : LK Φ hb M b L xs Z B x 23 e K cells slots := by
  intro z y c cells' slots' lv hz hy hzy hW hc' hs' hlv
  have hk184 : LK Φ hb M b L xs Z B x 184 e (K + 160) (cells + 48) (slots + 288) := law_184 ⟨by omega, by omega⟩ (by omega) (by omega) (by omega) (by omega) (fun z y c c' s' lv p1 p2 p3 p4 p5 p6 p7 => k z y c c' s' lv (p1.mo (by omega)) (p2.mo (by omega)) p3 p4 (by omega) (by omega) p7)
  obtain ⟨t, a, F2, hA⟩ := act_o (v := cellZ xs L e) hz.1 (by omega)
  have ht := hA.2.1; have ha := hA.2.2.1
  have k149 : ∀ (w : Int) (z' y' : St) (c : W0) (cells' slots' : Nat) (lv : List (Nat × Value)), (t = 0 → w = a) → LI (K + 40) z' → LI K y' → y'.1 = z.1 → (z'.1 = if t = 0 then F2 else z.1) → WW z' y' c → cells' ≤ cells + 32 → slots' ≤ slots + 192 → lvA lv (lvB M b e (cellZ xs L e) z.2.1 t w) → G Φ mL_law (EP (PL9 b L B xs) Z) x cells' slots' 149 lv [] (hp Φ hb M shA c) := fun w z' y' c c' s' lv p0 p1 p2 p3 p4 p5 p6 p7 p8 => law_149 (cells := cells + 32) (slots := slots + 192) hA hK0 (by omega) (by omega) (by omega) (fun z y c c2 s2 lv q1 q2 q3 q4 q5 q6 q7 => hk184 z y c c2 s2 lv (q1.mo (by omega)) (q2.mo (by omega)) q3 q4 (by omega) (by omega) q7) z' y' c c' s' lv p1 p2 p3 p4 p5 p6 p7 p0 p8
  obtain ⟨c1, e1, h1⟩ := act_0 hA hW hz rfl
  have hn := hz.2.1
  refine gw_L ?_ hlv
  refine gw_iload dL_law_23 rfl rfl ?_
  refine gw_bipushZ dL_law_25 rfl (by decide) ?_
  refine gw_icmp_geZ (tgt := 237) dL_law_27 rfl (by decide) ⟨by omega, by omega⟩ (by decide) (fun q => absurd q (by omega)) (fun _ => ?_)
  refine gw_aload_n dL_law_30 rfl rfl ?_
  refine gw_iload dL_law_31 rfl rfl ?_
  refine la_cell hB hL ⟨by omega, by omega⟩ (by omega) (by omega) ?_
  refine gw_istore dL_law_36 rfl (by decide) ?_
  refine gw_aload_n dL_law_38 rfl rfl ?_
  refine la_saved shA_D (by omega) (by omega) dL_law_39 (c8_savedStates hW.1) ?_ (by decide)
  refine gw_istore dL_law_42 rfl (by decide) ?_
  refine gw_aload_n dL_law_44 rfl rfl ?_
  refine gw_iload dL_law_45 rfl rfl ?_
  refine gw_aload_n dL_law_47 rfl rfl ?_
  refine la_act shA_D shA_o (by omega) (by omega) dL_law_48 e1 ?_ (by decide)
  refine gw_istore dL_law_51 rfl (by decide) ?_
  refine gw_aload_n dL_law_53 rfl rfl ?_
  refine gw_iconstZ dL_law_54 rfl ?_
  refine gs_ialdZ dL_law_55 rfl shA_o (by decide) (by decide) ?_
  refine gw_istore dL_law_56 rfl (by decide) ?_
  refine gw_iload dL_law_58 rfl rfl ?_
  rcases h1 with ⟨h2, hW1, h4⟩ | ⟨h2, hW1⟩
  · -- done
    refine gw_if_eqZ (tgt := 82) dL_law_60 rfl (by decide) ⟨by omega, by omega⟩ (fun _ => ?_) (fun q => absurd h2 q)
    rw [h4]
    refine gw_iload dL_law_82 rfl rfl ?_
    refine gw_if_neZ (tgt := 149) dL_law_84 rfl (by decide) ⟨by omega, by omega⟩ (fun q => absurd h2 q) (fun _ => ?_)
    refine gw_iload dL_law_87 rfl rfl ?_
    refine gw_bipushZ dL_law_89 rfl (by decide) ?_
    refine gw_ishrZ dL_law_91 rfl ?_
    refine gw_iconstZ dL_law_92 rfl ?_
    refine gw_iandZ dL_law_93 rfl ?_
    have hbit := and1 (ishrZ (cellZ xs L e) 9)
    refine gw_if_neZ (tgt := 149) dL_law_94 rfl (by decide) ⟨by omega, by omega⟩ (fun _ => ?_) (fun _ => ?_)
    · exact k149 a (psh z F2) y c1 _ _ _ (fun _ => rfl) (psh_li (hz.mo (by omega)) (hA.1 h2)) hy hzy (by rw [if_pos h2]; rfl) hW1 (by omega) (by omega) (lvA_c rfl (lvA_c rfl (lvA_c rfl (lvA_c rfl (lvA_c rfl (lvA_c rfl (lvA_c rfl (lvA_c rfl (lvA_c rfl lvA_n)))))))))
    · obtain ⟨⟨c2, e2, hW2⟩, -⟩ := undo_0 hW1 (hz.mo (show K ≤ K + 40 by omega)) (hA.1 h2)
      have hzu : LI K (udS z) := (undo_ps (d := 0) hz (F' := z.1) hz.1).2
      obtain ⟨c3, e3, hW3⟩ := al_E hW2 hzu hy (by omega) hzy
      obtain ⟨c4, e4, h5⟩ := act_0 hA hW3 hzu rfl
      rcases h5 with ⟨-, hW4, h6⟩ | ⟨h5, -⟩
      rotate_left
      · exact absurd h2 h5
      refine gw_aload_n dL_law_97 rfl rfl ?_
      refine la_undo shA_D (by omega) (by omega) dL_law_98 e2 ?_ (by decide)
      refine gw_istore dL_law_101 rfl (by decide) ?_
      refine gw_iload dL_law_103 rfl rfl ?_
      refine gw_iload dL_law_105 rfl rfl ?_
      refine gw_bipushZ dL_law_107 rfl (by decide) ?_
      have k121 : G Φ mL_law (EP (PL9 b L B xs) Z) x (cells' + 16) (slots' + 96) 121 (lvB M b e (cellZ xs L e) z.2.1 t a) [] (hp Φ hb M shA c2) := by
        refine gw_aload_n dL_law_121 rfl rfl ?_
        refine gw_aload_n dL_law_122 rfl rfl ?_
        refine la_areAlike shA_D shA_P (by omega) (by omega) dL_law_123 e3 ?_ (by decide)
        refine gw_if_eqZ (tgt := 147) dL_law_126 rfl (by decide) (by decide) (fun q => absurd q (by decide)) (fun _ => ?_)
        refine gw_aload_n dL_law_129 rfl rfl ?_
        refine gw_iload dL_law_130 rfl rfl ?_
        refine gw_aload_n dL_law_132 rfl rfl ?_
        refine la_act shA_D shA_o (by omega) (by omega) dL_law_133 e4 ?_ (by decide)
        refine gw_if_neZ (tgt := 147) dL_law_136 rfl (by decide) ⟨by omega, by omega⟩ (fun q => absurd h2 q) (fun _ => ?_)
        refine gw_aload_n dL_law_139 rfl rfl ?_
        refine gw_iconstZ dL_law_140 rfl ?_
        refine gs_ialdZ dL_law_141 rfl shA_o (by decide) (by decide) ?_
        refine gw_iload dL_law_142 rfl rfl ?_
        refine gw_icmp_eqZ (tgt := 149) dL_law_144 rfl (by decide) ⟨by omega, by omega⟩ ⟨by omega, by omega⟩ (fun _ => ?_) (fun q => absurd h6 q)
        exact k149 a (psh (udS z) F2) y c4 _ _ _ (fun _ => rfl) (psh_li (hzu.mo (by omega)) (hA.1 h2)) hy hzy (by rw [if_pos h2]; rfl) hW4 (by omega) (by omega) (lvA_c rfl (lvA_c rfl (lvA_c rfl (lvA_c rfl (lvA_c rfl (lvA_c rfl (lvA_c rfl (lvA_c rfl (lvA_c rfl lvA_n)))))))))
      by_cases h6' : z.2.1 = 6
      · rw [if_pos h6']
        refine gw_icmp_neZ (tgt := 116) dL_law_109 rfl (by decide) ⟨by omega, by omega⟩ (by decide) (fun q => absurd h6' q) (fun _ => ?_)
        refine gw_iconstZ dL_law_112 rfl ?_
        refine gw_goto (tgt := 118) dL_law_113 (by decide) ?_
        refine gw_icmp_neZ (tgt := 147) dL_law_118 rfl (by decide) (by decide) (by decide) (fun q => absurd rfl q) (fun _ => ?_)
        exact gw_L k121 (lvA_c rfl (lvA_c rfl (lvA_c rfl (lvA_c rfl (lvA_c rfl (lvA_c rfl (lvA_c rfl (lvA_c rfl (lvA_c rfl lvA_n)))))))))
      · rw [if_neg h6']
        refine gw_icmp_neZ (tgt := 116) dL_law_109 rfl (by decide) ⟨by omega, by omega⟩ (by decide) (fun _ => ?_) (fun q => absurd q h6')
        refine gw_iload dL_law_116 rfl rfl ?_
        refine gw_icmp_neZ (tgt := 147) dL_law_118 rfl (by decide) ⟨by omega, by omega⟩ ⟨by omega, by omega⟩ (fun q => absurd rfl q) (fun _ => ?_)
        exact gw_L k121 (lvA_c rfl (lvA_c rfl (lvA_c rfl (lvA_c rfl (lvA_c rfl (lvA_c rfl (lvA_c rfl (lvA_c rfl (lvA_c rfl lvA_n)))))))))
  · -- thrown
    obtain ⟨c2, e2, hW2⟩ := al_E hW1 hz hy (by omega) hzy
    refine gw_if_eqZ (tgt := 82) dL_law_60 rfl (by decide) ⟨by omega, by omega⟩ (fun q => absurd q h2) (fun _ => ?_)
    refine gw_aload_n dL_law_63 rfl rfl ?_
    refine gw_aload_n dL_law_64 rfl rfl ?_
    refine la_areAlike shA_D shA_P (by omega) (by omega) dL_law_65 e2 ?_ (by decide)
    refine gw_if_eqZ (tgt := 80) dL_law_68 rfl (by decide) (by decide) (fun q => absurd q (by decide)) (fun _ => ?_)
    refine gw_aload_n dL_law_71 rfl rfl ?_
    refine la_saved shA_D (by omega) (by omega) dL_law_72 (c8_savedStates hW2.1) ?_ (by decide)
    refine gw_iload dL_law_75 rfl rfl ?_
    refine gw_icmp_eqZ (tgt := 82) dL_law_77 rfl (by decide) ⟨by omega, by omega⟩ ⟨by omega, by omega⟩ (fun _ => ?_) (fun q => absurd rfl q)
    refine gw_iload dL_law_82 rfl rfl ?_
    refine gw_if_neZ (tgt := 149) dL_law_84 rfl (by decide) ⟨by omega, by omega⟩ (fun _ => ?_) (fun q => absurd q h2)
    exact k149 (c1 210 0) z y c2 _ _ _ (fun h => absurd h h2) (hz.mo (by omega)) hy hzy (by rw [if_neg h2]) hW2 (by omega) (by omega) (lvA_c rfl (lvA_c rfl (lvA_c rfl (lvA_c rfl (lvA_c rfl (lvA_c rfl (lvA_c rfl (lvA_c rfl (lvA_c rfl lvA_n)))))))))
end
end LB
