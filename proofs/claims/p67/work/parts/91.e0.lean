section CE
theorem hts_W {args : Array Value} {s : State} (hts : ∀ w ∈ lw_tbl, w.before args s = true) : ∀ w ∈ gw_W, w.before args s = true := fun w hw => hts w (List.mem_filter.mp hw).1
theorem NW_at {args : Array Value} {s : State} (hts : ∀ w ∈ lw_tbl, w.before args s = true) : ∀ w ∈ gw_NW, va_Nw w s := by
  intro w hw
  have h := hts w (List.mem_filter.mp hw).1
  have hg := (List.mem_filter.mp hw).2
  unfold gw_isN at hg
  split at hg
  · exact va_Nw.of rfl h
  · exact va_Nw.of rfl h
  · exact va_Nw.of rfl h
  · exact va_Nw.of rfl h
  · exact va_AO.of h
  · cases hg
theorem str_at {args : Array Value} {s : State} {own tx : String} {k : Nat} (h1 : (Cond.stringRef own k tx).before args s = true) (h2 : (Cond.exactly (.string own k) "java/lang/String").before args s = true) : ∃ sa, vk_R own k tx sa s := by
  obtain ⟨a, c, cell, kk, h3, -⟩ := Cond.exactly_spec h2
  exact ⟨a, vk_R.of h1 h3⟩
set_option maxRecDepth 100000 in
set_option maxHeartbeats 4000000 in
theorem strs_at {b : Nat} {s : State} (hts : ∀ w ∈ lw_tbl, w.before #[Value.ref b] s = true) (hgv : (Jvm.Cond.and given_1 narrow_1).before #[Value.ref b] s = true) : ∀ q ∈ gw_strs, ∃ sa, vk_R q.1 q.2.1 q.2.2 sa s := by
  have hs := flat_of_before _ hgv
  exact List.forall_mem_cons.mpr ⟨str_at (hts _ (List.mem_of_getElem? (i := 312) (by decide +kernel))) (hs _ (by decide +kernel)), List.forall_mem_cons.mpr ⟨str_at (hts _ (List.mem_of_getElem? (i := 400) (by decide +kernel))) (hs _ (by decide +kernel)), List.forall_mem_cons.mpr ⟨str_at (hts _ (List.mem_of_getElem? (i := 473) (by decide +kernel))) (hs _ (by decide +kernel)), List.forall_mem_cons.mpr ⟨str_at (hts _ (List.mem_of_getElem? (i := 483) (by decide +kernel))) (hs _ (by decide +kernel)), List.forall_mem_cons.mpr ⟨str_at (hts _ (List.mem_of_getElem? (i := 496) (by decide +kernel))) (hs _ (by decide +kernel)), List.forall_mem_cons.mpr ⟨str_at (hts _ (List.mem_of_getElem? (i := 497) (by decide +kernel))) (hs _ (by decide +kernel)), List.forall_mem_cons.mpr ⟨str_at (hts _ (List.mem_of_getElem? (i := 518) (by decide +kernel))) (hs _ (by decide +kernel)), List.forall_mem_cons.mpr ⟨str_at (hts _ (List.mem_of_getElem? (i := 543) (by decide +kernel))) (hs _ (by decide +kernel)), List.forall_mem_cons.mpr ⟨str_at (hts _ (List.mem_of_getElem? (i := 548) (by decide +kernel))) (hs _ (by decide +kernel)), List.forall_mem_cons.mpr ⟨str_at (hts _ (List.mem_of_getElem? (i := 578) (by decide +kernel))) (hs _ (by decide +kernel)), List.forall_mem_cons.mpr ⟨str_at (hts _ (List.mem_of_getElem? (i := 615) (by decide +kernel))) (hs _ (by decide +kernel)), List.forall_mem_cons.mpr ⟨str_at (hts _ (List.mem_of_getElem? (i := 644) (by decide +kernel))) (hs _ (by decide +kernel)), fun _ h => absurd h List.not_mem_nil⟩⟩⟩⟩⟩⟩⟩⟩⟩⟩⟩⟩
theorem nc_at {b : Nat} {s : State} (hgv : (Jvm.Cond.and given_1 narrow_1).before #[Value.ref b] s = true) : ∀ q ∈ gw_nc, va_Nc q.1 q.2 s := by
  have hs := flat_of_before _ hgv
  exact List.forall_mem_cons.mpr ⟨va_Nc.of (hs _ (by decide +kernel)), List.forall_mem_cons.mpr ⟨va_Nc.of (hs _ (by decide +kernel)), List.forall_mem_cons.mpr ⟨va_Nc.of (hs _ (by decide +kernel)), List.forall_mem_cons.mpr ⟨va_Nc.of (hs _ (by decide +kernel)), List.forall_mem_cons.mpr ⟨va_Nc.of (hs _ (by decide +kernel)), List.forall_mem_cons.mpr ⟨va_Nc.of (hs _ (by decide +kernel)), fun _ h => absurd h List.not_mem_nil⟩⟩⟩⟩⟩⟩
theorem arr_at {ty : FieldType} {args : Array Value} {s : State} (h : (Cond.arrayClass ty).before args s = true) (hp : ∀ k, ty ≠ .object k) (hty : ∀ cA, s.vm.findClass ("[" ++ ty.toString) = some cA → va_RA s cA ty) : ∃ cA, ArrOfT s cA ty ∧ va_RA s cA ty := by
  obtain ⟨c, k, comp, h1, h2, h3⟩ := Cond.arrayClass_spec h
  exact ⟨c, fun n z => ⟨(fun k h => by cases h), k, h2, comp, h3⟩, hty c h1⟩
theorem arrR_at {args : Array Value} {s : State} (h : (Cond.arrayOver (.object RX4)).before args s = true) : ∃ cA, ArrOfT s cA (.object RX4) ∧ va_RA s cA (.object RX4) := by
  obtain ⟨comp, c, k, h1, h2, h3, h4, h5⟩ := Cond.arrayOver_spec h
  exact ⟨c, fun n z => ⟨(fun k h => by cases h), k, h3, comp, h4⟩, k, comp, h3, h4, h1, h5⟩
theorem K_at {args : Array Value} {s : State} (hts : ∀ w ∈ lw_tbl, w.before args s = true) : ∃ (dC : Nat → ClassId) (dI : Nat → Nat → Nat), ∀ (k : Nat) (q : vw_C), vwCl[k]? = some q → u_Kn s q.1 q.2.1 q.2.2 (dC k) (dI k) := by
  have hW := hts_W hts
  obtain ⟨c0, i0, h0⟩ := u_known (C := RX0) (T := TX0) (N := 3) (n := 3) hW inW0 (hW _ kw_181)
  obtain ⟨c1, i1, h1⟩ := u_known (C := RX1) (T := TX1) (N := 2) (n := 2) hW inW1 (hW _ kw_56)
  obtain ⟨c2, i2, h2⟩ := u_known (C := RX2) (T := TX2) (N := 3) (n := 3) hW inW2 (hW _ kw_50)
  obtain ⟨c3, i3, h3⟩ := u_known (C := RX3) (T := TX3) (N := 3) (n := 3) hW inW3 (hW _ kw_162)
  obtain ⟨c4, i4, h4⟩ := u_known (C := RX4) (T := TX4) (N := 6) (n := 6) hW inW4 (hW _ kw_44)
  obtain ⟨c5, i5, h5⟩ := u_known (C := RX5) (T := TX5) (N := 6) (n := 6) hW inW5 (hW _ kw_202)
  obtain ⟨c6, i6, h6⟩ := u_known (C := RX6) (T := TX6) (N := 5) (n := 5) hW inW6 (hW _ kw_93)
  obtain ⟨c7, i7, h7⟩ := u_known (C := RX7) (T := TX7) (N := 2) (n := 2) hW inW7 (hW _ kw_148)
  obtain ⟨c8, i8, h8⟩ := u_known (C := RX8) (T := TX8) (N := 11) (n := 11) hW inW8 (hW _ kw_36)
  refine ⟨fun k => match k with | 0 => c0 | 1 => c1 | 2 => c2 | 3 => c3 | 4 => c4 | 5 => c5 | 6 => c6 | 7 => c7 | _ => c8, fun k => match k with | 0 => i0 | 1 => i1 | 2 => i2 | 3 => i3 | 4 => i4 | 5 => i5 | 6 => i6 | 7 => i7 | _ => i8, fun k q hq => ?_⟩
  match k, hq with
  | 0, hq => cases hq; exact h0
  | 1, hq => cases hq; exact h1
  | 2, hq => cases hq; exact h2
  | 3, hq => cases hq; exact h3
  | 4, hq => cases hq; exact h4
  | 5, hq => cases hq; exact h5
  | 6, hq => cases hq; exact h6
  | 7, hq => cases hq; exact h7
  | 8, hq => cases hq; exact h8
  | k + 9, hq => cases hq
set_option maxRecDepth 100000 in
set_option maxHeartbeats 4000000 in
/-- what stands at the law's entry -/
theorem gE_at {b : Nat} {s : State} (l : Launch) (hflags : l.flags = flags0) (hts : ∀ w ∈ lw_tbl, w.before #[Value.ref b] s = true) (hgv : (Jvm.Cond.and given_1 narrow_1).before #[Value.ref b] s = true) : ∃ Φ : gwC, Φ.1 = l ∧ Φ.2.1 = s.heap.size ∧ gw_E Φ s := by
  have hW := hts_W hts
  have hs := flat_of_before _ hgv
  obtain ⟨dC, dI, hK⟩ := K_at hts
  obtain ⟨cI, hI1, hI2⟩ := arr_at (hW _ kw_933) (fun k z => by cases z) (fun _ z => z)
  obtain ⟨cL, hL1, hL2⟩ := arr_at (hW _ kw_71) (fun k z => by cases z) (fun _ z => z)
  obtain ⟨cR, hR1, hR2⟩ := arrR_at (hts _ (List.mem_filter.mp kw_146).1)
  refine ⟨(l, s.heap.size, (dC, dI), cI, cL, cR), rfl, rfl, ⟨hK, fun k q hq => ?_⟩, ?_, ?_, strs_at hts hgv, nc_at hgv, Nat.le_refl _, ?_, NW_at hts⟩
  · match k, hq with
    | 0, hq => cases hq; exact ⟨hI1, hI2⟩
    | 1, hq => cases hq; exact ⟨hL1, hL2⟩
    | 2, hq => cases hq; exact ⟨hR1, hR2⟩
    | k + 3, hq => cases hq
  · exact vx_Zqof (hts _ (List.mem_of_getElem? (i := 298) (by decide +kernel))) (hW _ kw_27) (hs _ (by decide +kernel)) (fun a ha => Nat.not_le.mpr ha)
  · exact vx_Zqof (hts _ (List.mem_of_getElem? (i := 300) (by decide +kernel))) (hW _ kw_27) (hs _ (by decide +kernel)) (fun a ha => Nat.not_le.mpr ha)
  · show (!l.flags.contains noTraceFlag) = false
    rw [hflags]
    decide +kernel
end CE
