section CS
abbrev gPr : Type := gSh × (Int → Int)
def PA0 : List gPr := [
  ((0, 8, [.inl 3, .inl 12, .inl 21, .inl 30, .inl 31, .inl 34, .inl 37, .inl 44, .inl 47, .inl 0, .inl 0]), fun _ => 0),
  ((0, 4, [.inl 4, .inl 7, .inl 0, .inl 0, .inl 0, .inl 0]), fun _ => 0),
  ((0, 2, [.inl 0, .inl 0, .inl 5]), fun i => if i = 0 then 2 else 0),
  ((0, 1, [.inr 5, .inl 6]), fun _ => 0),
  ((2, 25, []), fun _ => 0),
  ((0, 6, [.inl 0, .inl 0, .inl 1, .inl 8, .inl 10]), fun i => if i = 1 then 2 else if i = 2 then 1 else 0),
  ((0, 1, [.inr 4, .inl 9]), fun _ => 0),
  ((2, 4, []), fun _ => 0),
  ((0, 1, [.inr 9, .inl 11]), fun _ => 0),
  ((2, 45, []), fun _ => 0),
  ((0, 4, [.inl 13, .inl 16, .inl 0, .inl 0, .inl 0, .inl 0]), fun _ => 0),
  ((0, 2, [.inl 0, .inl 0, .inl 14]), fun i => if i = 0 then 2 else 0),
  ((0, 1, [.inr 5, .inl 15]), fun _ => 0),
  ((2, 25, []), fun _ => 0),
  ((0, 6, [.inl 0, .inl 0, .inl 1, .inl 17, .inl 19]), fun i => if i = 1 then 2 else if i = 2 then 1 else 0),
  ((0, 1, [.inr 4, .inl 18]), fun _ => 0),
  ((2, 4, []), fun _ => 0),
  ((0, 1, [.inr 9, .inl 20]), fun _ => 0),
  ((2, 45, []), fun _ => 0),
  ((0, 4, [.inl 22, .inl 25, .inl 0, .inl 0, .inl 0, .inl 0]), fun _ => 0),
  ((0, 2, [.inl 0, .inl 0, .inl 23]), fun i => if i = 0 then 2 else 0),
  ((0, 1, [.inr 5, .inl 24]), fun _ => 0),
  ((2, 25, []), fun _ => 0),
  ((0, 6, [.inl 0, .inl 0, .inl 1, .inl 26, .inl 28]), fun i => if i = 1 then 2 else if i = 2 then 1 else 0),
  ((0, 1, [.inr 4, .inl 27]), fun _ => 0),
  ((2, 4, []), fun _ => 0),
  ((0, 1, [.inr 9, .inl 29]), fun _ => 0),
  ((2, 45, []), fun _ => 0),
  ((3, 6, []), fun i => 51 + 9 * i),
  ((0, 7, [.inl 0, .inl 32]), fun _ => 0),
  ((0, 1, [.inr 80, .inl 33]), fun _ => 0),
  ((2, 80, []), fun _ => 0),
  ((0, 7, [.inl 0, .inl 35]), fun _ => 0),
  ((0, 1, [.inr 80, .inl 36]), fun _ => 0),
  ((2, 80, []), fun _ => 0),
  ((0, 3, [.inl 38, .inl 41, .inl 0]), fun _ => 0),
  ((0, 7, [.inl 0, .inl 39]), fun _ => 0),
  ((0, 1, [.inr 80, .inl 40]), fun _ => 0),
  ((2, 80, []), fun _ => 0),
  ((0, 2, [.inl 0, .inl 0, .inl 42]), fun i => if i = 0 then 2 else 0),
  ((0, 1, [.inr 5, .inl 43]), fun _ => 0),
  ((2, 25, []), fun _ => 0),
  ((0, 0, [.inl 0, .inl 1, .inl 45]), fun i => if i = 1 then 1 else 0),
  ((0, 1, [.inr 5, .inl 46]), fun _ => 0),
  ((2, 20, []), fun _ => 0),
  ((0, 5, [.inl 48, .inl 51, .inl 0, .inl 0, .inl 1, .inl 1]), fun i => if i = 5 then 1 else 0),
  ((0, 0, [.inl 0, .inl 1, .inl 49]), fun i => if i = 1 then 1 else 0),
  ((0, 1, [.inr 5, .inl 50]), fun _ => 0),
  ((2, 20, []), fun _ => 0),
  ((0, 1, [.inr 70, .inl 52]), fun _ => 0),
  ((2, 140, []), fun _ => 0)]
def PA1 : List gPr := [
  ((0, 4, [.inl 54, .inl 57, .inl 0, .inl 0, .inl 0, .inl 0]), fun _ => 0),
  ((0, 2, [.inl 0, .inl 0, .inl 55]), fun i => if i = 0 then 2 else 0),
  ((0, 1, [.inr 5, .inl 56]), fun _ => 0),
  ((2, 25, []), fun _ => 0),
  ((0, 6, [.inl 0, .inl 0, .inl 1, .inl 58, .inl 60]), fun i => if i = 1 then 2 else if i = 2 then 1 else 0),
  ((0, 1, [.inr 4, .inl 59]), fun _ => 0),
  ((2, 4, []), fun _ => 0),
  ((0, 1, [.inr 9, .inl 61]), fun _ => 0),
  ((2, 45, []), fun _ => 0),
  ((0, 4, [.inl 63, .inl 66, .inl 0, .inl 0, .inl 0, .inl 0]), fun _ => 0),
  ((0, 2, [.inl 0, .inl 0, .inl 64]), fun i => if i = 0 then 2 else 0),
  ((0, 1, [.inr 5, .inl 65]), fun _ => 0),
  ((2, 25, []), fun _ => 0),
  ((0, 6, [.inl 0, .inl 0, .inl 1, .inl 67, .inl 69]), fun i => if i = 1 then 2 else if i = 2 then 1 else 0),
  ((0, 1, [.inr 4, .inl 68]), fun _ => 0),
  ((2, 4, []), fun _ => 0),
  ((0, 1, [.inr 9, .inl 70]), fun _ => 0),
  ((2, 45, []), fun _ => 0),
  ((0, 4, [.inl 72, .inl 75, .inl 0, .inl 0, .inl 0, .inl 0]), fun _ => 0),
  ((0, 2, [.inl 0, .inl 0, .inl 73]), fun i => if i = 0 then 2 else 0),
  ((0, 1, [.inr 5, .inl 74]), fun _ => 0),
  ((2, 25, []), fun _ => 0),
  ((0, 6, [.inl 0, .inl 0, .inl 1, .inl 76, .inl 78]), fun i => if i = 1 then 2 else if i = 2 then 1 else 0),
  ((0, 1, [.inr 4, .inl 77]), fun _ => 0),
  ((2, 4, []), fun _ => 0),
  ((0, 1, [.inr 9, .inl 79]), fun _ => 0),
  ((2, 45, []), fun _ => 0),
  ((0, 4, [.inl 81, .inl 84, .inl 0, .inl 0, .inl 0, .inl 0]), fun _ => 0),
  ((0, 2, [.inl 0, .inl 0, .inl 82]), fun i => if i = 0 then 2 else 0),
  ((0, 1, [.inr 5, .inl 83]), fun _ => 0),
  ((2, 25, []), fun _ => 0),
  ((0, 6, [.inl 0, .inl 0, .inl 1, .inl 85, .inl 87]), fun i => if i = 1 then 2 else if i = 2 then 1 else 0),
  ((0, 1, [.inr 4, .inl 86]), fun _ => 0),
  ((2, 4, []), fun _ => 0),
  ((0, 1, [.inr 9, .inl 88]), fun _ => 0),
  ((2, 45, []), fun _ => 0),
  ((0, 4, [.inl 90, .inl 93, .inl 0, .inl 0, .inl 0, .inl 0]), fun _ => 0),
  ((0, 2, [.inl 0, .inl 0, .inl 91]), fun i => if i = 0 then 2 else 0),
  ((0, 1, [.inr 5, .inl 92]), fun _ => 0),
  ((2, 25, []), fun _ => 0),
  ((0, 6, [.inl 0, .inl 0, .inl 1, .inl 94, .inl 96]), fun i => if i = 1 then 2 else if i = 2 then 1 else 0),
  ((0, 1, [.inr 4, .inl 95]), fun _ => 0),
  ((2, 4, []), fun _ => 0),
  ((0, 1, [.inr 9, .inl 97]), fun _ => 0),
  ((2, 45, []), fun _ => 0),
  ((0, 4, [.inl 99, .inl 102, .inl 0, .inl 0, .inl 0, .inl 0]), fun _ => 0),
  ((0, 2, [.inl 0, .inl 0, .inl 100]), fun i => if i = 0 then 2 else 0),
  ((0, 1, [.inr 5, .inl 101]), fun _ => 0),
  ((2, 25, []), fun _ => 0),
  ((0, 6, [.inl 0, .inl 0, .inl 1, .inl 103, .inl 105]), fun i => if i = 1 then 2 else if i = 2 then 1 else 0),
  ((0, 1, [.inr 4, .inl 104]), fun _ => 0),
  ((2, 4, []), fun _ => 0),
  ((0, 1, [.inr 9, .inl 106]), fun _ => 0),
  ((2, 45, []), fun _ => 0)]
def PA2 : List gPr := [
  ((0, 8, [.inl 108, .inl 117, .inl 126, .inl 135, .inl 136, .inl 139, .inl 142, .inl 149, .inl 152, .inl 0, .inl 0]), fun _ => 0),
  ((0, 4, [.inl 109, .inl 112, .inl 0, .inl 0, .inl 0, .inl 0]), fun _ => 0),
  ((0, 2, [.inl 0, .inl 0, .inl 110]), fun i => if i = 0 then 2 else 0),
  ((0, 1, [.inr 5, .inl 111]), fun _ => 0),
  ((2, 25, []), fun _ => 0),
  ((0, 6, [.inl 0, .inl 0, .inl 1, .inl 113, .inl 115]), fun i => if i = 1 then 2 else if i = 2 then 1 else 0),
  ((0, 1, [.inr 4, .inl 114]), fun _ => 0),
  ((2, 4, []), fun _ => 0),
  ((0, 1, [.inr 9, .inl 116]), fun _ => 0),
  ((2, 45, []), fun _ => 0),
  ((0, 4, [.inl 118, .inl 121, .inl 0, .inl 0, .inl 0, .inl 0]), fun _ => 0),
  ((0, 2, [.inl 0, .inl 0, .inl 119]), fun i => if i = 0 then 2 else 0),
  ((0, 1, [.inr 5, .inl 120]), fun _ => 0),
  ((2, 25, []), fun _ => 0),
  ((0, 6, [.inl 0, .inl 0, .inl 1, .inl 122, .inl 124]), fun i => if i = 1 then 2 else if i = 2 then 1 else 0),
  ((0, 1, [.inr 4, .inl 123]), fun _ => 0),
  ((2, 4, []), fun _ => 0),
  ((0, 1, [.inr 9, .inl 125]), fun _ => 0),
  ((2, 45, []), fun _ => 0),
  ((0, 4, [.inl 127, .inl 130, .inl 0, .inl 0, .inl 0, .inl 0]), fun _ => 0),
  ((0, 2, [.inl 0, .inl 0, .inl 128]), fun i => if i = 0 then 2 else 0),
  ((0, 1, [.inr 5, .inl 129]), fun _ => 0),
  ((2, 25, []), fun _ => 0),
  ((0, 6, [.inl 0, .inl 0, .inl 1, .inl 131, .inl 133]), fun i => if i = 1 then 2 else if i = 2 then 1 else 0),
  ((0, 1, [.inr 4, .inl 132]), fun _ => 0),
  ((2, 4, []), fun _ => 0),
  ((0, 1, [.inr 9, .inl 134]), fun _ => 0),
  ((2, 45, []), fun _ => 0),
  ((3, 6, []), fun i => 156 + 9 * i),
  ((0, 7, [.inl 0, .inl 137]), fun _ => 0),
  ((0, 1, [.inr 80, .inl 138]), fun _ => 0),
  ((2, 80, []), fun _ => 0),
  ((0, 7, [.inl 0, .inl 140]), fun _ => 0),
  ((0, 1, [.inr 80, .inl 141]), fun _ => 0),
  ((2, 80, []), fun _ => 0),
  ((0, 3, [.inl 143, .inl 146, .inl 0]), fun _ => 0),
  ((0, 7, [.inl 0, .inl 144]), fun _ => 0),
  ((0, 1, [.inr 80, .inl 145]), fun _ => 0),
  ((2, 80, []), fun _ => 0),
  ((0, 2, [.inl 0, .inl 0, .inl 147]), fun i => if i = 0 then 2 else 0),
  ((0, 1, [.inr 5, .inl 148]), fun _ => 0),
  ((2, 25, []), fun _ => 0),
  ((0, 0, [.inl 0, .inl 1, .inl 150]), fun i => if i = 1 then 1 else 0),
  ((0, 1, [.inr 5, .inl 151]), fun _ => 0),
  ((2, 20, []), fun _ => 0),
  ((0, 5, [.inl 153, .inl 156, .inl 0, .inl 0, .inl 1, .inl 1]), fun i => if i = 5 then 1 else 0),
  ((0, 0, [.inl 0, .inl 1, .inl 154]), fun i => if i = 1 then 1 else 0),
  ((0, 1, [.inr 5, .inl 155]), fun _ => 0),
  ((2, 20, []), fun _ => 0),
  ((0, 1, [.inr 70, .inl 157]), fun _ => 0),
  ((2, 140, []), fun _ => 0)]
def PA3 : List gPr := [
  ((0, 4, [.inl 159, .inl 162, .inl 0, .inl 0, .inl 0, .inl 0]), fun _ => 0),
  ((0, 2, [.inl 0, .inl 0, .inl 160]), fun i => if i = 0 then 2 else 0),
  ((0, 1, [.inr 5, .inl 161]), fun _ => 0),
  ((2, 25, []), fun _ => 0),
  ((0, 6, [.inl 0, .inl 0, .inl 1, .inl 163, .inl 165]), fun i => if i = 1 then 2 else if i = 2 then 1 else 0),
  ((0, 1, [.inr 4, .inl 164]), fun _ => 0),
  ((2, 4, []), fun _ => 0),
  ((0, 1, [.inr 9, .inl 166]), fun _ => 0),
  ((2, 45, []), fun _ => 0),
  ((0, 4, [.inl 168, .inl 171, .inl 0, .inl 0, .inl 0, .inl 0]), fun _ => 0),
  ((0, 2, [.inl 0, .inl 0, .inl 169]), fun i => if i = 0 then 2 else 0),
  ((0, 1, [.inr 5, .inl 170]), fun _ => 0),
  ((2, 25, []), fun _ => 0),
  ((0, 6, [.inl 0, .inl 0, .inl 1, .inl 172, .inl 174]), fun i => if i = 1 then 2 else if i = 2 then 1 else 0),
  ((0, 1, [.inr 4, .inl 173]), fun _ => 0),
  ((2, 4, []), fun _ => 0),
  ((0, 1, [.inr 9, .inl 175]), fun _ => 0),
  ((2, 45, []), fun _ => 0),
  ((0, 4, [.inl 177, .inl 180, .inl 0, .inl 0, .inl 0, .inl 0]), fun _ => 0),
  ((0, 2, [.inl 0, .inl 0, .inl 178]), fun i => if i = 0 then 2 else 0),
  ((0, 1, [.inr 5, .inl 179]), fun _ => 0),
  ((2, 25, []), fun _ => 0),
  ((0, 6, [.inl 0, .inl 0, .inl 1, .inl 181, .inl 183]), fun i => if i = 1 then 2 else if i = 2 then 1 else 0),
  ((0, 1, [.inr 4, .inl 182]), fun _ => 0),
  ((2, 4, []), fun _ => 0),
  ((0, 1, [.inr 9, .inl 184]), fun _ => 0),
  ((2, 45, []), fun _ => 0),
  ((0, 4, [.inl 186, .inl 189, .inl 0, .inl 0, .inl 0, .inl 0]), fun _ => 0),
  ((0, 2, [.inl 0, .inl 0, .inl 187]), fun i => if i = 0 then 2 else 0),
  ((0, 1, [.inr 5, .inl 188]), fun _ => 0),
  ((2, 25, []), fun _ => 0),
  ((0, 6, [.inl 0, .inl 0, .inl 1, .inl 190, .inl 192]), fun i => if i = 1 then 2 else if i = 2 then 1 else 0),
  ((0, 1, [.inr 4, .inl 191]), fun _ => 0),
  ((2, 4, []), fun _ => 0),
  ((0, 1, [.inr 9, .inl 193]), fun _ => 0),
  ((2, 45, []), fun _ => 0),
  ((0, 4, [.inl 195, .inl 198, .inl 0, .inl 0, .inl 0, .inl 0]), fun _ => 0),
  ((0, 2, [.inl 0, .inl 0, .inl 196]), fun i => if i = 0 then 2 else 0),
  ((0, 1, [.inr 5, .inl 197]), fun _ => 0),
  ((2, 25, []), fun _ => 0),
  ((0, 6, [.inl 0, .inl 0, .inl 1, .inl 199, .inl 201]), fun i => if i = 1 then 2 else if i = 2 then 1 else 0),
  ((0, 1, [.inr 4, .inl 200]), fun _ => 0),
  ((2, 4, []), fun _ => 0),
  ((0, 1, [.inr 9, .inl 202]), fun _ => 0),
  ((2, 45, []), fun _ => 0),
  ((0, 4, [.inl 204, .inl 207, .inl 0, .inl 0, .inl 0, .inl 0]), fun _ => 0),
  ((0, 2, [.inl 0, .inl 0, .inl 205]), fun i => if i = 0 then 2 else 0),
  ((0, 1, [.inr 5, .inl 206]), fun _ => 0),
  ((2, 25, []), fun _ => 0),
  ((0, 6, [.inl 0, .inl 0, .inl 1, .inl 208, .inl 210]), fun i => if i = 1 then 2 else if i = 2 then 1 else 0),
  ((0, 1, [.inr 4, .inl 209]), fun _ => 0),
  ((2, 4, []), fun _ => 0),
  ((0, 1, [.inr 9, .inl 211]), fun _ => 0),
  ((2, 45, []), fun _ => 0),
  ((1, 1, []), fun _ => 0)]
def PA : List gPr := PA0 ++ (PA1 ++ (PA2 ++ PA3))
def shA : Nat → Option gSh := fun q => (PA[q]?).map Prod.fst
def cA0 : W0 := fun q => ((PA[q]?).map Prod.snd).getD (fun _ => 0)
theorem hz_hp {Φ : gwC} {M : Nat} {L : List gPr} : hz (fun _ => none) M (L.map (fun p => rz Φ M p.1 p.2)) = hp Φ (fun _ => none) M (fun q => (L[q]?).map Prod.fst) (fun q => ((L[q]?).map Prod.snd).getD (fun _ => 0)) := by
  funext q
  unfold hz hp
  by_cases h : M ≤ q
  · rw [if_pos h, if_neg (by omega), List.getElem?_map]
    cases hh : L[q - M]? with
    | some p =>
      show some (rz Φ M p.1 p.2) = Option.map (fun s => rz Φ M s (((L[q - M]?).map Prod.snd).getD (fun _ => 0))) ((L[q - M]?).map Prod.fst)
      rw [hh]
      rfl
    | none =>
      show (none : Option va_E) = Option.map (fun s => rz Φ M s (((L[q - M]?).map Prod.snd).getD (fun _ => 0))) ((L[q - M]?).map Prod.fst)
      rw [hh]
      rfl
  · rw [if_neg h, if_pos (by omega)]
set_option maxRecDepth 100000 in
set_option maxHeartbeats 4000000 in
theorem PA_f {Φ : gwC} {M : Nat} {f : Nat → Option Nat} (hf : (fun j : Nat => some (M + 105 + (51 + 9 * (j : Int)).toNat)) = f) : SL8 Φ (M + 105) = o8 (M + 105) :: (B8 Φ (M + 105) f ++ (((((([] ++ SL4 Φ (M + 105 + 51)) ++ SL4 Φ (M + 105 + 60)) ++ SL4 Φ (M + 105 + 69)) ++ SL4 Φ (M + 105 + 78)) ++ SL4 Φ (M + 105 + 87)) ++ SL4 Φ (M + 105 + 96))) := by
  subst hf
  rfl
set_option maxRecDepth 100000 in
set_option maxHeartbeats 4000000 in
theorem PA_g {Φ : gwC} {M : Nat} : ((SL8 Φ M ++ (o8 (M + 105) :: (B8 Φ (M + 105) (fun j => some (M + (156 + 9 * (j : Int)).toNat)) ++ (((((([] ++ SL4 Φ (M + 105 + 51)) ++ SL4 Φ (M + 105 + 60)) ++ SL4 Φ (M + 105 + 69)) ++ SL4 Φ (M + 105 + 78)) ++ SL4 Φ (M + 105 + 87)) ++ SL4 Φ (M + 105 + 96))))) ++ [gwIz Φ 1 (fun _ => 0)]) = PA.map (fun p => rz Φ M p.1 p.2) := rfl
theorem PA_e {Φ : gwC} {M : Nat} : ((SL8 Φ M ++ SL8 Φ (M + 105)) ++ [gwIz Φ 1 (fun _ => 0)]) = PA.map (fun p => rz Φ M p.1 p.2) := by
  rw [PA_f (f := fun j => some (M + (156 + 9 * (j : Int)).toNat)) (funext fun j => by congr 1; omega)]
  exact PA_g
set_option maxRecDepth 100000 in
set_option maxHeartbeats 4000000 in
theorem shA_D : sD shA 0 := by
  refine ⟨rfl, ?_, ?_, ?_, rfl, ?_, ?_, ?_, ?_, ?_, fun k hk => ?_⟩
  · exact ⟨rfl, ⟨rfl, rfl, rfl⟩, rfl, ⟨rfl, rfl⟩, rfl, rfl⟩
  · exact ⟨rfl, ⟨rfl, rfl, rfl⟩, rfl, ⟨rfl, rfl⟩, rfl, rfl⟩
  · exact ⟨rfl, ⟨rfl, rfl, rfl⟩, rfl, ⟨rfl, rfl⟩, rfl, rfl⟩
  · exact ⟨rfl, rfl, rfl⟩
  · exact ⟨rfl, rfl, rfl⟩
  · exact ⟨rfl, ⟨rfl, rfl, rfl⟩, rfl, rfl, rfl⟩
  · exact ⟨rfl, rfl, rfl⟩
  · exact ⟨rfl, ⟨rfl, rfl, rfl⟩, rfl, rfl⟩
  · match k, hk with
    | 0, _ => exact ⟨rfl, ⟨rfl, rfl, rfl⟩, rfl, ⟨rfl, rfl⟩, rfl, rfl⟩
    | 1, _ => exact ⟨rfl, ⟨rfl, rfl, rfl⟩, rfl, ⟨rfl, rfl⟩, rfl, rfl⟩
    | 2, _ => exact ⟨rfl, ⟨rfl, rfl, rfl⟩, rfl, ⟨rfl, rfl⟩, rfl, rfl⟩
    | 3, _ => exact ⟨rfl, ⟨rfl, rfl, rfl⟩, rfl, ⟨rfl, rfl⟩, rfl, rfl⟩
    | 4, _ => exact ⟨rfl, ⟨rfl, rfl, rfl⟩, rfl, ⟨rfl, rfl⟩, rfl, rfl⟩
    | 5, _ => exact ⟨rfl, ⟨rfl, rfl, rfl⟩, rfl, ⟨rfl, rfl⟩, rfl, rfl⟩
    | q + 6, hk => exact absurd hk (by omega)
set_option maxRecDepth 100000 in
set_option maxHeartbeats 4000000 in
theorem shA_P : sD shA 105 := by
  refine ⟨rfl, ?_, ?_, ?_, rfl, ?_, ?_, ?_, ?_, ?_, fun k hk => ?_⟩
  · exact ⟨rfl, ⟨rfl, rfl, rfl⟩, rfl, ⟨rfl, rfl⟩, rfl, rfl⟩
  · exact ⟨rfl, ⟨rfl, rfl, rfl⟩, rfl, ⟨rfl, rfl⟩, rfl, rfl⟩
  · exact ⟨rfl, ⟨rfl, rfl, rfl⟩, rfl, ⟨rfl, rfl⟩, rfl, rfl⟩
  · exact ⟨rfl, rfl, rfl⟩
  · exact ⟨rfl, rfl, rfl⟩
  · exact ⟨rfl, ⟨rfl, rfl, rfl⟩, rfl, rfl, rfl⟩
  · exact ⟨rfl, rfl, rfl⟩
  · exact ⟨rfl, ⟨rfl, rfl, rfl⟩, rfl, rfl⟩
  · match k, hk with
    | 0, _ => exact ⟨rfl, ⟨rfl, rfl, rfl⟩, rfl, ⟨rfl, rfl⟩, rfl, rfl⟩
    | 1, _ => exact ⟨rfl, ⟨rfl, rfl, rfl⟩, rfl, ⟨rfl, rfl⟩, rfl, rfl⟩
    | 2, _ => exact ⟨rfl, ⟨rfl, rfl, rfl⟩, rfl, ⟨rfl, rfl⟩, rfl, rfl⟩
    | 3, _ => exact ⟨rfl, ⟨rfl, rfl, rfl⟩, rfl, ⟨rfl, rfl⟩, rfl, rfl⟩
    | 4, _ => exact ⟨rfl, ⟨rfl, rfl, rfl⟩, rfl, ⟨rfl, rfl⟩, rfl, rfl⟩
    | 5, _ => exact ⟨rfl, ⟨rfl, rfl, rfl⟩, rfl, ⟨rfl, rfl⟩, rfl, rfl⟩
    | q + 6, hk => exact absurd hk (by omega)
set_option maxRecDepth 100000 in
theorem shA_o : shA 210 = some (1, 1, []) := rfl
def FA : Int → Int := updZ (fun _ => 0) 0 2
def zA : St := (FA, 0, (fun _ _ => 0), 0, (fun _ => 0), 0, (fun _ => 0))
theorem FA_n {i : Int} (h : i ≠ 0) : FA i = 0 := updZ_n h
theorem FA_GdP : GdP FA := by
  refine ⟨by decide, by decide, fun v a b => ?_, fun c v a b a2 b2 => ?_, fun c a b => ?_⟩
  · rw [FA_n (by omega)]; decide
  · rw [FA_n (by omega)]; decide
  · rw [FA_n (by omega)]; decide
theorem FA_Good : Good 0 FA := by
  have e1 : FA 1 = 0 := rfl
  refine ⟨FA_GdP, GdB_I FA_GdP (fun r a b => ?_), by decide, by decide, by decide, by decide⟩
  omega
set_option maxRecDepth 100000 in
theorem FA_S : RepS 1 FA cA0 := by
  have e0 : FA 0 = 2 := rfl
  have e1 : FA 1 = 0 := rfl
  refine ⟨⟨rfl, rfl, fun r v a b => ?_, fun v a b => ?_, fun r a b => ?_, fun r v a b a2 b2 => ?_⟩, ⟨rfl, rfl, by decide +kernel, fun r a b => ?_, fun r q a b => ?_, fun q a b => ?_⟩, rfl, rfl, rfl, rfl⟩
  · omega
  · rw [FA_n (by omega)]; rfl
  · omega
  · rfl
  · omega
  · omega
  · have h : q = 0 ∨ q = 1 ∨ q = 2 := by omega
    rcases h with rfl | rfl | rfl <;> decide +kernel
set_option maxRecDepth 100000 in
theorem zA_C : CI 0 zA cA0 := by
  refine ⟨FA_S, ⟨by decide, rfl, ⟨fun k a b => ?_, fun k k' a b a2 b2 e => ?_⟩, fun k a b => ?_⟩, ⟨rfl, fun e => ?_⟩, rfl, fun k a b => ?_⟩
  · have e : cA0 (0 + 28) k = 51 + 9 * k := rfl
    rw [e]
    exact ⟨by omega, ⟨k.toNat, by omega, by omega⟩⟩
  · have e2 : cA0 (0 + 28) k = 51 + 9 * k := rfl
    have e3 : cA0 (0 + 28) k' = 51 + 9 * k' := rfl
    omega
  · exact absurd b (by show ¬ k < 0; omega)
  · exact absurd e (by decide)
  · exact absurd b (by show ¬ k < 0; omega)
set_option maxRecDepth 100000 in
theorem FA_S2 : RepS 106 FA cA0 := by
  have e0 : FA 0 = 2 := rfl
  have e1 : FA 1 = 0 := rfl
  refine ⟨⟨rfl, rfl, fun r v a b => ?_, fun v a b => ?_, fun r a b => ?_, fun r v a b a2 b2 => ?_⟩, ⟨rfl, rfl, by decide +kernel, fun r a b => ?_, fun r q a b => ?_, fun q a b => ?_⟩, rfl, rfl, rfl, rfl⟩
  · omega
  · rw [FA_n (by omega)]; rfl
  · omega
  · rfl
  · omega
  · omega
  · have h : q = 0 ∨ q = 1 ∨ q = 2 := by omega
    rcases h with rfl | rfl | rfl <;> decide +kernel
set_option maxRecDepth 100000 in
theorem zA_P : CI 105 zA cA0 := by
  refine ⟨FA_S2, ⟨by decide, rfl, ⟨fun k a b => ?_, fun k k' a b a2 b2 e => ?_⟩, fun k a b => ?_⟩, ⟨rfl, fun e => ?_⟩, rfl, fun k a b => ?_⟩
  · have e : cA0 (105 + 28) k = 156 + 9 * k := rfl
    rw [e]
    exact ⟨by omega, ⟨k.toNat, by omega, by omega⟩⟩
  · have e2 : cA0 (105 + 28) k = 156 + 9 * k := rfl
    have e3 : cA0 (105 + 28) k' = 156 + 9 * k' := rfl
    omega
  · exact absurd b (by show ¬ k < 0; omega)
  · exact absurd e (by decide)
  · exact absurd b (by show ¬ k < 0; omega)
theorem zA_L : LI 0 zA := by
  refine ⟨FA_Good, by decide, fun k a b => ?_, Or.inl rfl, fun e => ?_, by decide, fun k a b => ?_⟩
  · exact absurd b (by show ¬ k < 0; omega)
  · exact absurd e (by decide)
  · exact absurd b (by show ¬ k < 0; omega)
end CS
