set_option linter.unusedVariables false
set_option linter.unusedSimpArgs false
set_option maxRecDepth 16384
/-! the two stores as the constructors leave them -/
def s0C : St := fun k => match k with
  | 0 => upd (fun _ => 0) 2 (-1)
  | 2 => upd (fun _ => 0) 2 12
  | 15 => upd (fun _ => 0) 2 12
  | 28 => upd (upd (fun _ => 0) 1 29) 7 (-1)
  | 72 => upd (fun _ => 0) 5 (-1)
  | 81 => upd (fun _ => 0) 5 (-1)
  | _ => fun _ => 0
def s0M : St := fun k => match k with
  | 0 => upd (fun _ => 0) 27 (-1)
  | 3 => upd (upd (upd (upd (fun _ => 0) 0 1) 1 0) 2 (-1)) 3 0
  | 4 => upd (upd (upd (upd (fun _ => 0) 0 0) 1 1) 2 0) 3 (-1)
  | 5 => upd (upd (upd (upd (upd (upd (upd (upd (fun _ => 0) 0 0) 1 0) 2 12) 3 0) 4 0) 5 0) 6 12) 7 0
  | _ => fun _ => 0
theorem Rl0 : Rl s0C s0M := by
  have eV : nV s0C = 0 := by decide
  have eD : nD s0C = 0 := by decide
  refine ⟨⟨rfl, fun k => by show (0 : Int32) ≤ 0 ∧ (0 : Int32) ≤ 255; decide, rfl, by decide, rfl⟩, ?_, ?_, .inl ⟨rfl, rfl⟩, rfl, fun k _ => rfl⟩
  · unfold Told
    rw [eV, eD]
    refine ⟨rfl, by decide, rfl, rfl, by decide, rfl, rfl, by decide, fun v hv => absurd hv (by omega), fun d hd => absurd hd (by omega), fun d i hd => absurd hd (by omega), .inl ⟨rfl, rfl⟩, ?_⟩
    intro a ha
    rcases (by omega : a = 0 ∨ a = 1 ∨ a = 2 ∨ a = 3) with rfl | rfl | rfl | rfl <;> exact ⟨rfl, rfl⟩
  · unfold NowR
    rw [eD]
    refine ⟨?_, ⟨0, by decide, rfl, rfl, trivial⟩, ⟨0, by decide, rfl, rfl, fun k hk => absurd hk (by omega)⟩, fun k _ => rfl⟩
    refine (RowD.iff (by decide) (fun d hd => absurd hd (by omega))).2 ⟨by decide, rfl, fun d hd => ?_, fun d i hd => absurd hd (by omega), fun k hk => ?_⟩
    · refine ⟨rfl, by show (0 : Int32) ≤ 0 ∧ (0 : Int32) ≤ 0; decide, ?_⟩
      rw [show s0M 0 32 = 0 from rfl, bt_zero]; rfl
    · exact ⟨rfl, by show (0 : Int32) ≤ 0; decide, by show (0 : Int32) ≤ 9999; decide⟩
def adK (h0 : Nat) (u o : Nat → Nat) (k : Nat) : Nat := if k = 0 then h0 else if k < 500 then u (k - 1) else o k
theorem adK_o {h0 : Nat} {u o : Nat → Nat} {k : Nat} (h : 500 ≤ k) : adK h0 u o k = o k := by unfold adK; rw [if_neg (by omega), if_neg (by omega)]
theorem rng88 : List.range 88 = [0, 1, 2, 3, 4, 5, 6, 7, 8, 9, 10, 11, 12, 13, 14, 15, 16, 17, 18, 19, 20, 21, 22, 23, 24, 25, 26, 27, 28, 29, 30, 31, 32, 33, 34, 35, 36, 37, 38, 39, 40, 41, 42, 43, 44, 45, 46, 47, 48, 49, 50, 51, 52, 53, 54, 55, 56, 57, 58, 59, 60, 61, 62, 63, 64, 65, 66, 67, 68, 69, 70, 71, 72, 73, 74, 75, 76, 77, 78, 79, 80, 81, 82, 83, 84, 85, 86, 87] := by decide +kernel
theorem rng42 : List.range 42 = [0, 1, 2, 3, 4, 5, 6, 7, 8, 9, 10, 11, 12, 13, 14, 15, 16, 17, 18, 19, 20, 21, 22, 23, 24, 25, 26, 27, 28, 29, 30, 31, 32, 33, 34, 35, 36, 37, 38, 39, 40, 41] := by decide +kernel
set_option maxRecDepth 40000 in
theorem kpC_eq (D : va_G) (cI : ClassId) (h0 : Nat) (u o : Nat → Nat) : kpX10 cI h0 u = wW (gC D cI (adK h0 u o)) s0C := by
  unfold kpX10 kpX0 kpX7 kpX9 kpX2 kpX5 kpX6 kpX1 kpX4 kpX8 kpX3 wW
  rw [show (gC D cI (adK h0 u o)).2.2.1 = 88 from rfl, rng88]
  simp only [List.nil_append, List.cons_append, List.append_assoc, List.map_cons, List.map_nil]
  rfl
def meS (D : va_G) (cI cT : ClassId) (h0 : Nat) (u o : Nat → Nat) : va_W := ((wW (gM D cI cT (adK h0 u o)) s0M).set 1 ((u 0), .inl (cT, 5, .inr (.inr (.inr (.inr (va_up (va_up (va_up (va_up (va_up (fun _ => none) 0 (some (o 1100))) 1 (some (o 1101))) 2 (some (o 1102))) 3 (some (o 1103))) 4 (some (o 1104))))))))).set 2 ((u 1), .inl (cT, 6, .inr (.inr (.inr (.inr (va_up (va_up (va_up (va_up (va_up (va_up (fun _ => none) 0 (some (o 1108))) 1 (some (o 1109))) 2 (some (o 1110))) 3 (some (o 1102))) 4 (some (o 1111))) 5 (some (o 1112))))))))
set_option maxRecDepth 40000 in
theorem kpM_eq (D : va_G) (cI cT : ClassId) (h0 : Nat) (u o : Nat → Nat) : kpX11 cI cT (fun i => o (1100 + i)) h0 u = meS D cI cT h0 u o := by
  unfold kpX11 meS wW
  rw [show (gM D cI cT (adK h0 u o)).2.2.1 = 42 from rfl, rng42]
  simp only [List.nil_append, List.cons_append, List.append_assoc, List.map_cons, List.map_nil, List.set_cons_succ, List.set_cons_zero]
  rfl
