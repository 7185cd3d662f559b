set_option linter.unusedVariables false
set_option linter.unusedSimpArgs false
set_option maxRecDepth 16384
/-! what the start says of the classes, the statics, the texts -/
def nSI : List Nat := [156, 158, 160, 162, 164, 172, 187, 189, 213, 216, 217, 218, 220, 60, 69, 74, 79]
def nEI : List Nat := [105, 158, 198, 219, 235, 293, 300, 350, 362, 378, 380, 382, 384]
theorem K_start {s : State} {args : Array Value} (hts : ∀ w ∈ BG, w.before args s = true) (hO : va_AO "java/lang/String" s) : ∃ (D : va_G) (cI cT cL : ClassId), va_K D vwCl [(cI, .int), (cT, .object "java/lang/String"), (cL, .long)] s := by
  obtain ⟨c0, i0, h0⟩ := u_known (C := RX0) (T := TX0) (N := 15) (n := 15) hts inB_X0 (hts _ inst_X0)
  obtain ⟨c1, i1, h1⟩ := u_known (C := RX1) (T := TX1) (N := 4) (n := 4) hts inB_X1 (hts _ inst_X1)
  obtain ⟨c2, i2, h2⟩ := u_known (C := RX2) (T := TX2) (N := 7) (n := 7) hts inB_X2 (hts _ inst_X2)
  obtain ⟨c3, i3, h3⟩ := u_known (C := RX3) (T := TX3) (N := 3) (n := 3) hts inB_X3 (hts _ inst_X3)
  obtain ⟨c4, i4, h4⟩ := u_known (C := RX4) (T := TX4) (N := 7) (n := 7) hts inB_X4 (hts _ inst_X4)
  obtain ⟨c5, i5, h5⟩ := u_known (C := RX5) (T := TX5) (N := 6) (n := 6) hts inB_X5 (hts _ inst_X5)
  obtain ⟨c6, i6, h6⟩ := u_known (C := RX6) (T := TX6) (N := 6) (n := 6) hts inB_X6 (hts _ inst_X6)
  obtain ⟨c7, i7, h7⟩ := u_known (C := RX7) (T := TX7) (N := 8) (n := 8) hts inB_X7 (hts _ inst_X7)
  obtain ⟨c8, i8, h8⟩ := u_known (C := RX8) (T := TX8) (N := 3) (n := 3) hts inB_X8 (hts _ inst_X8)
  obtain ⟨c9, i9, h9⟩ := u_known (C := RX9) (T := TX9) (N := 14) (n := 14) hts inB_X9 (hts _ inst_X9)
  obtain ⟨c10, i10, h10⟩ := u_known (C := RX10) (T := TX10) (N := 15) (n := 15) hts inB_X10 (hts _ inst_X10)
  obtain ⟨c11, i11, h11⟩ := u_known (C := RX11) (T := TX11) (N := 61) (n := 61) hts inB_X11 (hts _ inst_X11)
  obtain ⟨cI, kI, pI, a1, a2, a3⟩ := Cond.arrayClass_spec (hts (.arrayClass .int) (BG_of (by decide +kernel) (by decide +kernel)))
  obtain ⟨cL, kL, pL, b1, b2, b3⟩ := Cond.arrayClass_spec (hts (.arrayClass .long) (BG_of (by decide +kernel) (by decide +kernel)))
  obtain ⟨pT, cT, kT, d1, _, d2, d3, d4⟩ := Cond.arrayOver_spec hO
  refine ⟨(fun k => match k with | 0 => c0 | 1 => c1 | 2 => c2 | 3 => c3 | 4 => c4 | 5 => c5 | 6 => c6 | 7 => c7 | 8 => c8 | 9 => c9 | 10 => c10 | _ => c11, fun k => match k with | 0 => i0 | 1 => i1 | 2 => i2 | 3 => i3 | 4 => i4 | 5 => i5 | 6 => i6 | 7 => i7 | 8 => i8 | 9 => i9 | 10 => i10 | _ => i11), cI, cT, cL, fun c q hq => ?_, fun k q hq => ?_⟩
  · match c, hq with
    | 0, hq => cases hq; exact h0
    | 1, hq => cases hq; exact h1
    | 2, hq => cases hq; exact h2
    | 3, hq => cases hq; exact h3
    | 4, hq => cases hq; exact h4
    | 5, hq => cases hq; exact h5
    | 6, hq => cases hq; exact h6
    | 7, hq => cases hq; exact h7
    | 8, hq => cases hq; exact h8
    | 9, hq => cases hq; exact h9
    | 10, hq => cases hq; exact h10
    | 11, hq => cases hq; exact h11
    | c + 12, hq => simp at hq
  · match k, hq with
    | 0, hq => cases hq; exact ⟨fun n z => ⟨fun k h => (by cases h), kI, a2, pI, a3⟩, a1⟩
    | 1, hq => cases hq; exact ⟨fun n z => ⟨fun k h => (by cases h), kT, d2, pT, d3⟩, kT, pT, d2, d3, d1, d4⟩
    | 2, hq => cases hq; exact ⟨fun n z => ⟨fun k h => (by cases h), kL, b2, pL, b3⟩, b1⟩
    | k + 3, hq => simp at hq
theorem hAL {s : State} : ∀ a : Nat, a < s.heap.size → ¬ LA s a := fun a h k => absurd h (Nat.not_lt.mpr k)
theorem E_arr {s : State} {args : Array Value} (hts : ∀ w ∈ lw_tbl, w.before args s = true) (hgv : (Cond.and given_1 narrow_1).before args s = true) : ∃ a1 a2 : Nat, (va_Z RX3 "ALONG" "[I" (.ref a1) (LA s) s s.heap ∧ va_T .int a1 4 (fun j => .int (dAL j)) (LA s) s s.heap) ∧ (va_Z RX3 "DOWN" "[I" (.ref a2) (LA s) s s.heap ∧ va_T .int a2 4 (fun j => .int (dDN j)) (LA s) s s.heap) := by
  have hq := flat_of_before _ hgv
  obtain ⟨a1, e1, T1⟩ := va_Tof (args := args) (s := s) (tm := .static RX3 "ALONG" "[I") (ty := .int) (N := 4) (f := fun j => .int (dAL j)) (A := LA s) (by decide) (hq _ (by decide +kernel)) (va_eqt (z := 4) (hq _ (by decide +kernel))) (fun j hj => by
    rcases (by omega : j = 0 ∨ j = 1 ∨ j = 2 ∨ j = 3) with rfl | rfl | rfl | rfl
    · exact va_eqt (z := 1) (hq (.eq (.elem (.static RX3 "ALONG" "[I") (.int 0)) (.int (1))) (by decide +kernel))
    · exact va_eqt (z := 0) (hq (.eq (.elem (.static RX3 "ALONG" "[I") (.int 1)) (.int (0))) (by decide +kernel))
    · exact va_eqt (z := (-1)) (hq (.eq (.elem (.static RX3 "ALONG" "[I") (.int 2)) (.int (-1))) (by decide +kernel))
    · exact va_eqt (z := 0) (hq (.eq (.elem (.static RX3 "ALONG" "[I") (.int 3)) (.int (0))) (by decide +kernel))) hAL
  obtain ⟨a2, e2, T2⟩ := va_Tof (args := args) (s := s) (tm := .static RX3 "DOWN" "[I") (ty := .int) (N := 4) (f := fun j => .int (dDN j)) (A := LA s) (by decide) (hq _ (by decide +kernel)) (va_eqt (z := 4) (hq _ (by decide +kernel))) (fun j hj => by
    rcases (by omega : j = 0 ∨ j = 1 ∨ j = 2 ∨ j = 3) with rfl | rfl | rfl | rfl
    · exact va_eqt (z := 0) (hq (.eq (.elem (.static RX3 "DOWN" "[I") (.int 0)) (.int (0))) (by decide +kernel))
    · exact va_eqt (z := 1) (hq (.eq (.elem (.static RX3 "DOWN" "[I") (.int 1)) (.int (1))) (by decide +kernel))
    · exact va_eqt (z := 0) (hq (.eq (.elem (.static RX3 "DOWN" "[I") (.int 2)) (.int (0))) (by decide +kernel))
    · exact va_eqt (z := (-1)) (hq (.eq (.elem (.static RX3 "DOWN" "[I") (.int 3)) (.int (-1))) (by decide +kernel))) hAL
  exact ⟨a1, a2, ⟨va_Zref (hts (.laysStatic RX3 "ALONG" "[I") (by decide +kernel)) (hts (.initialized RX3) (by decide +kernel)) e1 hAL, T1⟩, ⟨va_Zref (hts (.laysStatic RX3 "DOWN" "[I") (by decide +kernel)) (hts (.initialized RX3) (by decide +kernel)) e2 hAL, T2⟩⟩
theorem E_zq {s : State} {args : Array Value} (hts : ∀ w ∈ lw_tbl, w.before args s = true) (hgv : (Cond.and given_1 narrow_1).before args s = true) : (vx_Zq Bundle.tN "UNASSIGNED_STACK" Bundle.steD (LA s) s s.heap ∧ vx_Zq Bundle.tN "SUPPRESSED_SENTINEL" Bundle.listD (LA s) s s.heap) ∧ (va_Z "java/lang/String" "COMPACT_STRINGS" "Z" (.int 1) (LA s) s s.heap ∧ va_Zq "jdk/internal/util/Preconditions" "SIOOBE_FORMATTER" "Ljava/util/function/BiFunction;" (LA s) s s.heap) := by
  have hq := flat_of_before _ hgv
  refine ⟨⟨vx_Zqof (hts _ (by decide +kernel)) (hts _ (by decide +kernel)) (hq _ (by decide +kernel)) hAL, vx_Zqof (hts _ (by decide +kernel)) (hts _ (by decide +kernel)) (hq _ (by decide +kernel)) hAL⟩, va_Zof (hts _ (by decide +kernel)) (hts _ (by decide +kernel)) (va_eqi (hq _ (by decide +kernel))) hAL, va_Zqof (hts _ (by decide +kernel)) (hts _ (by decide +kernel)) (hq _ (by decide +kernel)) hAL⟩
theorem E_tab {s : State} {args : Array Value} (hts : ∀ w ∈ lw_tbl, w.before args s = true) (hgv : (Cond.and given_1 narrow_1).before args s = true) : (∀ q ∈ nestW, va_Nw (.methodLinkNest q.1 q.2.1 q.2.2.1 q.2.2.2) s) ∧ (∀ x ∈ declW, va_Nw (.declares x) s) ∧ (∀ q ∈ castW, va_Nw (.castable q.1 q.2) s) ∧ NK s ∧ va_AO "java/lang/String" s ∧ XE s := by
  have hq := flat_of_before _ hgv
  refine ⟨fun q h => va_Nw.of rfl (hts _ ((show ∀ q ∈ nestW, Cond.methodLinkNest q.1 q.2.1 q.2.2.1 q.2.2.2 ∈ lw_tbl by decide +kernel) q h)), fun x h => va_Nw.of rfl (hts _ ((show ∀ x ∈ declW, Cond.declares x ∈ lw_tbl by decide +kernel) x h)), fun q h => va_Nw.of rfl (hts _ ((show ∀ q ∈ castW, Cond.castable q.1 q.2 ∈ lw_tbl by decide +kernel) q h)), fun q h => va_Nw.of rfl (hts _ ((show ∀ q ∈ nestK, Cond.methodLinkNest q.1 q.2.1 q.2.2.1 q.2.2.2 ∈ lw_tbl by decide +kernel) q h)), va_AO.of (hts (.arrayOver (.object "java/lang/String")) (by decide +kernel)), va_Nc.of (hq _ (by decide +kernel))⟩
