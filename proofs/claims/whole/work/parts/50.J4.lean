set_option linter.unusedVariables false
set_option linter.unusedSimpArgs false
set_option maxRecDepth 16384
/-! the texts, and all that stands outside -/
theorem E_mem : (∀ i : Fin 17, Cond.exactly (.string RX7 (nSI.getD i.1 0)) "java/lang/String" ∈ flatC (Cond.and given_1 narrow_1)) ∧ (∀ i : Fin 17, Cond.eq (.field (.string RX7 (nSI.getD i.1 0)) "java/lang/String" "coder" "B") (.int 0) ∈ flatC (Cond.and given_1 narrow_1)) ∧ (∀ i : Fin 17, Cond.arrayOf (.field (.string RX7 (nSI.getD i.1 0)) "java/lang/String" "value" "[B") .byte ∈ flatC (Cond.and given_1 narrow_1)) ∧ (∀ i : Fin 17, Cond.eq (.length (.field (.string RX7 (nSI.getD i.1 0)) "java/lang/String" "value" "[B")) (.int (Int32.ofNat (strB.getD i.1 []).length)) ∈ flatC (Cond.and given_1 narrow_1)) := by decide +kernel
theorem E_mel : ∀ i : Fin 17, ∀ j : Fin 7, j.1 < (strB.getD i.1 []).length → Cond.eq (.elem (.field (.string RX7 (nSI.getD i.1 0)) "java/lang/String" "value" "[B") (.int (Int32.ofNat j.1))) (.int ((strB.getD i.1 []).getD j.1 0)) ∈ flatC (Cond.and given_1 narrow_1) := by decide +kernel
theorem E_len : ∀ i : Fin 17, (strB.getD i.1 []).length ≤ 6 := by decide +kernel
theorem E_exE : ∀ i : Fin 13, Cond.exactly (.string RX10 (nEI.getD i.1 0)) "java/lang/String" ∈ flatC (Cond.and given_1 narrow_1) := by decide +kernel
theorem E_str {s : State} {args : Array Value} (hts : ∀ w ∈ lw_tbl, w.before args s = true) (hgv : (Cond.and given_1 narrow_1).before args s = true) : ∃ (ad : Nat → Nat × Nat) (ae : Nat → Nat),
    (∀ i, i < 17 → (Term.string RX7 (nSI.getD i 0)).eval args s none [] s = some (.ref (ad i).1) ∧ va_O "java/lang/String" (ad i).1 (LA s) s s.heap ∧ va_OF "java/lang/String" "coder" "B" (.int 0) (ad i).1 (LA s) s s.heap ∧ va_OF "java/lang/String" "value" "[B" (.ref (ad i).2) (ad i).1 (LA s) s s.heap ∧ va_T .byte (ad i).2 (strB.getD i []).length (fun j => .int ((strB.getD i []).getD j 0)) (LA s) s s.heap) ∧
    (∀ i, i < 13 → (Term.string RX10 (nEI.getD i 0)).eval args s none [] s = some (.ref (ae i))) := by
  have hq := flat_of_before _ hgv
  have h0 : ∀ i : Nat, ∃ q : Nat × Nat, i < 17 → (Term.string RX7 (nSI.getD i 0)).eval args s none [] s = some (.ref q.1) ∧ va_O "java/lang/String" q.1 (LA s) s s.heap ∧ va_OF "java/lang/String" "coder" "B" (.int 0) q.1 (LA s) s s.heap ∧ va_OF "java/lang/String" "value" "[B" (.ref q.2) q.1 (LA s) s s.heap ∧ va_T .byte q.2 (strB.getD i []).length (fun j => .int ((strB.getD i []).getD j 0)) (LA s) s s.heap := by
    intro i
    by_cases hi : i < 17
    · have hl : (strB.getD i []).length ≤ 6 := E_len ⟨i, hi⟩
      have hex := hq _ (E_mem.1 ⟨i, hi⟩)
      obtain ⟨a, c, cA, kA, q1, q2, q3, q4, q5, q6, -⟩ := Cond.exactly_spec (args := args) (first := s) (o := none) (s := s) (idx := []) (t := .string RX7 (nSI.getD i 0)) (cls := "java/lang/String") hex
      obtain ⟨t, ht, hT⟩ := va_Tof (args := args) (s := s) (tm := .field (.string RX7 (nSI.getD i 0)) "java/lang/String" "value" "[B") (ty := .byte) (N := (strB.getD i []).length) (f := fun j => .int ((strB.getD i []).getD j 0)) (A := LA s) (by omega) (hq _ (E_mem.2.2.1 ⟨i, hi⟩)) (va_eqt (hq _ (E_mem.2.2.2 ⟨i, hi⟩))) (fun j hj => va_eqt (hq _ (E_mel ⟨i, hi⟩ ⟨j, by omega⟩ hj))) hAL
      exact ⟨(a, t), fun _ => ⟨q1, va_Oof hex q1 hAL, vk_OFof q1 (va_eqt (hq _ (E_mem.2.1 ⟨i, hi⟩))) hAL, vk_OFof q1 ht hAL, hT⟩⟩
    · exact ⟨(0, 0), fun h => absurd h hi⟩
  have h1 : ∀ i : Nat, ∃ a : Nat, i < 13 → (Term.string RX10 (nEI.getD i 0)).eval args s none [] s = some (.ref a) := by
    intro i
    by_cases hi : i < 13
    · obtain ⟨a, c, cA, kA, q1, -⟩ := Cond.exactly_spec (args := args) (first := s) (o := none) (s := s) (idx := []) (t := .string RX10 (nEI.getD i 0)) (cls := "java/lang/String") (hq _ (E_exE ⟨i, hi⟩))
      exact ⟨a, fun _ => q1⟩
    · exact ⟨0, fun h => absurd h hi⟩
  obtain ⟨ad, had⟩ := Classical.axiomOfChoice h0
  obtain ⟨ae, hae⟩ := Classical.axiomOfChoice h1
  exact ⟨ad, ae, had, hae⟩
def outK (a1 a2 : Nat) (ad : Nat → Nat × Nat) (ae : Nat → Nat) (k : Nat) : Nat := if k = 1000 then a1 else if k = 1001 then a2 else if k < 1200 then (ad (k - 1100)).1 else if k < 1300 then ae (k - 1200) else (ad (k - 1300)).2
theorem EVA_start {s : State} {args : Array Value} (hts : ∀ w ∈ lw_tbl, w.before args s = true) (hgv : (Cond.and given_1 narrow_1).before args s = true) : ∃ o : Nat → Nat, (∀ q ∈ strR, vk_R q.1 q.2.1 q.2.2.1 (o (1100 + q.2.2.2)) s) ∧ (∀ i, i < 17 → va_O "java/lang/String" (o (1100 + i)) (LA s) s s.heap) ∧ ∀ G : GT, (∀ k, 1000 ≤ k → gad G k = o k) → EVA G (LA s) s s.heap := by
  have hq := flat_of_before _ hgv
  obtain ⟨a1, a2, hAl, hDn⟩ := E_arr hts hgv
  obtain ⟨z1, z2⟩ := E_zq hts hgv
  obtain ⟨t1, t2, t3, _, _, _⟩ := E_tab hts hgv
  obtain ⟨ad, ae, had, hae⟩ := E_str hts hgv
  have oS : ∀ i, i < 17 → outK a1 a2 ad ae (1100 + i) = (ad i).1 := fun i hi => by unfold outK; rw [if_neg (by omega), if_neg (by omega), if_pos (by omega), show 1100 + i - 1100 = i by omega]
  have oV : ∀ i, i < 17 → outK a1 a2 ad ae (1300 + i) = (ad i).2 := fun i hi => by unfold outK; rw [if_neg (by omega), if_neg (by omega), if_neg (by omega), if_neg (by omega), show 1300 + i - 1300 = i by omega]
  have hR : ∀ q ∈ strR, vk_R q.1 q.2.1 q.2.2.1 (outK a1 a2 ad ae (1100 + q.2.2.2)) s := by
    intro q hm
    have hst := hts _ ((show ∀ q ∈ strR, Cond.stringRef q.1 q.2.1 q.2.2.1 ∈ lw_tbl by decide +kernel) q hm)
    refine vk_R.of hst ?_
    clear hst
    revert hm
    unfold strR
    revert q
    refine List.forall_mem_cons.mpr ⟨?_, ?_⟩
    · exact hae 0 (by decide)
    refine List.forall_mem_cons.mpr ⟨?_, ?_⟩
    · exact hae 1 (by decide)
    refine List.forall_mem_cons.mpr ⟨?_, ?_⟩
    · exact hae 2 (by decide)
    refine List.forall_mem_cons.mpr ⟨?_, ?_⟩
    · exact hae 3 (by decide)
    refine List.forall_mem_cons.mpr ⟨?_, ?_⟩
    · exact hae 4 (by decide)
    refine List.forall_mem_cons.mpr ⟨?_, ?_⟩
    · exact hae 5 (by decide)
    refine List.forall_mem_cons.mpr ⟨?_, ?_⟩
    · exact hae 6 (by decide)
    refine List.forall_mem_cons.mpr ⟨?_, ?_⟩
    · exact hae 7 (by decide)
    refine List.forall_mem_cons.mpr ⟨?_, ?_⟩
    · exact hae 8 (by decide)
    refine List.forall_mem_cons.mpr ⟨?_, ?_⟩
    · exact hae 9 (by decide)
    refine List.forall_mem_cons.mpr ⟨?_, ?_⟩
    · exact hae 10 (by decide)
    refine List.forall_mem_cons.mpr ⟨?_, ?_⟩
    · exact hae 11 (by decide)
    refine List.forall_mem_cons.mpr ⟨?_, ?_⟩
    · exact hae 12 (by decide)
    refine List.forall_mem_cons.mpr ⟨?_, ?_⟩
    · exact (had 0 (by decide)).1
    refine List.forall_mem_cons.mpr ⟨?_, ?_⟩
    · exact (had 1 (by decide)).1
    refine List.forall_mem_cons.mpr ⟨?_, ?_⟩
    · exact (had 2 (by decide)).1
    refine List.forall_mem_cons.mpr ⟨?_, ?_⟩
    · exact (had 3 (by decide)).1
    refine List.forall_mem_cons.mpr ⟨?_, ?_⟩
    · exact (had 4 (by decide)).1
    refine List.forall_mem_cons.mpr ⟨?_, ?_⟩
    · exact (had 5 (by decide)).1
    refine List.forall_mem_cons.mpr ⟨?_, ?_⟩
    · exact (had 6 (by decide)).1
    refine List.forall_mem_cons.mpr ⟨?_, ?_⟩
    · exact (had 7 (by decide)).1
    refine List.forall_mem_cons.mpr ⟨?_, ?_⟩
    · exact (had 8 (by decide)).1
    refine List.forall_mem_cons.mpr ⟨?_, ?_⟩
    · exact (had 9 (by decide)).1
    refine List.forall_mem_cons.mpr ⟨?_, ?_⟩
    · exact (had 10 (by decide)).1
    refine List.forall_mem_cons.mpr ⟨?_, ?_⟩
    · exact (had 11 (by decide)).1
    refine List.forall_mem_cons.mpr ⟨?_, ?_⟩
    · exact (had 12 (by decide)).1
    refine List.forall_mem_cons.mpr ⟨?_, ?_⟩
    · exact (had 13 (by decide)).1
    refine List.forall_mem_cons.mpr ⟨?_, ?_⟩
    · exact (had 14 (by decide)).1
    refine List.forall_mem_cons.mpr ⟨?_, ?_⟩
    · exact (had 15 (by decide)).1
    refine List.forall_mem_cons.mpr ⟨?_, ?_⟩
    · exact (had 16 (by decide)).1
    refine List.forall_mem_cons.mpr ⟨?_, ?_⟩
    · exact va_eqR (hq (.eq (.string RX7 156) (.string RX11 11)) (by decide +kernel)) (had 0 (by decide)).1
    refine List.forall_mem_cons.mpr ⟨?_, ?_⟩
    · exact va_eqR (hq (.eq (.string RX7 158) (.string RX11 13)) (by decide +kernel)) (had 1 (by decide)).1
    refine List.forall_mem_cons.mpr ⟨?_, ?_⟩
    · exact va_eqR (hq (.eq (.string RX7 160) (.string RX11 15)) (by decide +kernel)) (had 2 (by decide)).1
    refine List.forall_mem_cons.mpr ⟨?_, ?_⟩
    · exact va_eqR (hq (.eq (.string RX7 162) (.string RX11 17)) (by decide +kernel)) (had 3 (by decide)).1
    refine List.forall_mem_cons.mpr ⟨?_, ?_⟩
    · exact va_eqR (hq (.eq (.string RX7 164) (.string RX11 19)) (by decide +kernel)) (had 4 (by decide)).1
    refine List.forall_mem_cons.mpr ⟨?_, ?_⟩
    · exact va_eqR (hq (.eq (.string RX7 213) (.string RX11 25)) (by decide +kernel)) (had 8 (by decide)).1
    refine List.forall_mem_cons.mpr ⟨?_, ?_⟩
    · exact va_eqR (hq (.eq (.string RX7 189) (.string RX11 266)) (by decide +kernel)) (had 7 (by decide)).1
    refine List.forall_mem_cons.mpr ⟨?_, ?_⟩
    · exact va_eqR (hq (.eq (.string RX7 216) (.string RX11 27)) (by decide +kernel)) (had 9 (by decide)).1
    refine List.forall_mem_cons.mpr ⟨?_, ?_⟩
    · exact va_eqR (hq (.eq (.string RX7 187) (.string RX11 274)) (by decide +kernel)) (had 6 (by decide)).1
    refine List.forall_mem_cons.mpr ⟨?_, ?_⟩
    · exact va_eqR (hq (.eq (.string RX7 172) (.string RX11 279)) (by decide +kernel)) (had 5 (by decide)).1
    refine List.forall_mem_cons.mpr ⟨?_, ?_⟩
    · exact va_eqR (hq (.eq (.string RX7 74) (.string RX11 287)) (by decide +kernel)) (had 15 (by decide)).1
    refine List.forall_mem_cons.mpr ⟨?_, ?_⟩
    · exact va_eqR (hq (.eq (.string RX7 79) (.string RX11 289)) (by decide +kernel)) (had 16 (by decide)).1
    refine List.forall_mem_cons.mpr ⟨?_, ?_⟩
    · exact va_eqR (hq (.eq (.string RX7 217) (.string RX11 29)) (by decide +kernel)) (had 10 (by decide)).1
    refine List.forall_mem_cons.mpr ⟨?_, ?_⟩
    · exact va_eqR (hq (.eq (.string RX7 60) (.string RX11 294)) (by decide +kernel)) (had 13 (by decide)).1
    refine List.forall_mem_cons.mpr ⟨?_, ?_⟩
    · exact va_eqR (hq (.eq (.string RX7 69) (.string RX11 299)) (by decide +kernel)) (had 14 (by decide)).1
    refine List.forall_mem_cons.mpr ⟨?_, ?_⟩
    · exact va_eqR (hq (.eq (.string RX7 218) (.string RX11 31)) (by decide +kernel)) (had 11 (by decide)).1
    refine List.forall_mem_cons.mpr ⟨?_, ?_⟩
    · exact va_eqR (hq (.eq (.string RX7 220) (.string RX11 33)) (by decide +kernel)) (had 12 (by decide)).1
    exact fun q h => absurd h List.not_mem_nil
  refine ⟨outK a1 a2 ad ae, hR, fun i hi => by rw [oS i hi]; exact (had i hi).2.1, fun G hG => ⟨t1, ?_, ?_, z1, fun q h => ?_, fun i hi => ?_, z2, t2, t3⟩⟩
  · rw [hG 1000 (by decide)]; exact hAl
  · rw [hG 1001 (by decide)]; exact hDn
  · show vk_R q.1 q.2.1 q.2.2.1 (gad G (1100 + q.2.2.2)) s
    rw [hG _ (by omega)]; exact hR q h
  · unfold strA
    rw [show sK G i = (ad i).1 from (hG _ (by omega)).trans (oS i hi), show sV G i = (ad i).2 from (hG _ (by omega)).trans (oV i hi)]
    exact (had i hi).2
