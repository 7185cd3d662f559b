set_option linter.unusedVariables false
set_option linter.unusedSimpArgs false
set_option maxRecDepth 16384
/-! more calls that only ask -/
theorem Told.frm {σ τ τ' : St} (h : Told σ τ) (m : ∀ c, okM c = true → τ' c = τ c) : Told σ τ' := by
  simp only [Told, TDn, TSt, LimR, DXY, nV, nD, nS] at h ⊢
  rw [m 3 rfl, m 4 rfl, m 5 rfl, m 6 rfl, m 7 rfl, m 8 rfl, m 9 rfl, m 10 rfl, m 11 rfl, m 12 rfl, m 14 rfl, m 15 rfl]
  exact h
theorem Nw.frm {cy cd cb cn : Nat} {σ τ τ' : St} (h : Nw cy cd cb cn σ τ) (m : ∀ c, okM c = true → τ' c = τ c) (m1 : τ' 0 31 = τ 0 31) (m2 : τ' 0 32 = τ 0 32) : Nw cy cd cb cn σ τ' := by
  unfold Nw at h ⊢
  rw [m 18 rfl, m 13 rfl, m1, m2]
  exact h
section
variable {F : Nat}
theorem C_isBinding (hF : 800 ≤ F) {σ τ : St} (T : Told σ τ) (N : Nw 30 31 32 33 σ τ) {d : Nat} (hd : d < nD σ) :
    ∃ x, fX10_isBinding F σ (qN d) = some x ∧ x.1 = bI (bnS σ 0 d) ∧ CE σ x.2 ∧ CP x.2 d (nS σ d) (σ 2 2) (kn0 30 31 σ 0 d) (kn1 30 31 σ 0 d) (kdF σ d) (whF σ d) (nsF 33 σ d) := by
  refine wpI fun Q hQ => ?_
  have hb := T.dd hd
  unfold fX10_isBinding
  obtain ⟨x, hx, xC, xE⟩ := C_prepare (F := F) (by omega) T hd (more := 0)
  refine wb1 hx (wk (k := d) rfl (by omega) (by omega) ?_)
  have xce : CE σ x := fun c h1 h2 => xE c (by omega) (by omega)
  unfold bnS at hQ
  rw [q_clamp (by omega)]
  refine wi (fun h => ?_) fun h => ?_
  · rw [xE 32 (by decide) (by decide)] at h
    rw [decide_eq_true h, Bool.true_and] at hQ
    obtain ⟨y, hy, y1, y2⟩ := C_endsFacing (F := F) (by omega) (PB_of T N hd (more := 0) (by decide)) xC
    refine wb2 (r := y.1) (u := y.2) hy ?_
    have hz := hQ (y.1, y.2) ⟨y1, xce.trans y2.ce, xC.ex y2⟩
    rw [y1] at hz ⊢
    revert hz
    cases efS (σ 2 2) (sf (σ 2 2) (kn0 30 31 σ 0 d) (kn1 30 31 σ 0 d) (kdF σ d) (whF σ d) (nsF 33 σ d)) (nS σ d)
    · intro h; exact h
    · intro h; exact h
  · rw [xE 32 (by decide) (by decide)] at h
    rw [decide_eq_false h, Bool.false_and] at hQ
    exact hQ _ ⟨rfl, xce, xC⟩
theorem C_walkAll {d S : Nat} {fl k0 k1 : Int32} {kd wh ns : Nat → Int32} (hF : 20 ≤ F) (hB : PB S k0 k1 kd wh ns) {σ : St} (hC : CP σ d S fl k0 k1 kd wh ns) :
    ∃ x, fX2_walkAll F σ = some x ∧ x.1 = nO (wkS (sf fl k0 k1 kd wh ns) 0 S (p0 fl)).1 ∧ AtC x.2 (wkS (sf fl k0 k1 kd wh ns) 0 S (p0 fl)).2 ∧ ExC σ x.2 := by
  refine wpI fun Q hQ => ?_
  unfold fX2_walkAll
  rw [hC.2.2.2.2.2.1]
  obtain ⟨u, hu, uA, uE⟩ := C_begin (F := F) σ fl
  refine wb1 hu ?_
  have hC2 := hC.ex uE
  rw [hC2.2.2.1]
  obtain ⟨x, hx, x1, x2, x3⟩ := C_walk hF hB hC2 uA (p0_ok fl) (Nat.zero_le S) (Nat.le_refl S)
  refine wb2 (r := x.1) (u := x.2) hx ?_
  exact hQ _ ⟨x1, x2, uE.trans x3⟩
theorem sm_dance (hF : 800 ≤ F) : Sm_dance F Rl := by
  intro σ τ a w R
  show G1 1 _ _
  unfold fX10_dance fX11_dance
  refine wn (Q := fun o => G1 1 _ o) fun τ0 h0 => ?_
  have R0 : Rl σ τ0 := by rw [h0]; exact R.fr CE.rfl ME4
  have h4 : τ0 0 4 = 0 := by rw [h0]; exact up4
  clear h0
  have T := R0.2.1
  have N := R0.nw
  rw [C_chkD, M_isDance T, bd1_some, bd1_some]
  by_cases hv : 0 ≤ a ∧ a < σ 2 1
  · rw [if_pos hv, if_pos hv, if_pos rfl, if_neg (show ¬ (1 : Int32) = 0 by decide)]
    obtain ⟨d, rfl, hd⟩ := get_d T hv
    have hb := T.dd hd
    have hn := T.dn hd
    have hnd := N.2.2.1 d (by omega)
    have hcd : (qN d).toNatClampNeg = d := q_clamp (by omega)
    by_cases w0 : w = 0
    · subst w0
      refine G1_ok R0 (v := σ 4 d) (w := τ0 7 d) (by unfold fX0_envoy; rw [if_pos rfl, if_pos rfl, ck_ok (by omega) (by omega), hcd]; rfl) (by rw [if_pos rfl, ck_ok (by omega) (by omega), hcd]) hn.1.symm CE.rfl ME.rfl h4
    rw [if_neg w0, if_neg w0]
    by_cases w1 : w = 1
    · subst w1
      refine G1_ok R0 (v := σ 5 d) (w := τ0 8 d) (by unfold fX0_envoy; rw [if_pos rfl, if_neg (by decide), ck_ok (by omega) (by omega), hcd]; rfl) (by rw [if_pos rfl, ck_ok (by omega) (by omega), hcd]) hn.2.1.symm CE.rfl ME.rfl h4
    rw [if_neg w1, if_neg w1]
    by_cases w2 : w = 2
    · rw [if_pos w2, if_pos w2, ck_ok (by omega) (by omega), ck_ok (by omega) (by omega), hcd]
      exact G1_ok R0 rfl rfl hn.2.2.1.symm CE.rfl ME.rfl h4
    rw [if_neg w2, if_neg w2]
    by_cases w3 : w = 3
    · rw [if_pos w3, if_pos w3, ck_ok (by omega) (by omega), ck_ok (by omega) (by omega), hcd]
      exact G1_ok R0 rfl rfl hn.2.2.2.1.symm CE.rfl ME.rfl h4
    rw [if_neg w3, if_neg w3]
    by_cases w4 : w = 4
    · rw [if_pos w4, if_pos w4, ck_ok (by omega) (by omega), hcd]
      refine G1_ok R0 (v := σ 30 0 - σ 31 d) (by unfold fX9_since; rw [ck_ok (by omega) (by omega), hcd]; rfl) rfl (by rw [N.2.1, hnd.1]) CE.rfl ME.rfl h4
    rw [if_neg w4, if_neg w4]
    by_cases w5 : w = 5
    · rw [if_pos w5, if_pos w5, ck_ok (by omega) (by omega), hcd]
      have hof : fX11_isOf F τ0 (τ0 0 32) (qN d) = some (bI (bt (τ0 0 32) d)) := by
        unfold fX11_isOf; rw [bt_shr _ (by omega)]
        cases bt (τ0 0 32) d <;> rfl
      refine G1_ok R0 rfl (w := bI (bt (τ0 0 32) d)) (by rw [hof, bd1_some]; cases bt (τ0 0 32) d <;> rfl) hnd.2.2 CE.rfl ME.rfl h4
    rw [if_neg w5, if_neg w5]
    by_cases w6 : w = 6
    · rw [if_pos w6, if_pos w6]
      obtain ⟨x, hx, x1, x2, _⟩ := C_isBinding hF T N hd
      obtain ⟨y, hy, y1, y2⟩ := M_isBinding (F := F) (by omega) T N (more := 0) (by decide) R0.2.2.2.2.1 hd
      obtain ⟨x1', x2'⟩ := x
      obtain ⟨y1', y2'⟩ := y
      dsimp only at x1 x2 y1 y2
      subst x1 y1
      refine G1_ok R0 (v := bI (bnS σ 0 d)) (σ' := x2') (by rw [hx, bd2_some]; cases bnS σ 0 d <;> rfl) (w := bI (bnS σ 0 d)) (τ' := y2') (by rw [hy, bd2_some]; cases bnS σ 0 d <;> rfl) rfl x2 y2.me (by rw [mq4 y2.mq]; exact h4)
    rw [if_neg w6, if_neg w6]
    by_cases w7 : w = 7
    · rw [if_pos w7, if_pos w7, ck_ok (by omega) (by omega), hcd]
      obtain ⟨x, hx, xC, xE⟩ := C_prepare (F := F) (by omega) T hd (more := 0)
      have hB := PB_of T N hd (more := 0) (by decide)
      obtain ⟨z, hz, z1, z2, z3⟩ := C_walkAll (F := F) (by omega) hB xC
      obtain ⟨y, hy, y1, y2, y3⟩ := M_danceTo (F := F) (by omega) hB (MP_of T N hd R0.2.2.2.2.1) (Nat.le_refl _)
      rw [hn.2.2.2.1, hn.2.2.2.2.2.2.2.2.1]
      refine G1_ok R0 (v := z.1) (σ' := z.2) (by rw [hx, bd1_some, hz]; rfl) (w := z.1) (τ' := y.2) ?_ rfl (fun c h1 h2 => by rw [z3 c (by omega) (by omega) (by omega)]; exact xE c (by omega) (by omega)) y3.me (by rw [mq4 y3.mq]; exact h4)
      have hy' : fX11_danceTo F τ0 (qN d) (qN (nS σ d)) = some (y.1, y.2) := hy
      rw [hy', bd2_some, ck_ok (by omega) (by omega), y3 10 (by decide) (by decide) (by decide), hn.2.2.2.1, hn.2.2.2.2.2.2.2.2.1, z1]
      revert y1
      cases hw : (wkS (sf (σ 2 2) (kn0 30 31 σ 0 d) (kn1 30 31 σ 0 d) (kdF σ d) (whF σ d) (nsF 33 σ d)) 0 (nS σ d) (p0 (σ 2 2))).1 with
      | none =>
        intro y1
        rw [if_pos (show y.1 = qN (nS σ d) from y1)]; rfl
      | some i =>
        intro y1
        have hi := wk_lt _ _ _ _ hw
        rw [show y.1 = qN i from y1, if_neg (by rw [q_eq (by omega) (by omega)]; omega)]; rfl
    rw [if_neg w7, if_neg w7, M_fail]
    exact G1_no (by decide) R0 rfl rfl CE.rfl ME4 up4
  · rw [if_neg hv, if_neg hv, if_neg (by decide), if_pos rfl, M_fail]
    exact G1_no (by decide) R0 rfl rfl CE.rfl ME4 up4
theorem sm_apart (hF : 800 ≤ F) : Sm_apart F Rl := by
  intro σ τ a R
  show G1 1 _ _
  unfold fX10_apart fX11_apart
  refine wn (Q := fun o => G1 1 _ o) fun τ0 h0 => ?_
  have R0 : Rl σ τ0 := by rw [h0]; exact R.fr CE.rfl ME4
  have h4 : τ0 0 4 = 0 := by rw [h0]; exact up4
  clear h0
  have T := R0.2.1
  have N := R0.nw
  rw [C_chkD, M_isDance T, bd1_some, bd1_some]
  by_cases hv : 0 ≤ a ∧ a < σ 2 1
  · rw [if_pos hv, if_pos hv, if_pos rfl, if_neg (show ¬ (1 : Int32) = 0 by decide)]
    obtain ⟨d, rfl, hd⟩ := get_d T hv
    have hb := T.dd hd
    have hn := T.dn hd
    have hcd : (qN d).toNatClampNeg = d := q_clamp (by omega)
    obtain ⟨x, hx, xC, xE⟩ := C_prepare (F := F) (by omega) T hd (more := 0)
    have hB := PB_of T N hd (more := 0) (by decide)
    obtain ⟨z, hz, z1, z2, z3⟩ := C_walkAll (F := F) (by omega) hB xC
    obtain ⟨y, hy, y1, y2, y3⟩ := M_danceTo (F := F) (by omega) hB (MP_of T N hd R0.2.2.2.2.1) (Nat.le_refl _)
    rw [ck_ok (by omega) (by omega), hcd, hn.2.2.2.1, hn.2.2.2.2.2.2.2.2.1, hx, bd1_some, hz, hy]
    obtain ⟨c1, c2, c3, c4, c5, c6⟩ := z2
    obtain ⟨m1, m2, m3, m4, m5, m6⟩ := y2
    refine G1_ok R0 (σ' := z.2) (by unfold fX3_distance; rfl) (τ' := y.2) rfl (by rw [c1, c2, c4, c5, m1, m2, m4, m5]) (fun c h1 h2 => by rw [z3 c (by omega) (by omega) (by omega)]; exact xE c (by omega) (by omega)) y3.me (by rw [mq4 y3.mq]; exact h4)
  · rw [if_neg hv, if_neg hv, if_neg (by decide), if_pos rfl, M_fail]
    exact G1_no (by decide) R0 rfl rfl CE.rfl ME4 up4
theorem sm_later (hF : 800 ≤ F) : Sm_later F Rl := by
  intro σ τ a R
  show G1 2 _ _
  unfold fX10_later fX11_later
  refine wn (Q := fun o => G1 2 _ o) fun τ0 h0 => ?_
  have R0 : Rl σ τ0 := by rw [h0]; exact R.fr CE.rfl ME4
  have h4 : τ0 0 4 = 0 := by rw [h0]; exact up4
  clear h0
  have T := R0.2.1
  have N := R0.nw
  have hD := T.2.2.2.2.1
  have := M_isIn (F := F) (τ := τ0) a 0 99
  rw [show (0 : Int64) = Int32.toInt64 0 from rfl, show (99 : Int64) = Int32.toInt64 99 from rfl, this, bd1_some]
  refine wj (Q := fun o => G1 2 o _) fun J hJ => ?_
  by_cases h1 : a < 0
  · rw [if_pos h1, if_neg (show ¬ (0 ≤ a ∧ a ≤ 99) by grind), if_pos rfl, M_fail, hJ]
    exact G1_no (by decide) R0 rfl rfl CE.rfl ME4 up4
  rw [if_neg h1]
  by_cases h2 : a ≤ 99
  · rw [if_pos h2, if_pos (show 0 ≤ a ∧ a ≤ 99 by grind), if_neg (show ¬ (1 : Int32) = 0 by decide)]
    refine wn (Q := fun o => G1 2 _ o) fun τ1 e1 => ?_
    have m1 : ∀ c, okM c = true → τ1 c = τ0 c := fun c hc => by rw [e1, up_ne _ _ _ (okM_ne hc).1]
    have hj : ∀ j, j ≠ 38 → τ1 0 j = τ0 0 j := fun j hj => by rw [e1, up_same, upd_ne _ _ hj]
    obtain ⟨x, hx, x1, x2⟩ := C_bits (F := F) (by omega) T N (more := a) (by grind)
    obtain ⟨y, hy, y1, y2⟩ := M_binding (F := F) (by omega) (T.frm m1) (N.frm m1 (hj 31 (by decide)) (hj 32 (by decide))) (more := a) (by grind) (by rw [e1, up_same, upd_same])
    rw [hx, hy]
    obtain ⟨xa, xb⟩ := x
    obtain ⟨ya, yb⟩ := y
    dsimp only at x1 x2 y1 y2
    subst x1 y1
    have hlt := bs256 (f := bnS σ a) hD
    rw [bd2_some, bd2_some, C_bitCount hlt, M_bitsOf (by omega) hlt]
    refine G1_ok R0 rfl rfl rfl x2 ?_ ?_
    · have hy0 : yb 0 = τ1 0 := y2 0 (by decide) (by decide) (by decide)
      refine ⟨fun c hc => ?_, fun j h1 h2 => ?_⟩
      · rw [up_ne _ _ _ (okM_ne hc).1]
        have := okM_ne hc
        rw [y2 c (by omega) (by omega) (by omega)]; exact m1 c hc
      · rw [up_same]
        by_cases h38 : j = 38
        · subst h38; rw [upd_same]; exact R0.2.2.2.2.1.symm
        · rw [upd_ne _ _ h38, hy0]; exact hj j h38
    · rw [up_same, upd_ne _ _ (by decide), y2 0 (by decide) (by decide) (by decide), hj 4 (by decide)]; exact h4
  · rw [if_neg h2, if_neg (show ¬ (0 ≤ a ∧ a ≤ 99) by grind), if_pos rfl, M_fail, hJ]
    exact G1_no (by decide) R0 rfl rfl CE.rfl ME4 up4
end
