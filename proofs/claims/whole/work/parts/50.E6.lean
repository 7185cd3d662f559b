set_option linter.unusedVariables false
set_option linter.unusedSimpArgs false
set_option maxRecDepth 16384
/-! clauses, in another time -/
section
variable {F : Nat}
def ccS (σ : St) (d s w i : Nat) : Bool := if w = 0 then bdS σ d i s else if w = 1 then decide (σ 8 (10 * d + i) = 2) && clS σ d i && !ofS σ d i s else decide (σ 8 (10 * d + i) = 3) && ofS σ d i s
theorem C_countIn (hF : 800 ≤ F) {σ τ : St} (T : Told σ τ) {d s w : Nat} (hd : d < nD σ) (hs : s < 2) (hw : w < 3) : fX6_countIn F σ (qN d) (qN s) (qN w) = some (qN (cnN (ccS σ d s w) (nS σ d))) := by
  refine wpE fun Q hQ => ?_
  have hb := T.dd hd
  have hn := (T.dn hd).2.2.2.2.2.2.2.2.1
  have hcd : (qN d).toNatClampNeg = d := q_clamp (by omega)
  unfold fX6_countIn
  refine lp_up Q (fun i (z : Int32 × Int32) => z.1 = qN i ∧ z.2 = qN (cnN (ccS σ d s w) i)) (nS σ d) ?_ F 0 _ (by omega) (by omega) ⟨rfl, rfl⟩
  rintro i ⟨c, acc⟩ K hi ⟨hc, hacc⟩ hK
  dsimp only at hc hacc
  subst hc hacc
  dsimp only
  refine wk (k := d) rfl (by omega) (by omega) ?_
  rw [hcd]
  refine wi (fun h => ?_) fun h => ?_
  · rw [hn, q_le (by omega) (by omega)] at h
    have : i = nS σ d := by omega
    subst this; exact hQ
  · rw [hn, q_le (by omega) (by omega)] at h
    have hcl : (qN (10 * d + i)).toNatClampNeg = 10 * d + i := q_clamp (by omega)
    refine wb1 (pl_c d i) (wk (k := 10 * d + i) rfl (by omega) (by omega) (wn fun x5 e5 => ?_))
    rw [hcl] at e5
    refine wj fun J7 hJ7 => wj fun J12 hJ12 => wj fun J15 hJ15 => ?_
    have hyes : ccS σ d s w i = true → Q (J12 ()) := by
      intro hh
      rw [hJ12, hJ7, if_neg (by decide)]
      refine wn fun x ex => hK _ (by omega) ⟨q_add i 1, ?_⟩
      show x = _
      rw [ex, cnN, hh]; exact q_add _ 1
    have hno : ccS σ d s w i = false → Q (J7 0) := by
      intro hh
      rw [hJ7, if_pos rfl]
      refine wn fun x ex => hK _ (by omega) ⟨q_add i 1, ?_⟩
      show x = _
      rw [ex, cnN, hh]; exact q_add _ 0
    rcases (by omega : w = 0 ∨ w = 1 ∨ w = 2) with rfl | rfl | rfl
    · rw [if_pos (show qN 0 = 0 from rfl)]
      refine wb1 (C_isBoundBy (by omega) T hd (by omega)) ?_
      have hcc : ccS σ d s 0 i = bdS σ d i s := rfl
      cases hbd : bdS σ d i s with
      | false =>
        rw [if_pos (show bI false = 0 from rfl), hJ15]
        refine wj fun J18 hJ18 => ?_
        rw [if_neg (show ¬ qN 0 = 1 by decide), hJ18]
        refine wj fun J21 hJ21 => ?_
        rw [if_neg (show ¬ qN 0 = 2 by decide), hJ21]
        exact hno (hcc.trans hbd)
      | true =>
        rw [if_neg (show ¬ bI true = 0 by decide)]
        exact hyes (hcc.trans hbd)
    · rw [if_neg (show ¬ qN 1 = 0 by decide), hJ15]
      refine wj fun J18 hJ18 => ?_
      rw [if_pos (show qN 1 = 1 from rfl)]
      have hcc : ccS σ d s 1 i = (decide (σ 8 (10 * d + i) = 2) && clS σ d i && !ofS σ d i s) := rfl
      have h18 : ccS σ d s 1 i = false → Q (J18 ()) := by
        intro hh
        rw [hJ18]
        refine wj fun J21 hJ21 => ?_
        rw [if_neg (show ¬ qN 1 = 2 by decide), hJ21]
        exact hno hh
      refine wi (fun c1 => ?_) fun c1 => h18 (by rw [e5] at c1; rw [hcc, decide_eq_false c1]; rfl)
      rw [e5] at c1
      refine wb1 (C_isClause (by omega) (by omega)) ?_
      cases hcl' : clS σ d i with
      | false => rw [if_pos (show bI false = 0 from rfl)]; exact h18 (by rw [hcc, hcl', Bool.and_false]; rfl)
      | true =>
        rw [if_neg (show ¬ bI true = 0 by decide)]
        refine wb1 (C_isOf (by omega) (by omega)) ?_
        cases hof : ofS σ d i s with
        | false => rw [if_pos (show bI false = 0 from rfl)]; exact hyes (by rw [hcc, hcl', hof, decide_eq_true c1]; rfl)
        | true => rw [if_neg (show ¬ bI true = 0 by decide)]; exact h18 (by rw [hcc, hof]; simp)
    · rw [if_neg (show ¬ qN 2 = 0 by decide), hJ15]
      refine wj fun J18 hJ18 => ?_
      rw [if_neg (show ¬ qN 2 = 1 by decide), hJ18]
      refine wj fun J21 hJ21 => ?_
      have hcc : ccS σ d s 2 i = (decide (σ 8 (10 * d + i) = 3) && ofS σ d i s) := rfl
      have h21 : ccS σ d s 2 i = false → Q (J21 ()) := fun hh => by rw [hJ21]; exact hno hh
      rw [if_pos (show qN 2 = 2 from rfl)]
      refine wi (fun c1 => ?_) fun c1 => h21 (by rw [e5] at c1; rw [hcc, decide_eq_false c1]; rfl)
      rw [e5] at c1
      refine wb1 (C_isOf (by omega) (by omega)) ?_
      cases hof : ofS σ d i s with
      | false => rw [if_pos (show bI false = 0 from rfl)]; exact h21 (by rw [hcc, hof, Bool.and_false])
      | true => rw [if_neg (show ¬ bI true = 0 by decide)]; exact hyes (by rw [hcc, hof, decide_eq_true c1]; rfl)
theorem M_clausesOf (hF : 800 ≤ F) {σ τ : St} (T : Told σ τ) (N : Nw 30 31 32 33 σ τ) {d s w : Nat} (hd : d < nD σ) (hs : s < 2) (hw : w < 3) : fX11_clausesOf F τ (qN d) (qN s) (qN w) = some (qN (cnN (ccS σ d s w) (nS σ d))) := by
  refine wpE fun Q hQ => ?_
  have hb := T.dd hd
  have hn := (T.dn hd).2.2.2.2.2.2.2.2.1
  have hn4 := (T.dn hd).2.2.2.1
  have hcd : (qN d).toNatClampNeg = d := q_clamp (by omega)
  unfold fX11_clausesOf
  refine lp_up Q (fun i (z : Int32 × Int32) => z.1 = qN i ∧ z.2 = qN (cnN (ccS σ d s w) i)) (nS σ d) ?_ F 0 _ (by omega) (by omega) ⟨rfl, rfl⟩
  rintro i ⟨c, acc⟩ K hi ⟨hc, hacc⟩ hK
  dsimp only at hc hacc
  subst hc hacc
  dsimp only
  refine wk (k := d) rfl (by omega) (by omega) ?_
  rw [hcd]
  refine wi (fun h => ?_) fun h => ?_
  · rw [hn4, hn, q_le (by omega) (by omega)] at h
    have : i = nS σ d := by omega
    subst this; exact hQ
  · rw [hn4, hn, q_le (by omega) (by omega)] at h
    have hcl : (qN (10 * d + i)).toNatClampNeg = 10 * d + i := q_clamp (by omega)
    have hst := T.st hd (show i < nS σ d by omega)
    rw [pl_m]
    refine wn fun x4 e4 => wj fun J6 hJ6 => ?_
    subst e4
    have hfin : ∀ b, ccS σ d s w i = b → Q (J6 (bI b)) := by
      intro b hh
      rw [hJ6]
      cases b with
      | false =>
        rw [if_pos (show bI false = 0 from rfl)]
        refine wn fun x ex => hK _ (by omega) ⟨q_add i 1, ?_⟩
        show x = _
        rw [ex, cnN, hh]; exact q_add _ 0
      | true =>
        rw [if_neg (show ¬ bI true = 0 by decide)]
        refine wn fun x ex => hK _ (by omega) ⟨q_add i 1, ?_⟩
        show x = _
        rw [ex, cnN, hh]; exact q_add _ 1
    rcases (by omega : w = 0 ∨ w = 1 ∨ w = 2) with rfl | rfl | rfl
    · rw [if_pos (show qN 0 = 0 from rfl)]
      exact wb1 (M_binds (by omega) T N hd (by omega)) (hfin _ rfl)
    · rw [if_neg (show ¬ qN 1 = 0 by decide), if_pos (show qN 1 = 1 from rfl)]
      refine wb1 (M_isClause T N hd (by omega)) (wj fun J16 hJ16 => ?_)
      have hcc : ccS σ d s 1 i = (decide (σ 8 (10 * d + i) = 2) && clS σ d i && !ofS σ d i s) := rfl
      have h16 : ccS σ d s 1 i = false → Q (J16 ()) := fun hh => by rw [hJ16]; exact hfin false hh
      cases hcl' : clS σ d i with
      | false => rw [if_pos (show bI false = 0 from rfl)]; exact h16 (by rw [hcc, hcl', Bool.and_false]; rfl)
      | true =>
        rw [if_neg (show ¬ bI true = 0 by decide)]
        refine wk (k := 10 * d + i) rfl (by omega) (by omega) ?_
        rw [hcl]
        refine wi (fun c1 => ?_) fun c1 => h16 (by rw [hst.1] at c1; rw [hcc, decide_eq_false c1]; rfl)
        rw [hst.1] at c1
        refine wk (k := 10 * d + i) rfl (by omega) (by omega) ?_
        have hof : ofS σ d i s = !decide (σ 9 (10 * d + i) = 1 - qN s) := by
          unfold ofS
          have hw2 := hst.2.2.2.2.1
          generalize σ 9 (10 * d + i) = x at hw2
          rcases (by omega : s = 0 ∨ s = 1) with rfl | rfl
          · obtain ⟨k, rfl, hk⟩ := q_get (x := x) (n := 3) (by grind) (by show x < 3; grind) (by decide)
            rcases (by omega : k = 0 ∨ k = 1 ∨ k = 2) with rfl | rfl | rfl <;> decide
          · obtain ⟨k, rfl, hk⟩ := q_get (x := x) (n := 3) (by grind) (by show x < 3; grind) (by decide)
            rcases (by omega : k = 0 ∨ k = 1 ∨ k = 2) with rfl | rfl | rfl <;> decide
        refine wi (fun c2 => ?_) fun c2 => h16 (by rw [hst.2.1] at c2; rw [hcc, hof, decide_eq_false c2]; simp)
        rw [hst.2.1] at c2
        exact hfin true (by rw [hcc, hcl', hof, decide_eq_true c1, decide_eq_true c2]; rfl)
    · rw [if_neg (show ¬ qN 2 = 0 by decide), if_neg (show ¬ qN 2 = 1 by decide)]
      refine wk (k := 10 * d + i) rfl (by omega) (by omega) (wj fun J11 hJ11 => ?_)
      rw [hcl]
      have hcc : ccS σ d s 2 i = (decide (σ 8 (10 * d + i) = 3) && ofS σ d i s) := rfl
      have h11 : ccS σ d s 2 i = false → Q (J11 ()) := fun hh => by rw [hJ11]; exact hfin false hh
      refine wi (fun c1 => ?_) fun c1 => h11 (by rw [hst.1] at c1; rw [hcc, decide_eq_false c1]; rfl)
      rw [hst.1] at c1
      refine wb1 (M_isOfHim T hd (by omega)) ?_
      cases hof : ofS σ d i s with
      | false => rw [if_pos (show bI false = 0 from rfl)]; exact h11 (by rw [hcc, hof, Bool.and_false])
      | true => rw [if_neg (show ¬ bI true = 0 by decide)]; exact hfin true (by rw [hcc, hof, decide_eq_true c1]; rfl)
theorem ccS_fr {σ σ' : St} (e : CE σ σ') (d s w i : Nat) : ccS σ' d s w i = ccS σ d s w i := by
  unfold ccS
  rw [bdS_fr e]
  unfold clS ofS
  rw [e 8 (by decide) (by decide), e 9 (by decide) (by decide), e 33 (by decide) (by decide)]
def csN (σ : St) (v : Int32) (w : Nat) : Nat → Nat
  | 0 => 0
  | d + 1 => csN σ v w d + (match roS σ d v with
    | none => 0
    | some s => if bnS σ 0 d then cnN (ccS σ d s w) (nS σ d) else 0)
theorem C_countOf (hF : 800 ≤ F) {σ τ u : St} (T : Told σ τ) (e : CE σ u) (v : Int32) {w : Nat} (hw : w < 3) : fX6_countOf F u v (qN w) (qN (bsN (bnS σ 0) (nD σ))) = some (qN (csN σ v w (nD σ))) := by
  refine wpE fun Q hQ => ?_
  have hD := T.2.2.2.2.1
  unfold fX6_countOf
  refine lp_up Q (fun d (z : Int32 × Int32) => z.1 = qN d ∧ z.2 = qN (csN σ v w d)) (nD σ) ?_ F 0 _ (by omega) (by omega) ⟨rfl, rfl⟩
  rintro d ⟨c, acc⟩ K hd ⟨hc, hacc⟩ hK
  dsimp only at hc hacc
  subst hc hacc
  dsimp only
  refine wi (fun h => ?_) fun h => ?_
  · rw [e 2 (by decide) (by decide), T.2.2.2.1, q_le (by omega) (by omega)] at h
    have : d = nD σ := by omega
    subst this; exact hQ
  · rw [e 2 (by decide) (by decide), T.2.2.2.1, q_le (by omega) (by omega)] at h
    have hdn : d < nD σ := by omega
    refine wb1 (C_sideOf (by omega) v) ?_
    rw [roS_fr e]
    cases hr : roS σ d v with
    | none =>
      rw [if_pos (show nO none = -1 from rfl)]
      refine hK _ hdn ⟨q_add d 1, ?_⟩
      show _ = qN (csN σ v w (d + 1))
      rw [csN, hr]; rfl
    | some s =>
      have hs := ro_lt hr
      rw [if_neg (by rw [nO_none (by intro s' h'; injection h' with h'; omega)]; intro h; cases h), bs_shr _ hdn hD]
      cases hbn : bnS σ 0 d with
      | false =>
        rw [if_pos (show bI false = 0 from rfl)]
        refine hK _ hdn ⟨q_add d 1, ?_⟩
        show _ = qN (csN σ v w (d + 1))
        rw [csN, hr, hbn]; rfl
      | true =>
        rw [if_neg (show ¬ bI true = 0 by decide)]
        refine wb1 (C_countIn hF (T.fr e ME.rfl) (d := d) (s := s) (w := w) (by rw [CE_nD e]; exact hdn) hs hw) (wn fun x ex => hK _ hdn ⟨q_add d 1, ?_⟩)
        show x = qN (csN σ v w (d + 1))
        rw [ex, csN, hr, hbn, CE_nS e, show ccS u d s w = ccS σ d s w from funext fun i => ccS_fr e d s w i]
        exact q_add _ _
theorem sm_clauses (hF : 800 ≤ F) : Sm_clauses F Rl := by
  intro σ τ a b R
  show G1 1 _ _
  unfold fX10_clauses fX11_clauses
  refine wn (Q := fun o => G1 1 _ o) fun τ0 h0 => ?_
  have R0 : Rl σ τ0 := by rw [h0]; exact R.fr CE.rfl ME4
  have h4 : τ0 0 4 = 0 := by rw [h0]; exact up4
  clear h0
  have T := R0.2.1
  have N := R0.nw
  have hD := T.2.2.2.2.1
  rw [C_chkV, M_isValley T, bd1_some, bd1_some]
  refine wj (Q := fun o => G1 1 _ o) fun J hJ => ?_
  have hno : G1 1 (some (1, 0, σ)) (J ()) := by
    rw [hJ, M_fail]
    exact G1_no (by decide) R0 rfl rfl CE.rfl ME4 up4
  by_cases hv : 0 ≤ a ∧ a < σ 2 0
  · have hin2 := M_isIn (F := F) (τ := τ0) b 0 2
    rw [if_pos hv, if_pos hv, if_pos rfl, if_neg (show ¬ (1 : Int32) = 0 by decide), C_chkB, bd1_some, show (0 : Int64) = Int32.toInt64 0 from rfl, show (2 : Int64) = Int32.toInt64 2 from rfl, hin2, bd1_some]
    by_cases hb : 0 ≤ b ∧ b < 3
    · rw [if_pos hb, if_pos (show 0 ≤ b ∧ b ≤ 2 by grind), if_pos rfl, if_neg (show ¬ (1 : Int32) = 0 by decide)]
      obtain ⟨w, rfl, hw⟩ := get_n (n := 3) hb (by decide)
      obtain ⟨u, z, hu, hz, zE, zW, uE⟩ := C_weighed hF R0
      rw [hu, bd2_some, C_countOf hF T uE a hw, bd1_some]
      have hm : ∃ x, lp (fun (K11 : (St × Int32 × Int32) → Option (Int32 × St)) (v10 : St × Int32 × Int32) => if (v10.1 5 1) ≤ v10.2.1 then (some (v10.2.2, v10.1)) else bd1 (fX11_roleOf F v10.1 a v10.2.1) fun r13 => if r13 = (-1 : Int32) then (K11 ((v10.1, v10.2.1 + 1, v10.2.2))) else bd2 (fX11_isBinding F v10.1 v10.2.1) fun r14 u15 => if r14 = 0 then (K11 ((u15, v10.2.1 + 1, v10.2.2))) else bd1 (fX11_roleOf F u15 a v10.2.1) fun r16 => bd1 (fX11_clausesOf F u15 v10.2.1 r16 (qN w)) fun r17 => nm (v10.2.2 + r17) fun x18 => K11 ((u15, v10.2.1 + 1, x18))) F ((τ0, 0, 0)) = some x ∧ x.1 = qN (csN σ a w (nD σ)) ∧ ExM τ0 x.2 := by
        refine wpI fun Q hQ => ?_
        refine lp_up Q (fun d (z : St × Int32 × Int32) => ExM τ0 z.1 ∧ z.2.1 = qN d ∧ z.2.2 = qN (csN σ a w d)) (nD σ) ?_ F 0 _ (by omega) (by omega) ⟨ExM.rfl, rfl, rfl⟩
        rintro d ⟨t, c, acc⟩ K hd ⟨hE, hc, hacc⟩ hK
        dsimp only at hE hc hacc
        subst hc hacc
        dsimp only
        have Tt := T.fr CE.rfl hE.me
        have Nt := N.fr (by decide) CE.rfl hE.me
        refine wi (fun h => ?_) fun h => ?_
        · rw [hE 5 (by decide) (by decide) (by decide), T.2.2.2.2.2.1, T.2.2.2.1, q_le (by omega) (by omega)] at h
          have : d = nD σ := by omega
          subst this; exact hQ _ ⟨rfl, hE⟩
        · rw [hE 5 (by decide) (by decide) (by decide), T.2.2.2.2.2.1, T.2.2.2.1, q_le (by omega) (by omega)] at h
          have hdn : d < nD σ := by omega
          refine wb1 (M_roleOf Tt hdn a) ?_
          cases hr : roS σ d a with
          | none =>
            rw [if_pos (show nO none = -1 from rfl)]
            refine hK _ hdn ⟨hE, q_add d 1, ?_⟩
            show _ = qN (csN σ a w (d + 1))
            rw [csN, hr]; rfl
          | some s =>
            have hs := ro_lt hr
            rw [if_neg (by rw [nO_none (by intro s' h'; injection h' with h'; omega)]; intro h; cases h)]
            obtain ⟨y, hy, y1, y2⟩ := M_isBinding (F := F) (by omega) Tt Nt (more := 0) (by decide) (by rw [hE 0 (by decide) (by decide) (by decide)]; exact R0.2.2.2.2.1) hdn
            refine wb2 (r := y.1) (u := y.2) hy ?_
            rw [y1]
            cases hbn : bnS σ 0 d with
            | false =>
              rw [if_pos (show bI false = 0 from rfl)]
              refine hK _ hdn ⟨hE.trans y2, q_add d 1, ?_⟩
              show _ = qN (csN σ a w (d + 1))
              rw [csN, hr, hbn]; rfl
            | true =>
              rw [if_neg (show ¬ bI true = 0 by decide)]
              have Ty := Tt.fr CE.rfl y2.me
              have Ny := Nt.fr (by decide) CE.rfl y2.me
              refine wb1 (M_roleOf Ty hdn a) ?_
              rw [hr]
              refine wb1 (M_clausesOf hF Ty Ny hdn hs hw) (wn fun x ex => hK _ hdn ⟨hE.trans y2, q_add d 1, ?_⟩)
              show x = qN (csN σ a w (d + 1))
              rw [ex, csN, hr, hbn]
              exact q_add _ _
      obtain ⟨x, hx, x1, x2⟩ := hm
      rw [hx]
      exact G1_ok R0 rfl rfl x1.symm uE x2.me (by show x.2 0 4 = 0; rw [mq4 x2.mq]; exact h4)
    · rw [if_neg hb, if_neg (show ¬ (0 ≤ b ∧ b ≤ 2) by grind), if_neg (by decide), if_pos rfl]; exact hno
  · rw [if_neg hv, if_neg hv, if_neg (by decide), if_pos rfl]; exact hno
end
