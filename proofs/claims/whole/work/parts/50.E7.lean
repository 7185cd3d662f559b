set_option linter.unusedVariables false
set_option linter.unusedSimpArgs false
set_option maxRecDepth 16384
/-! inTime, game -/
section
variable {F : Nat}
def c1S (F : Nat) (σ : St) (d i s : Nat) (t : Int32) : Bool := bdS σ d i s && !decide (limS F σ d i s t = limS F σ d i s (σ 6 d))
def chS (F : Nat) (σ : St) (d : Nat) (t : Int32) (i : Nat) : Bool := c1S F σ d i 0 t || c1S F σ d i 1 t
theorem c1S_fr {σ τ σ' : St} (hF : 800 ≤ F) (T : Told σ τ) (N : Nw 30 31 32 33 σ τ) (e : CE σ σ') {d i s : Nat} (hd : d < nD σ) (hi : i < nS σ d) (hs : s < 2) (t : Int32) : c1S F σ' d i s t = c1S F σ d i s t := by
  unfold c1S
  rw [bdS_fr e, lim_fr hF T N e hd hi hs, lim_fr hF T N e hd hi hs, e 6 (by decide) (by decide)]
theorem C_changesIn {σ τ : St} (hF : 800 ≤ F) (T : Told σ τ) (N : Nw 30 31 32 33 σ τ) {d i s : Nat} (hd : d < nD σ) (hi : i < nS σ d) (hs : s < 2) (t : Int32) :
    ∃ x, fX6_changesIn F σ (qN d) (qN i) (qN s) t = some x ∧ x.1 = bI (c1S F σ d i s t) ∧ CE σ x.2 := by
  have hb := T.dd hd
  unfold fX6_changesIn
  rw [C_isBoundBy (by omega) T hd hi, bd1_some]
  unfold c1S
  cases hbd : bdS σ d i s with
  | false => exact ⟨_, rfl, rfl, CE.rfl⟩
  | true =>
    rw [if_neg (show ¬ bI true = 0 by decide)]
    obtain ⟨u, hu, fu⟩ := lim_c hF T N hd hi hs t
    have ce : CE σ u := fun c h1 h2 => fu c (by omega) (by omega)
    obtain ⟨v, hv, fv⟩ := lim_c hF (T.fr ce ME.rfl) (N.fr (by decide) ce ME.rfl) (d := d) (i := i) (s := s) (by rw [CE_nD ce]; exact hd) (by rw [CE_nS ce]; exact hi) hs (σ 6 d)
    rw [lim_fr hF T N ce hd hi hs] at hv
    rw [hu, bd2_some, ck_ok (by omega) (by omega), q_clamp (by omega), ce 6 (by decide) (by decide), hv, bd2_some]
    have ce2 : CE σ v := ce.trans fun c h1 h2 => fv c (by omega) (by omega)
    by_cases h : limS F σ d i s t = limS F σ d i s (σ 6 d)
    · rw [if_pos h, decide_eq_true h]; exact ⟨_, rfl, rfl, ce2⟩
    · rw [if_neg h, decide_eq_false h]; exact ⟨_, rfl, rfl, ce2⟩
theorem C_countChanged {σ τ : St} (hF : 800 ≤ F) (T : Told σ τ) (N : Nw 30 31 32 33 σ τ) {d : Nat} (hd : d < nD σ) (t : Int32) :
    ∃ x, fX6_countChanged F σ (qN d) t = some x ∧ x.1 = qN (cnN (chS F σ d t) (nS σ d)) ∧ CE σ x.2 := by
  refine wpI fun Q hQ => ?_
  have hb := T.dd hd
  have hn := (T.dn hd).2.2.2.2.2.2.2.2.1
  have hcd : (qN d).toNatClampNeg = d := q_clamp (by omega)
  unfold fX6_countChanged
  refine lp_up Q (fun i (z : St × Int32 × Int32) => CE σ z.1 ∧ z.2.1 = qN i ∧ z.2.2 = qN (cnN (chS F σ d t) i)) (nS σ d) ?_ F 0 _ (by omega) (by omega) ⟨CE.rfl, rfl, rfl⟩
  rintro i ⟨u, c, acc⟩ K hi ⟨hE, hc, hacc⟩ hK
  dsimp only at hE hc hacc
  subst hc hacc
  dsimp only
  refine wk (k := d) rfl (by omega) (by omega) ?_
  rw [hcd]
  refine wi (fun h => ?_) fun h => ?_
  · rw [hE 7 (by decide) (by decide), hn, q_le (by omega) (by omega)] at h
    have : i = nS σ d := by omega
    subst this; exact hQ _ ⟨rfl, hE⟩
  · rw [hE 7 (by decide) (by decide), hn, q_le (by omega) (by omega)] at h
    have hin : i < nS σ d := by omega
    obtain ⟨x, hx, x1, x2⟩ := C_changesIn hF (T.fr hE ME.rfl) (N.fr (by decide) hE ME.rfl) (d := d) (i := i) (s := 0) (by rw [CE_nD hE]; exact hd) (by rw [CE_nS hE]; exact hin) (by decide) t
    rw [c1S_fr hF T N hE hd hin (by decide)] at x1
    refine wb2 (r := x.1) (u := x.2) hx ?_
    rw [x1]
    have hE1 := hE.trans x2
    cases hc0 : c1S F σ d i 0 t with
    | true =>
      rw [if_neg (show ¬ bI true = 0 by decide)]
      refine hK _ hin ⟨hE1, q_add i 1, ?_⟩
      show _ = qN (cnN _ (i + 1))
      rw [cnN, show chS F σ d t i = true by unfold chS; rw [hc0]; rfl]; exact q_add _ 1
    | false =>
      rw [if_pos (show bI false = 0 from rfl)]
      obtain ⟨y, hy, y1, y2⟩ := C_changesIn hF (T.fr hE1 ME.rfl) (N.fr (by decide) hE1 ME.rfl) (d := d) (i := i) (s := 1) (by rw [CE_nD hE1]; exact hd) (by rw [CE_nS hE1]; exact hin) (by decide) t
      rw [c1S_fr hF T N hE1 hd hin (by decide)] at y1
      refine wb2 (r := y.1) (u := y.2) hy ?_
      rw [y1]
      cases hc1 : c1S F σ d i 1 t with
      | true =>
        rw [if_neg (show ¬ bI true = 0 by decide)]
        refine hK _ hin ⟨hE1.trans y2, q_add i 1, ?_⟩
        show _ = qN (cnN _ (i + 1))
        rw [cnN, show chS F σ d t i = true by unfold chS; rw [hc0, hc1]; rfl]; exact q_add _ 1
      | false =>
        rw [if_pos (show bI false = 0 from rfl)]
        refine hK _ hin ⟨hE1.trans y2, q_add i 1, ?_⟩
        show _ = qN (cnN _ (i + 1))
        rw [cnN, show chS F σ d t i = false by unfold chS; rw [hc0, hc1]; rfl]; rfl
theorem sm_inTime (hF : 800 ≤ F) : Sm_inTime F Rl := by
  intro σ τ a t R
  show G2 _ _
  unfold fX10_inTime fX11_inTime
  refine wn (Q := fun o => G2 _ o) fun τ0 h0 => ?_
  have R0 : Rl σ τ0 := by rw [h0]; exact R.fr CE.rfl ME4
  have h4 : τ0 0 4 = 0 := by rw [h0]; exact up4
  clear h0
  have T := R0.2.1
  have N := R0.nw
  rw [C_chkD, M_isDance T, bd1_some, bd1_some]
  by_cases hv : 0 ≤ a ∧ a < σ 2 1
  · have hin2 := M_isIn (F := F) (τ := τ0) t 1 4
    rw [if_pos hv, if_pos hv, if_pos rfl, if_neg (show ¬ (1 : Int32) = 0 by decide), show (1 : Int64) = Int32.toInt64 1 from rfl, show (4 : Int64) = Int32.toInt64 4 from rfl, hin2, bd1_some]
    refine wj (Q := fun o => G2 o _) fun J hJ => ?_
    obtain ⟨d, rfl, hd⟩ := get_d T hv
    have hb := T.dd hd
    have hn := (T.dn hd).2.2.2.2.2.2.2.2.1
    have hn4 := (T.dn hd).2.2.2.1
    have hcd : (qN d).toNatClampNeg = d := q_clamp (by omega)
    by_cases h1 : t < 1
    · rw [if_pos h1, if_neg (show ¬ (1 ≤ t ∧ t ≤ 4) by grind), if_pos rfl, hJ, M_fail]
      exact G2_no2 R0 rfl rfl CE.rfl ME4 up4
    rw [if_neg h1]
    by_cases h2 : t ≤ 4
    · rw [if_pos h2, if_pos (show 1 ≤ t ∧ t ≤ 4 by grind), if_neg (show ¬ (1 : Int32) = 0 by decide)]
      obtain ⟨x, hx, x1, x2, _⟩ := C_isBinding hF T N hd
      have hx' : fX10_isBinding F σ (qN d) = some (bI (bnS σ 0 d), x.2) := by rw [hx, ← x1]
      rw [hx', bd2_some]
      have hm : ∀ E, E = (lp (fun (K6 : (St × Int32 × Int32) → Option (Int32 × St)) (v5 : St × Int32 × Int32) => ckI (qN d) 16 (if (v5.1 10 (Int32.toNatClampNeg (qN d))) ≤ v5.2.1 then (some (v5.2.2, v5.1)) else bd2 (fX11_isBinding F v5.1 (qN d)) fun r8 u9 => if r8 = 0 then (some (v5.2.2, u9)) else lp (fun (K11 : (St × Int32 × Int32) → Option (Int32 × St)) (v10 : St × Int32 × Int32) => if (2 : Int32) ≤ v10.2.1 then (if v10.2.2 = 0 then (nm (v5.2.2 + 0) fun x13 => K6 ((v10.1, v5.2.1 + 1, x13))) else nm (v5.2.2 + 1) fun x14 => K6 ((v10.1, v5.2.1 + 1, x14))) else if v10.2.2 = 0 then (bd1 (fX11_binds F v10.1 (qN d) v5.2.1 v10.2.1) fun r15 => if r15 = 0 then (K11 ((v10.1, v10.2.1 + 1, 0))) else bd2 (fX11_limitOf F v10.1 (qN d) v5.2.1 v10.2.1 t) fun r16 u17 => ckI (qN d) 16 (bd2 (fX11_limitOf F u17 (qN d) v5.2.1 v10.2.1 (u17 9 (Int32.toNatClampNeg (qN d)))) fun r18 u19 => if r16 = r18 then (K11 ((u19, v10.2.1 + 1, 0))) else K11 ((u19, v10.2.1 + 1, 1)))) else K11 ((v10.1, v10.2.1 + 1, 1))) F ((u9, 0, 0)))) F ((τ0, 0, 0))) → ∃ x, E = some x ∧ x.1 = (if bnS σ 0 d then qN (cnN (chS F σ d t) (nS σ d)) else 0) ∧ MqE τ0 x.2 := by
        intro E hE'
        subst hE'
        refine wpI fun Q hQ => ?_
        refine lp_up Q (fun i (z : St × Int32 × Int32) => MqE τ0 z.1 ∧ z.2.1 = qN i ∧ z.2.2 = qN (cnN (chS F σ d t) i) ∧ (i = 0 ∨ bnS σ 0 d = true)) (nS σ d) ?_ F 0 _ (by omega) (by omega) ⟨MqE.rfl, rfl, rfl, .inl rfl⟩
        rintro i ⟨w, c, acc⟩ K hi ⟨hE, hc, hacc, hor⟩ hK
        dsimp only at hE hc hacc
        subst hc hacc
        dsimp only
        have Tw := T.fr CE.rfl hE.me
        have Nw' := N.fr (by decide) CE.rfl hE.me
        refine wk (k := d) rfl (by omega) (by omega) ?_
        rw [hcd]
        refine wi (fun h => ?_) fun h => ?_
        · rw [hE 10 rfl, hn4, hn, q_le (by omega) (by omega)] at h
          have hin : i = nS σ d := by omega
          refine hQ _ ⟨?_, hE⟩
          show qN _ = _
          cases hbn : bnS σ 0 d with
          | true => rw [if_pos rfl, hin]
          | false =>
            have : i = 0 := hor.resolve_right (by rw [hbn]; decide)
            subst this; rfl
        · rw [hE 10 rfl, hn4, hn, q_le (by omega) (by omega)] at h
          have hin : i < nS σ d := by omega
          obtain ⟨y, hy, y1, y2⟩ := M_isBinding (F := F) (by omega) Tw Nw' (more := 0) (by decide) (by rw [hE 0 rfl]; exact R0.2.2.2.2.1) hd
          refine wb2 (r := y.1) (u := y.2) hy ?_
          rw [y1]
          cases hbn : bnS σ 0 d with
          | false =>
            rw [if_pos (show bI false = 0 from rfl)]
            have : i = 0 := hor.resolve_right (by rw [hbn]; decide)
            subst this
            exact hQ _ ⟨by rw [hbn]; rfl, hE.trans y2.mq⟩
          | true =>
            rw [if_neg (show ¬ bI true = 0 by decide)]
            refine lp_up Q (fun s (z : St × Int32 × Int32) => MqE τ0 z.1 ∧ z.2.1 = qN s ∧ z.2.2 = bI (anyN (fun s => c1S F σ d i s t) s)) 2 ?_ F 0 _ (by omega) (by omega) ⟨hE.trans y2.mq, rfl, rfl⟩
            rintro s ⟨z, c, acc⟩ K2 hs ⟨hz, hc, hacc⟩ hK2
            dsimp only at hz hc hacc
            subst hc hacc
            dsimp only
            have Tz := T.fr CE.rfl hz.me
            have Nz := N.fr (by decide) CE.rfl hz.me
            have hch : chS F σ d t i = anyN (fun s => c1S F σ d i s t) 2 := by
              unfold chS; simp [anyN]
            refine wi (fun h2 => ?_) fun h2 => ?_
            · rw [show (2 : Int32) = qN 2 from rfl, q_le (by omega) (by omega)] at h2
              have : s = 2 := by omega
              subst this
              cases hb2 : anyN (fun s => c1S F σ d i s t) 2 with
              | false =>
                rw [if_pos (show bI false = 0 from rfl)]
                refine wn fun x ex => hK _ hin ⟨hz, q_add i 1, ?_, .inr hbn⟩
                show x = qN (cnN _ (i + 1))
                rw [ex, cnN, hch, hb2]; exact q_add _ 0
              | true =>
                rw [if_neg (show ¬ bI true = 0 by decide)]
                refine wn fun x ex => hK _ hin ⟨hz, q_add i 1, ?_, .inr hbn⟩
                show x = qN (cnN _ (i + 1))
                rw [ex, cnN, hch, hb2]; exact q_add _ 1
            · rw [show (2 : Int32) = qN 2 from rfl, q_le (by omega) (by omega)] at h2
              have hs2 : s < 2 := by omega
              cases hb2 : anyN (fun s => c1S F σ d i s t) s with
              | true =>
                rw [if_neg (show ¬ bI true = 0 by decide)]
                exact hK2 _ hs2 ⟨hz, q_add s 1, by rw [anyN, hb2]; rfl⟩
              | false =>
                rw [if_pos (show bI false = 0 from rfl)]
                refine wb1 (M_binds (by omega) Tz Nz hd hin) ?_
                cases hbd : bdS σ d i s with
                | false =>
                  rw [if_pos (show bI false = 0 from rfl)]
                  exact hK2 _ hs2 ⟨hz, q_add s 1, by rw [anyN, hb2]; unfold c1S; rw [hbd]; rfl⟩
                | true =>
                  rw [if_neg (show ¬ bI true = 0 by decide)]
                  obtain ⟨w1, hw1, fw1⟩ := lim_m hF Tz Nz hd hin hs2 t
                  refine wb2 hw1 (wk (k := d) rfl (by omega) (by omega) ?_)
                  have hz1 : MqE τ0 w1 := hz.trans (mq_of fw1)
                  obtain ⟨w2, hw2, fw2⟩ := lim_m hF (T.fr CE.rfl hz1.me) (N.fr (by decide) CE.rfl hz1.me) hd hin hs2 (σ 6 d)
                  rw [hz1 9 rfl, (T.dn hd).2.2.1]
                  refine wb2 hw2 ?_
                  have hz2 : MqE τ0 w2 := hz1.trans (mq_of fw2)
                  refine wi (fun c1 => ?_) fun c1 => ?_
                  · exact hK2 _ hs2 ⟨hz2, q_add s 1, by rw [anyN, hb2]; unfold c1S; rw [hbd, decide_eq_true c1]; rfl⟩
                  · exact hK2 _ hs2 ⟨hz2, q_add s 1, by rw [anyN, hb2]; unfold c1S; rw [hbd, decide_eq_false c1]; rfl⟩
      obtain ⟨y, hy, y1, y2⟩ := hm _ rfl
      rw [hy]
      cases hbn : bnS σ 0 d with
      | false =>
        rw [hbn] at y1
        rw [if_pos (show bI false = 0 from rfl)]
        exact G2_ok R0 rfl rfl y1.symm x2 y2.me (by show y.2 0 4 = 0; rw [mq4 y2]; exact h4)
      | true =>
        rw [hbn, if_pos rfl] at y1
        rw [if_neg (show ¬ bI true = 0 by decide)]
        obtain ⟨z, hz, z1, z2⟩ := C_countChanged hF (T.fr x2 ME.rfl) (N.fr (by decide) x2 ME.rfl) (d := d) (by rw [CE_nD x2]; exact hd) t
        have hcn : ∀ n, n ≤ nS σ d → cnN (chS F x.2 d t) n = cnN (chS F σ d t) n := by
          intro n
          induction n with
          | zero => intro _; rfl
          | succ n ih =>
            intro hn'
            rw [cnN, cnN, ih (by omega)]
            unfold chS
            rw [c1S_fr hF T N x2 hd (by omega) (by decide), c1S_fr hF T N x2 hd (by omega) (by decide)]
        rw [CE_nS x2, hcn _ (Nat.le_refl _)] at z1
        rw [hz]
        exact G2_ok R0 rfl rfl (z1.trans y1.symm) (x2.trans z2) y2.me (by show y.2 0 4 = 0; rw [mq4 y2]; exact h4)
    · rw [if_neg h2, if_neg (show ¬ (1 ≤ t ∧ t ≤ 4) by grind), if_pos rfl, hJ, M_fail]
      exact G2_no2 R0 rfl rfl CE.rfl ME4 up4
  · rw [if_neg hv, if_neg hv, if_neg (by decide), if_pos rfl, M_fail]
    exact G2_no R0 rfl rfl CE.rfl ME4 up4
end
