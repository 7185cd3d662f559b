set_option linter.unusedVariables false
set_option linter.unusedSimpArgs false
set_option maxRecDepth 16384
/-! a game of two -/
def gI (h : Nat → Bool) (m : Nat) : Int32 := 3 * qN m - (if h m then 20 else 0)
def mxS (h : Nat → Bool) : Nat → Int32
  | 0 => gI h 0
  | n + 1 => if mxS h n < gI h (n + 1) then gI h (n + 1) else mxS h n
theorem mx_ge (h : Nat → Bool) : ∀ {n k : Nat}, k ≤ n → gI h k ≤ mxS h n := by
  intro n
  induction n with
  | zero => intro k hk; have : k = 0 := by omega
            subst this; exact Int32.le_refl _
  | succ n ih =>
    intro k hk
    rw [mxS]
    by_cases hkn : k = n + 1
    · subst hkn
      split
      · exact Int32.le_refl _
      · next h1 => grind
    · have := ih (k := k) (by omega)
      split
      · next h1 => grind
      · exact this
theorem mx_ex (h : Nat → Bool) : ∀ n : Nat, ∃ k, k ≤ n ∧ mxS h n = gI h k := by
  intro n
  induction n with
  | zero => exact ⟨0, by omega, rfl⟩
  | succ n ih =>
    rw [mxS]
    split
    · exact ⟨n + 1, by omega, rfl⟩
    · obtain ⟨k, hk, e⟩ := ih
      exact ⟨k, by omega, e⟩
theorem mx_iff (h : Nat → Bool) {a : Nat} (ha : a < 10) : (gI h a = mxS h 9) ↔ ∀ k, k < 10 → gI h k ≤ gI h a := by
  constructor
  · intro e k hk; rw [e]; exact mx_ge h (by omega)
  · intro hk
    obtain ⟨k, hk9, e⟩ := mx_ex h 9
    have h1 := hk k (by omega)
    have h2 := mx_ge h (n := 9) (k := a) (by omega)
    rw [e] at h2 ⊢
    grind
theorem gI_rg (h : Nat → Bool) {m : Nat} (hm : m < 10) : -20 ≤ gI h m ∧ gI h m ≤ 27 := by
  have := q09 hm
  unfold gI
  split <;> grind
def rsB (h0 h1 : Nat → Bool) (t : Nat) : Bool := decide (gI h0 (t / 10) = mxS h0 9) && decide (gI h1 (t % 10) = mxS h1 9)
def gdB (h0 h1 : Nat → Bool) (a b k : Nat) : Bool := decide (gI h0 k ≤ gI h0 a) && decide (gI h1 k ≤ gI h1 b)
theorem allN_iff {f : Nat → Bool} {n : Nat} : allN f n = true ↔ ∀ k, k < n → f k = true := by
  constructor
  · intro h k hk
    cases hf : f k with
    | true => rfl
    | false => rw [allN_f hk hf] at h; cases h
  · exact allN_t
theorem rs_gd (h0 h1 : Nat → Bool) {a b : Nat} (ha : a < 10) (hb : b < 10) : allN (gdB h0 h1 a b) 10 = rsB h0 h1 (10 * a + b) := by
  unfold rsB
  rw [show (10 * a + b) / 10 = a by omega, show (10 * a + b) % 10 = b by omega]
  rw [Bool.eq_iff_iff, allN_iff]
  simp only [Bool.and_eq_true, decide_eq_true_eq, gdB]
  rw [mx_iff h0 ha, mx_iff h1 hb]
  constructor
  · intro h; exact ⟨fun k hk => (h k hk).1, fun k hk => (h k hk).2⟩
  · intro h k hk; exact ⟨h.1 k hk, h.2 k hk⟩
section
variable {F : Nat} {σ τ : St}
def hgS (F : Nat) (σ : St) (v a : Nat) (m : Nat) : Bool := hsS F σ (bnS σ 0) v a (qN m)
theorem C_gain {u : St} (hF : 800 ≤ F) (T : Told σ τ) (e : CE σ u) (hw : WtS F σ (bnS σ 0) u) {v a m : Nat} (hv : v < 6) (ha : a < 8) : fX6_gain F u (qN v) (qN a) (qN m) = some (gI (hgS F σ v a) m) := by
  unfold fX6_gain gI hgS
  rw [C_hasStamped hF T e hw hv ha, bd1_some]
  cases hsS F σ (bnS σ 0) v a (qN m) <;> rfl
theorem C_bestGain {u : St} (hF : 800 ≤ F) (T : Told σ τ) (e : CE σ u) (hw : WtS F σ (bnS σ 0) u) {v a : Nat} (hv : v < 6) (ha : a < 8) : fX6_bestGain F u (qN v) (qN a) = some (mxS (hgS F σ v a) 9) := by
  refine wpE fun Q hQ => ?_
  unfold fX6_bestGain
  refine wb1 (show fX6_gain F u (qN v) (qN a) 0 = some (gI (hgS F σ v a) 0) from C_gain (m := 0) hF T e hw hv ha) ?_
  refine lp_up Q (fun t (z : Int32 × Int32) => z.1 = qN (1 + t) ∧ z.2 = mxS (hgS F σ v a) t) 9 ?_ F 0 _ (by omega) (by omega) ⟨rfl, rfl⟩
  rintro t ⟨c, acc⟩ K ht ⟨hc, hacc⟩ hK
  dsimp only at hc hacc
  subst hc hacc
  dsimp only
  by_cases h9 : t = 9
  · subst h9
    rw [if_pos (by decide)]; exact hQ
  · rw [if_neg (by rw [show (9 : Int32) = qN 9 from rfl, q_lt (by omega) (by omega)]; omega)]
    refine wb1 (C_gain hF T e hw hv ha) (wn fun x6 e6 => hK _ (by omega) ⟨q_add _ 1, ?_⟩)
    show x6 = mxS _ (t + 1)
    rw [e6, mxS, Nat.add_comm 1 t]
theorem M_gain (hF : 800 ≤ F) (R : Rl σ τ) {w : St} (e : MqE τ w) {v a own : Nat} (hv : v < 6) (ha : a < 8) (other : Int32) :
    ∃ w', fX11_gain F w (qN (bsN (bnS σ 0) (nD σ))) (qN v) (qN a) (qN own) other = some (gI (hgS F σ v a) own + other, w') ∧ MqE τ w' := by
  unfold fX11_gain
  have Tw := R.2.1.fr CE.rfl e.me
  have Nw' := R.nw.fr (by decide) CE.rfl e.me
  rw [pl8', ck_ok (by omega) (by omega), q_clamp (by omega), e 19 rfl, (R.dn (k := 8 * v + a) (by omega)).1]
  obtain ⟨w', hw', fw'⟩ := M_hasStamped (F := F) hF Tw Nw' (bnS σ 0) hv ha (y := σ 34 (8 * v + a) + qN own) (x := qN own) (by rw [Nat.mul_comm v 8])
  rw [hw', bd2_some]
  refine ⟨w', ?_, e.trans (mq_of fw')⟩
  unfold gI hgS
  cases hsS F σ (bnS σ 0) v a (qN own) with
  | false =>
    show some (3 * qN own + other - 0, w') = some (3 * qN own - 0 + other, w')
    congr 2; grind
  | true =>
    show some (3 * qN own + other - 20, w') = some (3 * qN own - 20 + other, w')
    congr 2; grind
theorem C_play {u : St} (hF : 800 ≤ F) (T : Told σ τ) (e : CE σ u) (hw : WtS F σ (bnS σ 0) u) {v0 v1 a : Nat} (hv0 : v0 < 6) (hv1 : v1 < 6) (ha : a < 8) :
    ∃ z, fX6_play F u (qN v0) (qN v1) (qN a) = some z ∧ CE σ z ∧ z 81 4 = qN (cnN (rsB (hgS F σ v0 a) (hgS F σ v1 a)) 100) ∧ z 81 5 = nO (fT (rsB (hgS F σ v0 a) (hgS F σ v1 a)) 100) := by
  refine wpI fun Q hQ => ?_
  unfold fX6_play
  refine wb1 (C_bestGain hF T e hw hv0 ha) (wb1 (C_bestGain hF T e hw hv1 ha) (wn fun u4 e4 => wn fun u6 e6 => ?_))
  generalize hrb : rsB (hgS F σ v0 a) (hgS F σ v1 a) = rb at *
  have hE6 : CE σ u6 := by rw [e6, e4]; exact e.trans ((CE_up (.inl (by decide))).trans (CE_up (.inl (by decide))))
  refine lp_up Q (fun t (z : St × Int32) => CE σ z.1 ∧ z.1 83 = u 83 ∧ z.2 = qN t ∧ z.1 81 4 = qN (cnN rb t) ∧ z.1 81 5 = nO (fT rb t)) 100 ?_ F 0 _ (by omega) (by omega) ⟨hE6, by show u6 83 = _; rw [e6, up_ne _ _ _ (by decide), e4, up_ne _ _ _ (by decide)], rfl, by show u6 81 4 = _; rw [e6, up_same, upd_ne _ _ (by decide), e4, up_same, upd_same]; rfl, by show u6 81 5 = _; rw [e6, up_same, upd_same]; rfl⟩
  rintro t ⟨z, c⟩ K ht ⟨hz, h83, hc, g4, g5⟩ hK
  dsimp only at hz h83 hc g4 g5
  subst hc
  dsimp only
  by_cases h100 : t = 100
  · subst h100
    rw [if_pos (by decide)]; exact hQ _ ⟨hz, g4, g5⟩
  · have ht' : t < 100 := by omega
    rw [if_neg (by rw [show (100 : Int32) = qN 100 from rfl, q_le (by omega) (by omega)]; omega)]
    have hwz : WtS F σ (bnS σ 0) z := fun d s a' hd hs ha' => by rw [h83]; exact hw d s a' hd hs ha'
    have hdv : qN t / 10 = qN (t / 10) := by rw [show (10 : Int32) = qN 10 from rfl, q_div (by omega) (by omega) (by omega)]
    have hmd : qN t - qN t / 10 * 10 = qN (t % 10) := by
      rw [hdv, show (10 : Int32) = qN 10 from rfl, q_mul, q_sub (by omega), show t - t / 10 * 10 = t % 10 by omega]
    have hbt : rb t = (decide (gI (hgS F σ v0 a) (t / 10) = mxS (hgS F σ v0 a) 9) && decide (gI (hgS F σ v1 a) (t % 10) = mxS (hgS F σ v1 a) 9)) := by rw [← hrb]; rfl
    have hskip : rb t = false → Q (K (z, qN t + 1)) := by
      intro hh
      obtain ⟨s1, s2⟩ := fT_skip rb t 1 (fun t' a b => by rw [show t' = t by omega]; exact hh)
      exact hK _ ht' ⟨hz, h83, q_add t 1, by show z 81 4 = _; rw [g4, s2], by show z 81 5 = _; rw [g5, s1]⟩
    rw [hdv]
    refine wb1 (C_gain hF T hz hwz hv0 ha) ?_
    refine wi (fun c1 => ?_) fun c1 => ?_
    · rw [← hdv, hmd]
      refine wb1 (C_gain hF T hz hwz hv1 ha) ?_
      refine wi (fun c2 => ?_) fun c2 => ?_
      · have hb : rb t = true := by rw [hbt, decide_eq_true c1, decide_eq_true c2]; rfl
        refine wn fun u13 e13 => ?_
        have hE13 : CE σ u13 := by rw [e13]; exact hz.trans (CE_up (.inl (by decide)))
        have h1383 : u13 83 = u 83 := by rw [e13, up_ne _ _ _ (by decide), h83]
        have h134 : u13 81 4 = qN (cnN rb (t + 1)) := by rw [e13, up_same, upd_same, g4, cnN, hb]; exact q_add _ 1
        have h135 : u13 81 5 = nO (fT rb t) := by rw [e13, up_same, upd_ne _ _ (by decide), g5]
        cases hft : fT rb t with
        | none =>
          rw [hft] at h135
          refine wiT h135 (wn fun u17 e17 => hK _ ht' ⟨?_, ?_, q_add t 1, ?_, ?_⟩)
          · show CE σ u17; rw [e17]; exact hE13.trans (CE_up (.inl (by decide)))
          · show u17 83 = _; rw [e17, up_ne _ _ _ (by decide), h1383]
          · show u17 81 4 = _; rw [e17, up_same, upd_ne _ _ (by decide), h134]
          · show u17 81 5 = _; rw [e17, up_same, upd_same, fT_s, hft, hb]; rfl
        | some x =>
          have := fT_lt hft
          rw [hft] at h135
          refine wiF (by rw [h135, nO_m1 (fun y hy => by injection hy with hy; omega)]; intro h; cases h) (wn fun u17 e17 => hK _ ht' ⟨?_, ?_, q_add t 1, ?_, ?_⟩)
          · show CE σ u17; rw [e17]; exact hE13.trans (CE_up (.inl (by decide)))
          · show u17 83 = _; rw [e17, up_ne _ _ _ (by decide), h1383]
          · show u17 81 4 = _; rw [e17, up_same, upd_ne _ _ (by decide), h134]
          · show u17 81 5 = _; rw [e17, up_same, upd_same, h135, fT_s, hft]
      · exact hskip (by rw [hbt, decide_eq_false c2, Bool.and_false])
    · exact hskip (by rw [hbt, decide_eq_false c1, Bool.false_and])
theorem sm_game (hF : 800 ≤ F) : Sm_game F Rl := by
  intro σ τ a b c w R
  show G2 _ _
  unfold fX10_game fX11_game
  refine wnG2 fun τ0 h0 => ?_
  have R0 : Rl σ τ0 := by rw [h0]; exact R.fr CE.rfl ME4
  have h4 : τ0 0 4 = 0 := by rw [h0]; exact up4
  clear h0
  have T := R0.2.1
  rw [C_chkV, M_isValley T, C_chkV, M_isValley T, C_chkB, C_chkB, M_isAbout]
  simp only [jn, bd1_some]
  have hno : G2 (some (1, 0, σ)) (bd2 (fX11_fail F τ0 1) fun r7 u8 => some (r7, u8)) := by
    rw [M_fail]; exact G2_no R0 rfl rfl CE.rfl ME4 up4
  by_cases hv : 0 ≤ a ∧ a < σ 2 0
  · rw [if_pos hv, if_pos hv, if_pos rfl, if_neg i10n]
    by_cases hv2 : 0 ≤ b ∧ b < σ 2 0
    · rw [if_pos hv2, if_pos hv2, if_pos rfl, if_neg i10n]
      by_cases hc : 0 ≤ c ∧ c < 8
      · rw [if_pos hc, if_pos hc, if_pos rfl, if_neg i10n]
        by_cases hw : 0 ≤ w ∧ w < 2
        · rw [if_pos hw, if_pos rfl, if_neg (show ¬ w < 0 by grind), if_pos (show w ≤ 1 by grind)]
          by_cases hab : a = b
          · rw [if_pos hab, if_pos hab, M_fail]; exact G2_no2 R0 rfl rfl CE.rfl ME4 up4
          · rw [if_neg hab, if_neg hab]
            obtain ⟨v0, rfl, hv0⟩ := get_v T hv
            obtain ⟨v1, rfl, hv1⟩ := get_v T hv2
            obtain ⟨k, rfl, hk8⟩ := get_n (n := 8) hc (by decide)
            have hv6 := T.2.1
            obtain ⟨u, z, hu, hz, zE, zW, uE⟩ := C_weighed hF R0
            obtain ⟨m, hm, mE⟩ := M_bits hF R0
            obtain ⟨p, hp, pE, p4, p5⟩ := C_play (F := F) hF T zE zW (v0 := v0) (v1 := v1) (by omega) (by omega) hk8
            rw [hu, bd2_some, hz, bd1_some, hp, bd1_some, p4, p5, hm, bd2_some]
            generalize hrb : rsB (hgS F σ v0 k) (hgS F σ v1 k) = rb at *
            have hmm := wpI (e := lp (fun (K14 : (St × Int32 × Int32 × Int32) → Option (Int32 × St)) (v13 : St × Int32 × Int32 × Int32) => if (10 : Int32) ≤ v13.2.1 then (if w = 0 then (some (v13.2.2.2, v13.1)) else some (v13.2.2.1, v13.1)) else lp (fun (K17 : (St × Int32 × Int32 × Int32) → Option (Int32 × St)) (v16 : St × Int32 × Int32 × Int32) => if (10 : Int32) ≤ v16.2.1 then (K14 ((v16.1, v13.2.1 + 1, v16.2.2.1, v16.2.2.2))) else lp (fun (K20 : (St × Int32 × Int32) → Option (Int32 × St)) (v19 : St × Int32 × Int32) => jn (fun v22 : Unit => if v19.2.2 = 0 then (K17 ((v19.1, v16.2.1 + 1, v16.2.2.1, v16.2.2.2))) else if v16.2.2.1 = (-1 : Int32) then (nm ((10 * v13.2.1) + v16.2.1) fun x25 => K17 ((v19.1, v16.2.1 + 1, x25, v16.2.2.2 + 1))) else K17 ((v19.1, v16.2.1 + 1, v16.2.2.1, v16.2.2.2 + 1))) fun J23 => if (10 : Int32) ≤ v19.2.1 then (J23 (())) else if v19.2.2 = 0 then (J23 (())) else bd2 (fX11_gain F v19.1 (qN (bsN (bnS σ 0) (nD σ))) (qN v0) (qN k) v19.2.1 v16.2.1) fun r26 u27 => bd2 (fX11_gain F u27 (qN (bsN (bnS σ 0) (nD σ))) (qN v0) (qN k) v13.2.1 v16.2.1) fun r28 u29 => if r28 < r26 then (K20 ((u29, v19.2.1 + 1, 0))) else bd2 (fX11_gain F u29 (qN (bsN (bnS σ 0) (nD σ))) (qN v1) (qN k) v19.2.1 v13.2.1) fun r30 u31 => bd2 (fX11_gain F u31 (qN (bsN (bnS σ 0) (nD σ))) (qN v1) (qN k) v16.2.1 v13.2.1) fun r32 u33 => if r32 < r30 then (K20 ((u33, v19.2.1 + 1, 0))) else K20 ((u33, v19.2.1 + 1, 1))) F ((v16.1, 0, 1))) F ((v13.1, 0, v13.2.2.1, v13.2.2.2))) F ((m, 0, (-1), 0))) (P := fun x => x.1 = (if w = 0 then qN (cnN rb 100) else nO (fT rb 100)) ∧ MqE τ0 x.2) ?_
            · obtain ⟨y, hy, y1, yE⟩ := hmm
              simp only [jn] at hy
              rw [hy]
              have h4y : y.2 0 4 = 0 := by rw [mq4 yE]; exact h4
              by_cases w0 : w = 0
              · rw [if_pos w0] at y1 ⊢; exact G2_ok R0 rfl rfl y1.symm pE yE.me h4y
              · rw [if_neg w0] at y1 ⊢; exact G2_ok R0 rfl rfl y1.symm pE yE.me h4y
            · intro Q hQ
              refine lp_up Q (fun i (v : St × Int32 × Int32 × Int32) => MqE τ0 v.1 ∧ v.2.1 = qN i ∧ v.2.2.1 = nO (fT rb (10 * i)) ∧ v.2.2.2 = qN (cnN rb (10 * i))) 10 ?_ F 0 _ (by omega) (by omega) ⟨mE.mq, rfl, rfl, rfl⟩
              rintro i ⟨v, c, f, mm⟩ K hi ⟨hE, hc', hf, hmm⟩ hK
              dsimp only at hE hc' hf hmm
              subst hc' hf hmm
              dsimp only
              by_cases h10 : i = 10
              · subst h10
                refine wiT (by decide) ?_
                by_cases w0 : w = 0
                · refine wiT w0 (hQ _ ⟨?_, hE⟩); rw [if_pos w0]
                · refine wiF w0 (hQ _ ⟨?_, hE⟩); rw [if_neg w0]
              · have hi' : i < 10 := by omega
                refine wiF (by rw [show (10 : Int32) = qN 10 from rfl, q_le (by omega) (by omega)]; omega) ?_
                refine lp_up Q (fun j (v : St × Int32 × Int32 × Int32) => MqE τ0 v.1 ∧ v.2.1 = qN j ∧ v.2.2.1 = nO (fT rb (10 * i + j)) ∧ v.2.2.2 = qN (cnN rb (10 * i + j))) 10 ?_ F 0 _ (by omega) (by omega) ⟨hE, rfl, rfl, rfl⟩
                rintro j ⟨v2, c, f, mm⟩ K2 hj ⟨hE2, hc', hf, hmm⟩ hK2
                dsimp only at hE2 hc' hf hmm
                subst hc' hf hmm
                dsimp only
                by_cases hj10 : j = 10
                · subst hj10
                  refine wiT (by decide) (hK _ hi' ⟨hE2, q_add i 1, ?_, ?_⟩)
                  · show nO _ = _; rw [show 10 * (i + 1) = 10 * i + 10 by omega]
                  · show qN _ = _; rw [show 10 * (i + 1) = 10 * i + 10 by omega]
                · have hj' : j < 10 := by omega
                  refine wiF (by rw [show (10 : Int32) = qN 10 from rfl, q_le (by omega) (by omega)]; omega) ?_
                  have hgd := rs_gd (hgS F σ v0 k) (hgS F σ v1 k) hi' hj'
                  rw [hrb] at hgd
                  refine lp_up Q (fun q (v : St × Int32 × Int32) => MqE τ0 v.1 ∧ v.2.1 = qN q ∧ v.2.2 = bI (allN (gdB (hgS F σ v0 k) (hgS F σ v1 k) i j) q)) 10 ?_ F 0 _ (by omega) (by omega) ⟨hE2, rfl, rfl⟩
                  rintro q ⟨v3, c, f⟩ K3 hq ⟨hE3, hc', hf⟩ hK3
                  dsimp only at hE3 hc' hf
                  subst hc' hf
                  dsimp only
                  refine wj fun J hJ => ?_
                  have hJQ : allN (gdB (hgS F σ v0 k) (hgS F σ v1 k) i j) q = rb (10 * i + j) → Q (J ()) := by
                    intro he
                    rw [hJ, he]
                    cases hb : rb (10 * i + j) with
                    | false =>
                      rw [if_pos (show bI false = 0 from rfl)]
                      obtain ⟨s1, s2⟩ := fT_skip rb (10 * i + j) 1 (fun t' a b => by rw [show t' = 10 * i + j by omega]; exact hb)
                      exact hK2 _ hj' ⟨hE3, q_add j 1, congrArg nO s1.symm, congrArg qN s2.symm⟩
                    | true =>
                      rw [if_neg (show ¬ bI true = 0 by decide)]
                      have hcnt : qN (cnN rb (10 * i + j)) + 1 = qN (cnN rb (10 * i + (j + 1))) := by
                        rw [show 10 * i + (j + 1) = (10 * i + j) + 1 by omega, cnN, hb]; exact q_add _ 1
                      cases hft : fT rb (10 * i + j) with
                      | none =>
                        rw [if_pos (show nO none = -1 from rfl)]
                        refine wn fun x24 e24 => hK2 _ hj' ⟨hE3, q_add j 1, ?_, hcnt⟩
                        show x24 = _
                        rw [e24, pl_m, show 10 * i + (j + 1) = (10 * i + j) + 1 by omega, fT_s, hft, hb]; rfl
                      | some x =>
                        have := fT_lt hft
                        rw [if_neg (by rw [nO_m1 (fun y hy => by injection hy with hy; omega)]; intro h; cases h)]
                        refine hK2 _ hj' ⟨hE3, q_add j 1, ?_, hcnt⟩
                        show nO (some x) = _
                        rw [show 10 * i + (j + 1) = (10 * i + j) + 1 by omega, fT_s, hft]
                  by_cases hq10 : q = 10
                  · subst hq10
                    refine wiT (by decide) (hJQ hgd)
                  · have hq' : q < 10 := by omega
                    refine wiF (by rw [show (10 : Int32) = qN 10 from rfl, q_le (by omega) (by omega)]; omega) ?_
                    cases hal : allN (gdB (hgS F σ v0 k) (hgS F σ v1 k) i j) q with
                    | false =>
                      refine wiT (show bI false = 0 from rfl) (hJQ ?_)
                      rw [hal, ← hgd]
                      cases hfull : allN (gdB (hgS F σ v0 k) (hgS F σ v1 k) i j) 10 with
                      | false => rfl
                      | true =>
                        exfalso
                        have := allN_t (f := gdB (hgS F σ v0 k) (hgS F σ v1 k) i j) (n := q) (fun t ht => (allN_iff.1 hfull) t (by omega))
                        rw [hal] at this; cases this
                    | true =>
                      refine wiF (show ¬ bI true = 0 by decide) ?_
                      obtain ⟨w1, hw1, e1⟩ := M_gain hF R0 hE3 (v := v0) (a := k) (own := q) (by omega) hk8 (qN j)
                      refine wb2 hw1 ?_
                      obtain ⟨w2, hw2, e2⟩ := M_gain hF R0 e1 (v := v0) (a := k) (own := i) (by omega) hk8 (qN j)
                      refine wb2 hw2 ?_
                      have r1 := gI_rg (hgS F σ v0 k) hq'
                      have r2 := gI_rg (hgS F σ v0 k) hi'
                      have r3 := gI_rg (hgS F σ v1 k) hq'
                      have r4 := gI_rg (hgS F σ v1 k) hj'
                      have qi := q09 hi'
                      have qj := q09 hj'
                      have hgq : gdB (hgS F σ v0 k) (hgS F σ v1 k) i j q = (decide (gI (hgS F σ v0 k) q ≤ gI (hgS F σ v0 k) i) && decide (gI (hgS F σ v1 k) q ≤ gI (hgS F σ v1 k) j)) := rfl
                      refine wi (fun c1 => ?_) fun c1 => ?_
                      · refine hK3 _ hq' ⟨e2, q_add q 1, ?_⟩
                        show (0 : Int32) = _
                        rw [allN, hgq, decide_eq_false (show ¬ gI (hgS F σ v0 k) q ≤ gI (hgS F σ v0 k) i by grind), Bool.false_and, Bool.and_false]; rfl
                      · obtain ⟨w3, hw3, e3⟩ := M_gain hF R0 e2 (v := v1) (a := k) (own := q) (by omega) hk8 (qN i)
                        refine wb2 hw3 ?_
                        obtain ⟨w4, hw4, e4⟩ := M_gain hF R0 e3 (v := v1) (a := k) (own := j) (by omega) hk8 (qN i)
                        refine wb2 hw4 ?_
                        refine wi (fun c2 => ?_) fun c2 => ?_
                        · refine hK3 _ hq' ⟨e4, q_add q 1, ?_⟩
                          show (0 : Int32) = _
                          rw [allN, hgq, decide_eq_false (show ¬ gI (hgS F σ v1 k) q ≤ gI (hgS F σ v1 k) j by grind), Bool.and_false, Bool.and_false]; rfl
                        · refine hK3 _ hq' ⟨e4, q_add q 1, ?_⟩
                          show (1 : Int32) = _
                          rw [allN, hal, hgq, decide_eq_true (show gI (hgS F σ v0 k) q ≤ gI (hgS F σ v0 k) i by grind), decide_eq_true (show gI (hgS F σ v1 k) q ≤ gI (hgS F σ v1 k) j by grind)]; rfl
        · rw [if_neg hw, if_neg (by decide)]
          by_cases w1 : w < 0
          · rw [if_pos w1]; exact hno
          · rw [if_neg w1, if_neg (show ¬ w ≤ 1 by grind)]; exact hno
      · rw [if_neg hc, if_neg hc, if_neg (by decide), if_pos rfl]; exact hno
    · rw [if_neg hv2, if_neg hv2, if_neg (by decide), if_pos rfl]; exact hno
  · rw [if_neg hv, if_neg hv, if_neg (by decide), if_pos rfl]; exact hno
end
