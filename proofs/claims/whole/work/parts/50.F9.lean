set_option linter.unusedVariables false
set_option linter.unusedSimpArgs false
set_option maxRecDepth 16384
/-! limp, game -/
def fT (b : Nat → Bool) (n : Nat) : Option Nat := fO (fun t => if b t then some t else none) n
theorem fT_lt {b : Nat → Bool} {n x : Nat} (h : fT b n = some x) : x < n := by
  obtain ⟨k, hk, e⟩ := fO_ex h
  split at e
  · injection e with e; omega
  · cases e
theorem fT_s (b : Nat → Bool) (n : Nat) : fT b (n + 1) = match fT b n with
    | some x => some x
    | none => if b n then some n else none := rfl
theorem fT_skip (b : Nat → Bool) (n : Nat) : ∀ m, (∀ t, n ≤ t → t < n + m → b t = false) → fT b (n + m) = fT b n ∧ cnN b (n + m) = cnN b n := by
  intro m
  induction m with
  | zero => intro _; exact ⟨rfl, rfl⟩
  | succ m ih =>
    intro h
    obtain ⟨h1, h2⟩ := ih (fun t a c => h t a (by omega))
    have hb := h (n + m) (by omega) (by omega)
    refine ⟨?_, ?_⟩
    · rw [show n + (m + 1) = (n + m) + 1 by omega, fT_s, h1, hb]
      cases fT b n <;> rfl
    · rw [show n + (m + 1) = (n + m) + 1 by omega, cnN, h2, hb]; rfl
section
variable {F d S : Nat} {fl k0 k1 : Int32} {kd wh ns : Nat → Int32}
def lbN (fl k0 k1 : Int32) (kd wh : Nat → Int32) (ns : Nat → Int32) (σ : St) (d n : Nat) (t : Nat) : Bool := cgK kd (t / 10) && (!decide (qN (t % 10) = ns (t / 10)) && allN (okK fl (sf fl k0 k1 kd wh (upd ns (t / 10) (qN (t % 10)))) σ d) n)
theorem lb_at {σ : St} {n i j : Nat} (hj : j < 10) : lbN fl k0 k1 kd wh ns σ d n (10 * i + j) = (cgK kd i && (!decide (qN j = ns i) && allN (okK fl (sf fl k0 k1 kd wh (upd ns i (qN j))) σ d) n)) := by
  unfold lbN
  rw [show (10 * i + j) / 10 = i by omega, show (10 * i + j) % 10 = j by omega]
theorem okK_fr {fl : Int32} {f : Nat → Po → Option Po} {σ u : St} {d k : Nat} (h : ∀ c, c < 66 → u c = σ c) : okK fl f u d k = okK fl f σ d k := by
  unfold okK; rw [h 36 (by decide), h 37 (by decide), h 38 (by decide), h 39 (by decide), h 40 (by decide)]
theorem SeC.fr {σ u : St} {n : Nat} (h : SeC σ d S n) (e : ∀ c, c < 66 → u c = σ c) : SeC u d S n := by
  unfold SeC; rw [e 36 (by decide), e 37 (by decide), e 38 (by decide)]; exact h
theorem C_seekOf (hF : 20 ≤ F) (hB : PB S k0 k1 kd wh ns) {σ u : St} (hCP : CP σ d S fl k0 k1 kd wh ns) (hu : HE σ u) (hu7 : ∀ j, j < S → u 71 j = ns j) {n : Nat} (hn : σ 30 2 = qN n) (hC : SeC σ d S n) {i : Nat} (hi : i < S) (hcg : cgK kd i = true)
    (h4 : u 72 4 = qN (cnN (lbN fl k0 k1 kd wh ns σ d n) (10 * i))) (h5 : u 72 5 = nO (fT (lbN fl k0 k1 kd wh ns σ d n) (10 * i))) :
    ∃ w, fX5_seekLimpOf F u (qN i) = some w ∧ HE σ w ∧ (∀ j, j < S → w 71 j = ns j) ∧ w 72 4 = qN (cnN (lbN fl k0 k1 kd wh ns σ d n) (10 * i + 10)) ∧ w 72 5 = nO (fT (lbN fl k0 k1 kd wh ns σ d n) (10 * i + 10)) := by
  have hS := hB.1
  have hn8 := hC.1
  refine wpI fun Q hQ => ?_
  unfold fX5_seekLimpOf
  refine wk (k := i) rfl (by omega) (by omega) (wn fun x1 e1 => ?_)
  rw [q_clamp (by omega), hu7 i hi] at e1
  subst e1
  refine lp_up Q (fun j (v : St × Int32) => HE σ v.1 ∧ (∀ k, k < S → k ≠ i → v.1 71 k = ns k) ∧ v.2 = qN j ∧ v.1 72 4 = qN (cnN (lbN fl k0 k1 kd wh ns σ d n) (10 * i + j)) ∧ v.1 72 5 = nO (fT (lbN fl k0 k1 kd wh ns σ d n) (10 * i + j))) 10 ?_ F 0 _ (by omega) (by omega) ⟨hu, fun k hk _ => hu7 k hk, rfl, h4, h5⟩
  rintro j ⟨v, c⟩ K hj ⟨hE, h71, hc, g4, g5⟩ hK
  dsimp only at hE h71 hc g4 g5
  subst hc
  dsimp only
  by_cases h10 : j = 10
  · subst h10
    rw [if_pos (by decide)]
    refine wk (k := i) rfl (by omega) (by omega) (wn fun u5 e5 => hQ _ ⟨?_, fun k hk => ?_, ?_, ?_⟩)
    · rw [e5]; exact hE.trans (HE_up (by decide))
    · rw [e5, q_clamp (by omega), up_same]
      by_cases hki : k = i
      · subst hki; rw [upd_same]
      · rw [upd_ne _ _ hki]; exact h71 k hk hki
    · rw [e5, up_ne _ _ _ (by decide)]; exact g4
    · rw [e5, up_ne _ _ _ (by decide)]; exact g5
  · have hj' : j < 10 := by omega
    rw [if_neg (by rw [show (9 : Int32) = qN 9 from rfl, q_lt (by omega) (by omega)]; omega)]
    refine wk (k := i) rfl (by omega) (by omega) (wn fun u6 e6 => ?_)
    rw [q_clamp (by omega)] at e6
    have hE6 : HE σ u6 := by rw [e6]; exact hE.trans (HE_up (by decide))
    have h67 : ∀ k, k < S → u6 71 k = upd ns i (qN j) k := fun k hk => by
      rw [e6, up_same]
      by_cases hki : k = i
      · subst hki; rw [upd_same, upd_same]
      · rw [upd_ne _ _ hki, upd_ne _ _ hki]; exact h71 k hk hki
    have g46 : u6 72 = v 72 := by rw [e6, up_ne _ _ _ (by decide)]
    have hlb := lb_at (fl := fl) (k0 := k0) (k1 := k1) (kd := kd) (wh := wh) (ns := ns) (d := d) (σ := σ) (n := n) (i := i) hj'
    rw [hcg, Bool.true_and] at hlb
    have hskip : lbN fl k0 k1 kd wh ns σ d n (10 * i + j) = false → ∀ w : St, HE σ w → (∀ k, k < S → k ≠ i → w 71 k = ns k) → w 72 = v 72 → Q (K (w, qN j + 1)) := by
      intro hh w hw hw7 hw72
      obtain ⟨s1, s2⟩ := fT_skip (lbN fl k0 k1 kd wh ns σ d n) (10 * i + j) 1 (fun t a b => by rw [show t = 10 * i + j by omega]; exact hh)
      refine hK _ hj' ⟨hw, hw7, q_add j 1, ?_, ?_⟩
      · show w 72 4 = _; rw [hw72, g4]; congr 1; exact s2.symm
      · show w 72 5 = _; rw [hw72, g5]; congr 1; exact s1.symm
    refine wi (fun hjn => ?_) fun hjn => ?_
    · exact hskip (by rw [hlb, decide_eq_true hjn]; rfl) u6 hE6 (fun k hk hki => by rw [h67 k hk, upd_ne _ _ hki]) g46
    · rw [decide_eq_false hjn, Bool.not_false, Bool.true_and] at hlb
      obtain ⟨y, hy, yE⟩ := C_isAsSeen hF (hB.upd (i := i) (q09 (n := j) hj')) (hCP.he hE6 h67) (n := n) (by rw [hE6.1 30 (by decide)]; exact hn) (hC.fr hE6.1)
      refine wb2 hy ?_
      have hall : allN (okK fl (sf fl k0 k1 kd wh (upd ns i (qN j))) u6 d) n = lbN fl k0 k1 kd wh ns σ d n (10 * i + j) := by
        rw [hlb]; exact allN_cg n (fun k _ => okK_fr hE6.1)
      rw [hall]
      have hEy := hE6.trans yE.he
      have hy7 : ∀ k, k < S → k ≠ i → y 71 k = ns k := fun k hk hki => by rw [yE 71 (by decide) (by decide) (by decide), h67 k hk, upd_ne _ _ hki]
      have hy72 : y 72 = v 72 := by rw [yE 72 (by decide) (by decide) (by decide), g46]
      cases hb : lbN fl k0 k1 kd wh ns σ d n (10 * i + j) with
      | false =>
        rw [if_pos (show bI false = 0 from rfl)]
        exact hskip hb y hEy hy7 hy72
      | true =>
        rw [if_neg (show ¬ bI true = 0 by decide)]
        refine wn fun u10 e10 => ?_
        have h105 : u10 72 5 = nO (fT (lbN fl k0 k1 kd wh ns σ d n) (10 * i + j)) := by rw [e10, up_same, upd_ne _ _ (by decide), hy72, g5]
        have h104 : u10 72 4 = qN (cnN (lbN fl k0 k1 kd wh ns σ d n) (10 * i + (j + 1))) := by
          rw [e10, up_same, upd_same, hy72, g4, show 10 * i + (j + 1) = (10 * i + j) + 1 by omega, cnN, hb]; exact q_add _ 1
        have hE10 : HE σ u10 := by rw [e10]; exact hEy.trans (HE_up (by decide))
        have h107 : ∀ k, k < S → k ≠ i → u10 71 k = ns k := fun k hk hki => by rw [e10, up_ne _ _ _ (by decide)]; exact hy7 k hk hki
        have hlt := fun x (h : fT (lbN fl k0 k1 kd wh ns σ d n) (10 * i + j) = some x) => fT_lt h
        cases hft : fT (lbN fl k0 k1 kd wh ns σ d n) (10 * i + j) with
        | none =>
          rw [hft] at h105
          refine wiT h105 (wn fun u14 e14 => hK _ hj' ⟨?_, fun k hk hki => ?_, q_add j 1, ?_, ?_⟩)
          · show HE σ u14; rw [e14]; exact hE10.trans (HE_up (by decide))
          · show u14 71 k = _; rw [e14, up_ne _ _ _ (by decide)]; exact h107 k hk hki
          · show u14 72 4 = _; rw [e14, up_same, upd_ne _ _ (by decide)]; exact h104
          · show u14 72 5 = _
            rw [e14, up_same, upd_same, pl_m, show 10 * i + (j + 1) = (10 * i + j) + 1 by omega, fT_s, hft, hb]; rfl
        | some x =>
          have := hlt x hft
          rw [hft] at h105
          refine wiF (by rw [h105, nO_m1 (fun y hy => by injection hy with hy; omega)]; intro h; cases h) (wn fun u14 e14 => hK _ hj' ⟨?_, fun k hk hki => ?_, q_add j 1, ?_, ?_⟩)
          · show HE σ u14; rw [e14]; exact hE10.trans (HE_up (by decide))
          · show u14 71 k = _; rw [e14, up_ne _ _ _ (by decide)]; exact h107 k hk hki
          · show u14 72 4 = _; rw [e14, up_same, upd_ne _ _ (by decide)]; exact h104
          · show u14 72 5 = _
            rw [e14, up_same, upd_same, h105, show 10 * i + (j + 1) = (10 * i + j) + 1 by omega, fT_s, hft]
theorem C_seekLimp (hF : 20 ≤ F) (hB : PB S k0 k1 kd wh ns) {σ : St} (hCP : CP σ d S fl k0 k1 kd wh ns) {n : Nat} (hn : σ 30 2 = qN n) (hC : SeC σ d S n) :
    ∃ w, fX5_seekLimp F σ = some w ∧ HE σ w ∧ w 72 4 = qN (cnN (lbN fl k0 k1 kd wh ns σ d n) (10 * S)) ∧ w 72 5 = nO (fT (lbN fl k0 k1 kd wh ns σ d n) (10 * S)) := by
  have hS := hB.1
  refine wpI fun Q hQ => ?_
  unfold fX5_seekLimp
  refine wn fun u2 e2 => wn fun u4 e4 => ?_
  have hE4 : HE σ u4 := by rw [e4, e2]; exact (HE_up (by decide)).trans (HE_up (by decide))
  refine lp_up Q (fun i (v : St × Int32) => HE σ v.1 ∧ (∀ k, k < S → v.1 71 k = ns k) ∧ v.2 = qN i ∧ v.1 72 4 = qN (cnN (lbN fl k0 k1 kd wh ns σ d n) (10 * i)) ∧ v.1 72 5 = nO (fT (lbN fl k0 k1 kd wh ns σ d n) (10 * i))) S ?_ F 0 _ (by omega) (by omega) ⟨hE4, fun k hk => by show u4 71 k = _; rw [e4, up_ne _ _ _ (by decide), e2, up_ne _ _ _ (by decide)]; exact (hCP.2.2.2.2.2.2 k hk).2.2, rfl, by show u4 72 4 = _; rw [e4, up_same, upd_ne _ _ (by decide), e2, up_same, upd_same]; rfl, by show u4 72 5 = _; rw [e4, up_same, upd_same]; rfl⟩
  rintro i ⟨v, c⟩ K hi ⟨hE, h71, hc, g4, g5⟩ hK
  dsimp only at hE h71 hc g4 g5
  subst hc
  dsimp only
  have hCv := hCP.he hE h71
  by_cases hiS : i = S
  · refine wiT (by rw [hCv.2.2.1, hiS]; exact Int32.le_refl _) ?_
    rw [hiS] at g4 g5
    exact hQ _ ⟨hE, g4, g5⟩
  · refine wiF (by rw [hCv.2.2.1, q_le (by omega) (by omega)]; omega) ?_
    refine wb1 (C_chg5 hCv hS (by omega)) ?_
    cases hcg : cgK kd i with
    | false =>
      rw [if_pos (show bI false = 0 from rfl)]
      obtain ⟨s1, s2⟩ := fT_skip (lbN fl k0 k1 kd wh ns σ d n) (10 * i) 10 (fun t a b => by
        have := lb_at (fl := fl) (k0 := k0) (k1 := k1) (kd := kd) (wh := wh) (ns := ns) (d := d) (σ := σ) (n := n) (i := i) (j := t - 10 * i) (by omega)
        rw [show 10 * i + (t - 10 * i) = t by omega, hcg, Bool.false_and] at this
        exact this)
      refine hK _ (by omega) ⟨hE, h71, q_add i 1, ?_, ?_⟩
      · show v 72 4 = _; rw [g4, show 10 * (i + 1) = 10 * i + 10 by omega, s2]
      · show v 72 5 = _; rw [g5, show 10 * (i + 1) = 10 * i + 10 by omega, s1]
    | true =>
      rw [if_neg (show ¬ bI true = 0 by decide)]
      obtain ⟨w, hw, w1, w2, w3, w4⟩ := C_seekOf hF hB hCP hE h71 hn hC (i := i) (by omega) hcg g4 g5
      exact wb1 hw (hK _ (by omega) ⟨w1, w2, q_add i 1, by rw [show 10 * (i + 1) = 10 * i + 10 by omega]; exact w3, by rw [show 10 * (i + 1) = 10 * i + 10 by omega]; exact w4⟩)
end
section
variable {F : Nat}
theorem Rl.se {σ τ : St} (R : Rl σ τ) : ∃ n, σ 30 2 = qN n ∧ n ≤ 8 ∧ SeM σ τ n ∧ ∀ d, d < nD σ → SeC σ d (nS σ d) n := by
  obtain ⟨n, hn8, k1, k2, hs⟩ := R.2.2.1.2.2.1
  have hD := R.2.1.2.2.2.2.1
  refine ⟨n, k1, hn8, ⟨k2, fun k hk => ?_⟩, fun d hd => ⟨hn8, fun k hk => ?_⟩⟩
  · obtain ⟨s1, s2, s3, s4, s5, _⟩ := hs k hk
    exact ⟨s1, s2, s3, s4, s5⟩
  · obtain ⟨s1, s2, s3, s4, s5, ⟨e, i, he, heD, hi, hiS⟩, hw⟩ := hs k hk
    have := (R.2.1.dd heD)
    refine ⟨hw, i, hi, by omega, fun h => ?_⟩
    rw [he, q_eq (by omega) (by omega)] at h
    subst h; exact hiS
theorem sm_limp (hF : 800 ≤ F) : Sm_limp F Rl := by
  intro σ τ a w R
  show G1 1 _ _
  unfold fX10_limp fX11_limp
  refine wnG1 fun τ0 h0 => ?_
  have R0 : Rl σ τ0 := by rw [h0]; exact R.fr CE.rfl ME4
  have h4 : τ0 0 4 = 0 := by rw [h0]; exact up4
  clear h0
  have T := R0.2.1
  have N := R0.nw
  rw [C_chkD, M_isDance T, bd1_some, bd1_some]
  simp only [jn]
  have hno : G1 1 (some (1, 0, σ)) (bd2 (fX11_fail F τ0 1) fun r7 u8 => some (r7, u8)) := by
    rw [M_fail]; exact G1_no (by decide) R0 rfl rfl CE.rfl ME4 up4
  by_cases hv : 0 ≤ a ∧ a < σ 2 1
  · have hin := M_isIn (F := F) (τ := τ0) w 0 2
    rw [if_pos hv, if_pos hv, if_pos rfl, if_neg i10n, C_chkB, bd1_some, show (0 : Int64) = Int32.toInt64 0 from rfl, show (2 : Int64) = Int32.toInt64 2 from rfl, hin, bd1_some]
    by_cases hw : 0 ≤ w ∧ w < 3
    · rw [if_pos hw, if_pos rfl, if_pos (show 0 ≤ w ∧ w ≤ 2 by grind), if_neg i10n]
      obtain ⟨d, rfl, hd⟩ := get_d T hv
      have hB := PB_of T N hd (more := 0) (by decide)
      have hM := MP_of (F := F) T N hd R0.2.2.2.2.1
      have hS := hB.1
      have hd8 := hM.1
      obtain ⟨n, hn, hn8, hSM, hSC⟩ := R0.se
      obtain ⟨x, hx, xC, xE⟩ := C_prepare (F := F) (by omega) T hd (more := 0)
      have hxe : CE σ x := fun c h1 h2 => xE c (by omega) (by omega)
      have hx66 : ∀ c, c < 66 → x c = σ c := fun c hc => xE c (by omega) (by omega)
      have hnx : x 30 2 = qN n := by rw [hx66 30 (by decide)]; exact hn
      have hSCx := (hSC d hd).fr hx66
      rw [hx, bd1_some]
      by_cases w2 : w = 2
      · rw [if_pos w2, if_pos w2]
        obtain ⟨y, hy, yE⟩ := C_isAsSeen (F := F) (by omega) hB xC hnx hSCx
        obtain ⟨z, hz, zE⟩ := M_isAsSeen (F := F) (by omega) hB hM (hSC d hd) hSM
        rw [hy, hz, bd2_some, bd2_some]
        have hall : allN (okK (σ 2 2) (sf (σ 2 2) (kn0 30 31 σ 0 d) (kn1 30 31 σ 0 d) (kdF σ d) (whF σ d) (nsF 33 σ d)) x d) n = allN (okK (σ 2 2) (sf (σ 2 2) (kn0 30 31 σ 0 d) (kn1 30 31 σ 0 d) (kdF σ d) (whF σ d) (nsF 33 σ d)) σ d) n := allN_cg n (fun k _ => okK_fr hx66)
        rw [hall]
        have h4z : z 0 4 = 0 := by rw [mq4 zE.mq]; exact h4
        cases allN (okK (σ 2 2) (sf (σ 2 2) (kn0 30 31 σ 0 d) (kn1 30 31 σ 0 d) (kdF σ d) (whF σ d) (nsF 33 σ d)) σ d) n with
        | false => rw [if_pos (show bI false = 0 from rfl), if_pos (show bI false = 0 from rfl)]; exact G1_ok R0 rfl rfl rfl (hxe.trans yE.ce) zE.me h4z
        | true => rw [if_neg (show ¬ bI true = 0 by decide), if_neg (show ¬ bI true = 0 by decide)]; exact G1_ok R0 rfl rfl rfl (hxe.trans yE.ce) zE.me h4z
      · rw [if_neg w2, if_neg w2]
        obtain ⟨y, hy, yE, y4, y5⟩ := C_seekLimp (F := F) (by omega) hB xC hnx hSCx
        rw [hy, bd1_some, y4, y5]
        generalize hlg : lbN (σ 2 2) (kn0 30 31 σ 0 d) (kn1 30 31 σ 0 d) (kdF σ d) (whF σ d) (nsF 33 σ d) x d n = lb at *
        have hlb : ∀ i j, j < 10 → lb (10 * i + j) = (cgK (kdF σ d) i && (!decide (qN j = nsF 33 σ d i) && allN (okK (σ 2 2) (sf (σ 2 2) (kn0 30 31 σ 0 d) (kn1 30 31 σ 0 d) (kdF σ d) (whF σ d) (upd (nsF 33 σ d) i (qN j))) σ d) n)) := by
          intro i j hj
          rw [← hlg, lb_at hj]
          congr 2
          exact allN_cg n (fun k _ => okK_fr hx66)
        have hm := wpI (e := lp (fun (K11 : (St × Int32 × Int32 × Int32) → Option (Int32 × St)) (v10 : St × Int32 × Int32 × Int32) => ckI (qN d) 16 (if (v10.1 10 (Int32.toNatClampNeg (qN d))) ≤ v10.2.1 then (if w = 0 then (some (v10.2.2.2, v10.1)) else some (v10.2.2.1, v10.1)) else nm ((10 * (qN d)) + v10.2.1) fun x13 => ckI (x13) 160 (nm (v10.1 13 (Int32.toNatClampNeg x13)) fun x14 => lp (fun (K16 : (St × Int32 × Int32 × Int32) → Option (Int32 × St)) (v15 : St × Int32 × Int32 × Int32) => if (10 : Int32) ≤ v15.2.1 then (ckI (x13) 160 (nm (up v15.1 13 (Int32.toNatClampNeg x13) x14) fun u18 => K11 ((u18, v10.2.1 + 1, v15.2.2.1, v15.2.2.2)))) else bd1 (fX11_isLimp F v15.1 (qN d) v10.2.1) fun r19 => if r19 = 0 then (ckI (x13) 160 (nm (up v15.1 13 (Int32.toNatClampNeg x13) x14) fun u20 => K11 ((u20, v10.2.1 + 1, v15.2.2.1, v15.2.2.2)))) else ckI (x13) 160 (nm (up v15.1 13 (Int32.toNatClampNeg x13) v15.2.1) fun u21 => if v15.2.1 = x14 then (K16 ((u21, v15.2.1 + 1, v15.2.2.1, v15.2.2.2))) else bd2 (fX11_isAsSeen F u21 (qN d)) fun r22 u23 => if r22 = 0 then (K16 ((u23, v15.2.1 + 1, v15.2.2.1, v15.2.2.2))) else if v15.2.2.1 = (-1 : Int32) then (nm ((10 * v10.2.1) + v15.2.1) fun x24 => K16 ((u23, v15.2.1 + 1, x24, v15.2.2.2 + 1))) else K16 ((u23, v15.2.1 + 1, v15.2.2.1, v15.2.2.2 + 1)))) F ((v10.1, 0, v10.2.2.1, v10.2.2.2))))) F ((τ0, 0, (-1), 0))) (P := fun x => x.1 = (if w = 0 then qN (cnN lb (10 * nS σ d)) else nO (fT lb (10 * nS σ d))) ∧ ExM τ0 x.2) ?_
        · obtain ⟨z, hz, z1, zE⟩ := hm
          rw [hz]
          have h4z : z.2 0 4 = 0 := by rw [mq4 zE.mq]; exact h4
          by_cases w0 : w = 0
          · rw [if_pos w0] at z1 ⊢; exact G1_ok R0 rfl rfl z1.symm (hxe.trans yE.ce) zE.me h4z
          · rw [if_neg w0] at z1 ⊢; exact G1_ok R0 rfl rfl z1.symm (hxe.trans yE.ce) zE.me h4z
        · intro Q hQ
          refine lp_up Q (fun i (v : St × Int32 × Int32 × Int32) => ExM τ0 v.1 ∧ v.2.1 = qN i ∧ v.2.2.1 = nO (fT lb (10 * i)) ∧ v.2.2.2 = qN (cnN lb (10 * i))) (nS σ d) ?_ F 0 _ (by omega) (by omega) ⟨ExM.rfl, rfl, rfl, rfl⟩
          rintro i ⟨v, c, f, m⟩ K hi ⟨hE, hc, hf, hmm⟩ hK
          dsimp only at hE hc hf hmm
          subst hc hf hmm
          dsimp only
          have hMv := hM.ex hE
          refine wk (k := d) rfl (by omega) (by omega) ?_
          by_cases hiS : i = nS σ d
          · refine wiT (by rw [q_clamp (by omega), hMv.2.2.2.1, hiS]; exact Int32.le_refl _) ?_
            by_cases w0 : w = 0
            · refine wiT w0 (hQ _ ⟨?_, hE⟩); rw [if_pos w0, hiS]
            · refine wiF w0 (hQ _ ⟨?_, hE⟩); rw [if_neg w0, hiS]
          · have hi' : i < nS σ d := by omega
            refine wiF (by rw [q_clamp (by omega), hMv.2.2.2.1, q_le (by omega) (by omega)]; omega) ?_
            rw [pl_m]
            refine wn fun x13 e13 => ?_
            subst e13
            refine wk (k := 10 * d + i) rfl (by omega) (by omega) (wn fun x14 e14 => ?_)
            have hni : v 13 (10 * d + i) = nsF 33 σ d i := (hMv.2.2.2.2.2.2 i hi').2.2
            rw [q_clamp (by omega), hni] at e14
            subst e14
            refine lp_up Q (fun j (z : St × Int32 × Int32 × Int32) => (∀ c, c ≠ 21 → c ≠ 22 → c ≠ 23 → c ≠ 13 → z.1 c = τ0 c) ∧ (∀ k, k ≠ 10 * d + i → z.1 13 k = τ0 13 k) ∧ z.2.1 = qN j ∧ z.2.2.1 = nO (fT lb (10 * i + j)) ∧ z.2.2.2 = qN (cnN lb (10 * i + j)) ∧ (j = 0 ∨ cgK (kdF σ d) i = true)) 10 ?_ F 0 _ (by omega) (by omega) ⟨fun c c1 c2 c3 _ => hE c c1 c2 c3, fun k _ => by show v 13 k = _; rw [hE 13 (by decide) (by decide) (by decide)], rfl, rfl, rfl, .inl rfl⟩
            rintro j ⟨z, c, f, m⟩ K2 hj ⟨hz, hz13, hc, hf, hmm, hor⟩ hK2
            dsimp only at hz hz13 hc hf hmm
            subst hc hf hmm
            dsimp only
            have hni0 : τ0 13 (10 * d + i) = nsF 33 σ d i := by rw [← hE 13 (by decide) (by decide) (by decide)]; exact hni
            have hout : fT lb (10 * i + j) = fT lb (10 * i + 10) → cnN lb (10 * i + j) = cnN lb (10 * i + 10) → Q (ckI (qN (10 * d + i)) 160 (nm (up z 13 (Int32.toNatClampNeg (qN (10 * d + i))) (nsF 33 σ d i)) fun u18 => K ((u18, qN i + 1, nO (fT lb (10 * i + j)), qN (cnN lb (10 * i + j)))))) := by
              intro o1 o2
              refine wk (k := 10 * d + i) rfl (by omega) (by omega) (wn fun u18 e18 => hK _ hi' ⟨fun c c1 c2 c3 => ?_, q_add i 1, ?_, ?_⟩)
              · show u18 c = _
                rw [e18, q_clamp (by omega)]
                by_cases h13 : c = 13
                · subst h13
                  rw [up_same]; funext k
                  by_cases hk : k = 10 * d + i
                  · subst hk; rw [upd_same]; exact hni0.symm
                  · rw [upd_ne _ _ hk]; exact hz13 k hk
                · rw [up_ne _ _ _ h13]; exact hz c c1 c2 c3 h13
              · show nO _ = nO _; rw [o1, show 10 * (i + 1) = 10 * i + 10 by omega]
              · show qN _ = qN _; rw [o2, show 10 * (i + 1) = 10 * i + 10 by omega]
            by_cases h10 : j = 10
            · subst h10
              refine wiT (by decide) (hout rfl rfl)
            · have hj' : j < 10 := by omega
              refine wiF (by rw [show (10 : Int32) = qN 10 from rfl, q_le (by omega) (by omega)]; omega) ?_
              have hlim : fX11_isLimp F z (qN d) (qN i) = some (bI (cgK (kdF σ d) i)) := by
                rw [← M_chg (F := F) hM hS hi']
                unfold fX11_isLimp
                rw [hz 11 (by decide) (by decide) (by decide) (by decide)]
              refine wb1 hlim ?_
              have hbj := hlb i j hj'
              cases hcg : cgK (kdF σ d) i with
              | false =>
                rw [if_pos (show bI false = 0 from rfl)]
                have hj0 : j = 0 := hor.resolve_right (by rw [hcg]; decide)
                subst hj0
                obtain ⟨s1, s2⟩ := fT_skip lb (10 * i) 10 (fun t a b => by
                  have := hlb i (t - 10 * i) (by omega)
                  rw [show 10 * i + (t - 10 * i) = t by omega, hcg, Bool.false_and] at this
                  exact this)
                exact hout s1.symm s2.symm
              | true =>
                rw [hcg, Bool.true_and] at hbj
                rw [if_neg (show ¬ bI true = 0 by decide)]
                refine wk (k := 10 * d + i) rfl (by omega) (by omega) (wn fun u21 e21 => ?_)
                rw [q_clamp (by omega)] at e21
                have hE21 : ExM (up τ0 13 (10 * d + i) (qN j)) u21 := by
                  intro c c1 c2 c3
                  rw [e21]
                  by_cases h13 : c = 13
                  · subst h13
                    rw [up_same, up_same]; funext k
                    by_cases hk : k = 10 * d + i
                    · subst hk; rw [upd_same, upd_same]
                    · rw [upd_ne _ _ hk, upd_ne _ _ hk]; exact hz13 k hk
                  · rw [up_ne _ _ _ h13, up_ne _ _ _ h13]; exact hz c c1 c2 c3 h13
                have hfr : ∀ t : St, ExM (up τ0 13 (10 * d + i) (qN j)) t → (∀ c, c ≠ 21 → c ≠ 22 → c ≠ 23 → c ≠ 13 → t c = τ0 c) ∧ (∀ k, k ≠ 10 * d + i → t 13 k = τ0 13 k) := fun t ht => ⟨fun c c1 c2 c3 c4 => by rw [ht c c1 c2 c3, up_ne _ _ _ c4], fun k hk => by rw [ht 13 (by decide) (by decide) (by decide), up_same, upd_ne _ _ hk]⟩
                have hskip : lb (10 * i + j) = false → ∀ t : St, ExM (up τ0 13 (10 * d + i) (qN j)) t → Q (K2 (t, qN j + 1, nO (fT lb (10 * i + j)), qN (cnN lb (10 * i + j)))) := by
                  intro hh t ht
                  obtain ⟨s1, s2⟩ := fT_skip lb (10 * i + j) 1 (fun t a b => by rw [show t = 10 * i + j by omega]; exact hh)
                  exact hK2 _ hj' ⟨(hfr t ht).1, (hfr t ht).2, q_add j 1, congrArg nO s1.symm, congrArg qN s2.symm, .inr hcg⟩
                refine wi (fun hjn => ?_) fun hjn => ?_
                · exact hskip (by rw [hbj, decide_eq_true hjn]; rfl) u21 hE21
                · rw [decide_eq_false hjn, Bool.not_false, Bool.true_and] at hbj
                  have hM21 := (hM.set hS hi' (qN j)).ex hE21
                  have hSM21 : SeM σ u21 n := by
                    refine ⟨by rw [hE21 0 (by decide) (by decide) (by decide), up_ne _ _ _ (by decide)]; exact hSM.1, fun k hk => ?_⟩
                    rw [hE21 28 (by decide) (by decide) (by decide), hE21 29 (by decide) (by decide) (by decide), hE21 30 (by decide) (by decide) (by decide), hE21 31 (by decide) (by decide) (by decide), hE21 32 (by decide) (by decide) (by decide), up_ne _ _ _ (by decide), up_ne _ _ _ (by decide), up_ne _ _ _ (by decide), up_ne _ _ _ (by decide), up_ne _ _ _ (by decide)]
                    exact hSM.2 k hk
                  obtain ⟨t, ht, tE⟩ := M_isAsSeen (F := F) (by omega) (hB.upd (i := i) (q09 (n := j) hj')) hM21 (hSC d hd) hSM21
                  refine wb2 ht ?_
                  rw [← hbj]
                  have htE := hE21.trans tE
                  cases hb : lb (10 * i + j) with
                  | false =>
                    rw [if_pos (show bI false = 0 from rfl)]
                    exact hskip hb t htE
                  | true =>
                    rw [if_neg (show ¬ bI true = 0 by decide)]
                    have hcnt : qN (cnN lb (10 * i + j)) + 1 = qN (cnN lb (10 * i + (j + 1))) := by
                      rw [show 10 * i + (j + 1) = (10 * i + j) + 1 by omega, cnN, hb]; exact q_add _ 1
                    cases hft : fT lb (10 * i + j) with
                    | none =>
                      rw [if_pos (show nO none = -1 from rfl)]
                      refine wn fun x24 e24 => hK2 _ hj' ⟨(hfr t htE).1, (hfr t htE).2, q_add j 1, ?_, hcnt, .inr hcg⟩
                      show x24 = _
                      rw [e24, pl_m, show 10 * i + (j + 1) = (10 * i + j) + 1 by omega, fT_s, hft, hb]; rfl
                    | some x =>
                      have := fT_lt hft
                      rw [if_neg (by rw [nO_m1 (fun y hy => by injection hy with hy; omega)]; intro h; cases h)]
                      refine hK2 _ hj' ⟨(hfr t htE).1, (hfr t htE).2, q_add j 1, ?_, hcnt, .inr hcg⟩
                      show nO (some x) = _
                      rw [show 10 * i + (j + 1) = (10 * i + j) + 1 by omega, fT_s, hft]
    · rw [if_neg hw, if_neg (by decide), if_neg (show ¬ (0 ≤ w ∧ w ≤ 2) by grind), if_pos rfl]; exact hno
  · rw [if_neg hv, if_neg hv, if_neg (by decide), if_pos rfl]; exact hno
end
