set_option linter.unusedVariables false
set_option linter.unusedSimpArgs false
set_option maxRecDepth 16384
/-! tests, nots, whole expressions -/
def tsM (g : St → Int32 → Option St) (F : Nat) (w : St) (a0 : Int32) (T : St → Option St) : Option St := bd1 (g w a0) fun u5 => bd1 (fX11_isMarked F u5 60) fun r6 => jn T fun J8 => jn (fun v14 : Unit => bd1 (fX11_isMarked F u5 60) fun r17 => jn (fun v18 : Int32 => bd1 (fX11_stepOn F u5) fun u21 => bd1 (g u21 a0) fun u22 => bd1 (fX11_lay F u22 v18) fun u23 => J8 u23) fun J19 => if r17 = 0 then (J19 ((-25))) else J19 ((-24))) fun J15 => if r6 = 0 then (bd1 (fX11_isMarked F u5 61) fun r24 => if r24 = 0 then (J8 u5) else J15 (())) else J15 (())
section
variable {F : Nat} {t : Nat → Int32} {n : Nat}
theorem ts_bad {g : St → Int32 → Option St} {w y : St} {a : Int32} (hg : g w a = some y) (hb : y 0 25 ≠ 0) (T : St → Option St) : tsM g F w a T = T y := by
  unfold tsM
  simp only [hg, M_marked_bad hb, bd1_some, jn, ↓reduceIte]
theorem P_test (hF : 800 ≤ F) (hn : n ≤ 700) (hb : ∀ k, 0 ≤ t k ∧ t k ≤ 255) {rx : St → Int32 → Option (Int32 × St)} {g' : St → Int32 → Option St} {a : Int32} {B : Nat} (hg : SP t n B a (fX7_readSum rx F) g') {σ τ : St} {s L h : Nat} (x : XR t n σ τ s L h) (hL : L ≤ s) (hh : h + (B + 1) ≤ 40) :
    ∃ z y, fX7_readTest rx F σ a = some z ∧ (∀ T, tsM g' F τ a T = T y) ∧ XO t n σ τ s L h z y := by
  obtain ⟨y, y', e1, e2, fy, fy', hor⟩ := hg σ τ s L h x hL (by omega)
  obtain ⟨y0, y1⟩ := y
  dsimp only at fy hor
  unfold fX7_readTest
  rw [e1, bd2_some]
  rcases hor with ⟨rfl, s1, L1, q1, q2, q3⟩ | ⟨rfl, q1⟩
  · rw [if_neg i10n]
    obtain ⟨hC, hM, hs, hbad⟩ := q3.1
    have hS : ∀ c, fX7_isSign F y1 c = some (bI (isS t n s1 c)) := fun c => C_isSign hn hs hC c
    have hK : ∀ c, fX11_isMarked F y' c = some (bI (isS t n s1 c)) := fun c => M_isMarked hn hs hM hbad c
    have hop : kdA t n s1 ≠ 0 → ∀ kk rr : Int32, cRel kk rr → kk ≤ -12 → ∃ z w, (bd1 (fX7_nextToken F y1) fun u11 => bd2 (fX7_readSum rx F u11 a) fun r12 u13 => if r12 = 0 then (some (0, u13)) else bd1 (fX8_add F u13 kk) fun u14 => some (1, u14)) = some z ∧ (∀ T : St → Option St, (bd1 (fX11_stepOn F y') fun u21 => bd1 (g' u21 a) fun u22 => bd1 (fX11_lay F u22 rr) fun u23 => T u23) = T w) ∧ XO t n σ τ s L h z w := by
      intro hk0 kk rr hkr hkb
      obtain ⟨u, u', g1, g2, g3, g4, g5, _⟩ := P_next (F := F) hF hn hb q3.1
      have hnx := nx_le (t := t) hn hs
      have hs1 := hnx.2.2.1 hk0
      obtain ⟨p, p', p1, p2, p3, p4, p5⟩ := hg u u' (nxA t n s1) L1 (h + 1) (q3.lex g3 g4 g5) (by omega) (by omega)
      obtain ⟨p0, px⟩ := p
      dsimp only at p3 p5
      rw [g1, bd1_some, p1, bd2_some]
      rcases p5 with ⟨rfl, s2, L2, i1, i2, i3⟩ | ⟨rfl, i1⟩
      · have hs2 := i3.1.2.2.1
        obtain ⟨m, m', j1, j2, j3, j4, j5⟩ := P_add (F := F) i3 (by omega) hkr (st_bin (h := h + 1 + 1) hkb (by omega))
        rw [show h + 1 + 1 - 1 = h + 1 by omega] at j3
        rw [if_neg i10n, j1, bd1_some]
        refine ⟨_, m', rfl, fun T => by rw [g2, bd1_some, p2, bd1_some, j2, bd1_some], fy.trans (g4.fx.trans (p3.trans j4)), fy'.trans (g5.fx.trans (p4.trans j5)), .inl ⟨rfl, s2, L2 + 1, by omega, by omega, j3⟩⟩
      · rw [if_pos rfl]
        refine ⟨_, p', rfl, fun T => by rw [g2, bd1_some, p2, bd1_some, M_lay_bad i1.bad, bd1_some], fy.trans (g4.fx.trans p3), fy'.trans (g5.fx.trans p4), .inr ⟨rfl, i1⟩⟩
    have hk3 : ∀ c, isS t n s1 c = true → kdA t n s1 ≠ 0 := fun c hc h0 => by unfold isS at hc; rw [decide_eq_false (by omega)] at hc; cases hc
    have hts : ∀ T, tsM g' F τ a T = jn T fun J8 => jn (fun v14 : Unit => bd1 (fX11_isMarked F y' 60) fun r17 => jn (fun v18 : Int32 => bd1 (fX11_stepOn F y') fun u21 => bd1 (g' u21 a) fun u22 => bd1 (fX11_lay F u22 v18) fun u23 => J8 u23) fun J19 => if r17 = 0 then (J19 ((-25))) else J19 ((-24))) fun J15 => if bI (isS t n s1 60) = 0 then (bd1 (fX11_isMarked F y' 61) fun r24 => if r24 = 0 then (J8 y') else J15 (())) else J15 (()) := fun T => by
      unfold tsM; rw [e2, bd1_some, hK, bd1_some]
    simp only [hS, hK, bd1_some, jn] at hts ⊢
    cases h60 : isS t n s1 60 with
    | true =>
      obtain ⟨z, w, z1, z2, z3⟩ := hop (hk3 _ h60) (-14) (-24) (by unfold cRel; simp) (by decide)
      rw [h60] at hts
      simp only [show ¬ bI true = 0 by decide, ↓reduceIte] at hts ⊢
      refine ⟨z, w, z1, fun T => ?_, z3⟩
      rw [hts T]; exact z2 T
    | false =>
      rw [h60] at hts
      simp only [show bI false = 0 from rfl, ↓reduceIte] at hts ⊢
      cases h61 : isS t n s1 61 with
      | true =>
        obtain ⟨z, w, z1, z2, z3⟩ := hop (hk3 _ h61) (-15) (-25) (by unfold cRel; simp) (by decide)
        rw [h61] at hts
        simp only [show ¬ bI true = 0 by decide, ↓reduceIte] at hts ⊢
        refine ⟨z, w, z1, fun T => ?_, z3⟩
        rw [hts T]; exact z2 T
      | false =>
        rw [h61] at hts
        simp only [show bI false = 0 from rfl, ↓reduceIte] at hts ⊢
        exact ⟨_, y', rfl, hts, fy, fy', .inl ⟨rfl, s1, L1, q1, q2, q3⟩⟩
  · rw [if_pos rfl]
    exact ⟨_, y', rfl, ts_bad e2 q1.bad, fy, fy', .inr ⟨rfl, q1⟩⟩
theorem lay_lp (hF : 20 ≤ F) {y : St} (hb : y 0 25 ≠ 0) {m : Nat} (hm : m ≤ 7) : lp (fun (K11 : (St × Int32) → Option St) (v10 : St × Int32) => if qN m ≤ v10.2 then (some v10.1) else bd1 (fX11_lay F v10.1 ((-28))) fun u13 => K11 ((u13, v10.2 + 1))) F ((y, 0)) = some y := by
  refine wpE fun Q hQ => ?_
  refine lp_up Q (fun k (v : St × Int32) => v.1 = y ∧ v.2 = qN k) m ?_ F 0 _ (by omega) (by omega) ⟨rfl, rfl⟩
  rintro k ⟨v, c⟩ K hk ⟨hv, hc⟩ hK
  dsimp only at hv hc
  subst hv hc
  dsimp only
  by_cases hkm : k = m
  · exact wiT (by rw [hkm]; exact Int32.le_refl _) hQ
  · exact wiF (by rw [q_le (by omega) (by omega)]; omega) (wb1 (M_lay_bad hb _) (hK _ (by omega) ⟨rfl, q_add k 1⟩))
def ntE (w : St × Int32) (r : Option St) : Prop := w.1 0 25 ≠ 0 ∧ (∃ m, m ≤ 7 ∧ w.2 = qN m) ∧ r = some w.1
theorem P_not (hF : 800 ≤ F) (hn : n ≤ 700) (hb : ∀ k, 0 ≤ t k ∧ t k ≤ 255) {rx : St → Int32 → Option (Int32 × St)} {rx' : St → Int32 → Option St} {a : Int32} {B : Nat} (hg : SP t n B a (fX7_readSum rx F) (fX11_readSum rx' F)) (hgb : SB (fX11_readSum rx' F)) : SP t n (B + 1) a (fX7_readNot rx F) (fX11_readNot rx' F) := by
  intro σ τ s L h x hL hh
  refine wpI2 fun Q hQ => ?_
  unfold fX7_readNot fX11_readNot
  refine lp2_bad Q (fun k (v : St × Int32 × Int32) (w : St × Int32) => k ≤ 6 ∧ v.2.1 = qN k ∧ v.2.2 = qN k ∧ w.2 = qN k ∧ FX σ v.1 ∧ FXm τ w.1 ∧ ∃ s', s + k ≤ s' ∧ XR t n v.1 w.1 s' L h) ntE 7 ?_ ?_ F F 0 _ _ (by omega) (by omega) (by omega) ⟨by omega, rfl, rfl, rfl, FX.rfl, FXm.rfl, s, by omega, x⟩
  · rintro K' ⟨w, c⟩ r ⟨hb, ⟨m, hm, hc⟩, rfl⟩
    dsimp only at hb hc ⊢
    subst hc
    rw [M_is_bad (by omega) hb (by decide), bd1_some, if_pos rfl]
    exact (ts_bad (F := F) (hgb w a hb) hb _).trans (lay_lp (by omega) hb hm)
  · rintro k ⟨v, c, c'⟩ ⟨w, d⟩ K K' hk ⟨hk6, hc, hc', hd, fv, fw, s', z1, z3⟩ hK hKb
    dsimp only at hc hc' hd fv fw z3
    subst hc hc' hd
    dsimp only
    obtain ⟨hC, hM, hs, hbad⟩ := z3.1
    refine r1 (M_is hF hn hs hM hbad (by decide)) (lj fun J5 hJ5 => lF (by rw [show (6 : Int32) = qN 6 from rfl, q_lt (by omega) (by omega)]; omega) (l1 (C_isWord hF hn hs hC (by decide)) ?_))
    cases hW : isW t n s' 7 with
    | false =>
      refine lT (show bI false = 0 from rfl) (rT (show bI false = 0 from rfl) ?_)
      rw [hJ5]
      obtain ⟨z, y, e1, e2, fz, fy, hor⟩ := P_test (F := F) hF hn hb hg z3 (by omega) (by omega)
      have e2' := e2 (fun v7 : St => lp (fun (K11 : (St × Int32) → Option St) (v10 : St × Int32) => if qN k ≤ v10.2 then (some v10.1) else bd1 (fX11_lay F v10.1 ((-28))) fun u13 => K11 ((u13, v10.2 + 1))) F ((v7, 0)))
      show Q _ (tsM (fX11_readSum rx' F) F w a (fun v7 : St => lp (fun (K11 : (St × Int32) → Option St) (v10 : St × Int32) => if qN k ≤ v10.2 then (some v10.1) else bd1 (fX11_lay F v10.1 ((-28))) fun u13 => K11 ((u13, v10.2 + 1))) F ((v7, 0))))
      rw [e2']
      obtain ⟨z0, z1'⟩ := z
      dsimp only at fz hor
      refine l2 e1 ?_
      rcases hor with ⟨rfl, s2, L2, i1, i2, i3⟩ | ⟨rfl, i1⟩
      · refine lF i10n ?_
        have hs2 := i3.1.2.2.1
        refine lp2_up Q (fun j (v : St × Int32) (w : St × Int32) => v.2 = qN j ∧ w.2 = qN j ∧ FX σ v.1 ∧ FXm τ w.1 ∧ XR t n v.1 w.1 s2 (L2 + j) (h + 1)) k ?_ F F 0 _ _ (by omega) (by omega) (by omega) ⟨rfl, rfl, fv.trans fz, fw.trans fy, i3⟩
        rintro j ⟨p, pc⟩ ⟨p', pc'⟩ K2 K2' hj ⟨hp, hp', fp, fp', xp⟩ hK2
        dsimp only at hp hp' fp fp' xp
        subst hp hp'
        dsimp only
        by_cases hjk : j = k
        · refine lT (by rw [hjk]; exact Int32.le_refl _) (rT (by rw [hjk]; exact Int32.le_refl _) (hQ _ _ ⟨fp, fp', .inl ⟨rfl, s2, L2 + j, by omega, by omega, xp⟩⟩))
        · refine lF (by rw [q_le (by omega) (by omega)]; omega) (rF (by rw [q_le (by omega) (by omega)]; omega) ?_)
          obtain ⟨m, m', j1, j2, j3, j4, j5⟩ := P_add (F := F) xp (by omega) (c := -11) (r := -28) (by unfold cRel; simp) (h' := h + 1) (by unfold st1; rw [if_neg (by decide), if_pos rfl, if_pos (by omega)])
          exact l1 j1 (r1 j2 (hK2 _ _ (by omega) ⟨q_add j 1, q_add j 1, fp.trans j4, fp'.trans j5, j3⟩))
      · refine lT rfl ?_
        rw [lay_lp (by omega) i1.bad (by omega)]
        exact hQ _ _ ⟨fv.trans fz, fw.trans fy, .inr ⟨rfl, i1⟩⟩
    | true =>
      refine lF (show ¬ bI true = 0 by decide) (rF (show ¬ bI true = 0 by decide) (rj fun J26 hJ26 => ?_))
      have hk0 : kdA t n s' ≠ 0 := fun h0 => by unfold isW at hW; rw [decide_eq_false (by omega)] at hW; cases hW
      by_cases h6 : k = 6
      · have hq6 : qN k = 6 := by rw [h6]; rfl
        refine lT hq6 (rT hq6 (r1 (show fX11_wrong F w 2 = some (wrS w 2 s') from M_wr z3.1 2) (l2 (show fX7_refuse F v 2 = some (0, rfS v 2 s') from C_ref z3.1 2) ?_)))
        have hwb : wrS w 2 s' 0 25 ≠ 0 := wr_bad (by decide)
        have hq7 : qN k + 1 = qN 7 := by rw [h6]; rfl
        rw [hJ26, if_neg hwb, ckB0, hKb (wrS w 2 s', qN k + 1) (some (wrS w 2 s')) (by omega) ⟨hwb, ⟨7, by omega, hq7⟩, rfl⟩]
        exact hQ _ _ ⟨fv.trans rf_FL.fx, fw.trans wr_FLm.fx, .inr ⟨rfl, rw_BD (by decide)⟩⟩
      · have hq6 : ¬ qN k = 6 := by rw [show (6 : Int32) = qN 6 from rfl, q_eq (by omega) (by omega)]; exact h6
        obtain ⟨u, u', g1, g2, g3, g4, g5, _⟩ := P_next (F := F) hF hn hb z3.1
        have hs1 := (nx_le (t := t) hn hs).2.2.1 hk0
        refine lF hq6 (rF hq6 (l1 g1 ?_))
        rw [hJ26, if_pos hbad]
        exact r1 g2 (hK _ _ (by omega) ⟨by omega, q_add k 1, q_add k 1, q_add k 1, fv.trans g4.fx, fw.trans g5.fx, nxA t n s', by omega, z3.lex g3 g4 g5⟩)
theorem SB_not (hF : 20 ≤ F) {rx' : St → Int32 → Option St} (hgb : SB (fX11_readSum rx' F)) : SB (fX11_readNot rx' F) := by
  intro τ a hb
  unfold fX11_readNot
  refine wpE fun Q hQ => ?_
  refine lp_up Q (fun _ (v : St × Int32) => v = (τ, 0)) 0 ?_ F 0 _ (by omega) (by omega) rfl
  rintro k v K _ rfl _
  dsimp only
  rw [M_is_bad (by omega) hb (by decide), bd1_some, if_pos rfl]
  have : tsM (fX11_readSum rx' F) F τ a (fun v7 : St => lp (fun (K11 : (St × Int32) → Option St) (v10 : St × Int32) => if (0 : Int32) ≤ v10.2 then (some v10.1) else bd1 (fX11_lay F v10.1 ((-28))) fun u13 => K11 ((u13, v10.2 + 1))) F ((v7, 0))) = some τ := (ts_bad (F := F) (hgb τ a hb) hb _).trans (lay_lp (m := 0) (by omega) hb (by decide))
  show Q (tsM (fX11_readSum rx' F) F τ a _)
  rw [this]; exact hQ
theorem SB_expr {d : Nat} : SB (fX11_readExpression F (d + 1)) := by
  intro τ a hb
  show fX11_readExpression_b _ F τ a = _
  unfold fX11_readExpression_b
  rw [if_neg hb]
/-- an expression within so many others -/
theorem P_expr (hF : 800 ≤ F) (hn : n ≤ 700) (hb : ∀ k, 0 ≤ t k ∧ t k ≤ 255) : ∀ (d w : Nat), w ≤ 6 → 6 < d + w → SP t n (5 * (6 - w) + 1) (qN w) (fX7_readExpr F (d + 1)) (fX11_readExpression F (d + 1)) := by
  intro d
  induction d with
  | zero => intro w h1 h2; omega
  | succ d ih =>
    intro w hw hd σ τ s L h x hL hh
    show ∃ z y, fX7_readExpr_b (fX7_readExpr F (d + 1)) F σ (qN w) = some z ∧ fX11_readExpression_b (fX11_readExpression F (d + 1)) F τ (qN w) = some y ∧ _
    obtain ⟨hC, hM, hs, hbad⟩ := x.1
    have hk6 := kd_lt (t := t) (n := n) s
    have hmay : ∀ (A : Int32 → Option St), (jn A fun J2 => jn (fun v17 : Unit => J2 1) fun J18 => if (τ 0 21) = (2 : Int32) then (J18 (())) else if (τ 0 21) = (1 : Int32) then (J18 (())) else bd1 (fX11_isMarked F τ 40) fun r20 => if r20 = 0 then (J2 0) else J18 (())) = A (bI (decide (kdA t n s = 2) || (decide (kdA t n s = 1) || isS t n s 40))) := by
      intro A
      simp only [jn]
      rw [hM.2.2.1, M_isMarked hn hs hM hbad, bd1_some]
      by_cases k2 : kdA t n s = 2
      · rw [if_pos ((mkT_1 hk6).2.1.2 k2), decide_eq_true k2]; rfl
      · rw [if_neg (fun hh => k2 ((mkT_1 hk6).2.1.1 hh)), decide_eq_false k2]
        by_cases k1 : kdA t n s = 1
        · rw [if_pos ((mkT_1 hk6).1.2 k1), decide_eq_true k1]; rfl
        · rw [if_neg (fun hh => k1 ((mkT_1 hk6).1.1 hh)), decide_eq_false k1]
          cases isS t n s 40 <;> rfl
    unfold fX11_readExpression_b
    rw [if_pos hbad, hmay]
    unfold fX7_readExpr_b
    by_cases h5 : w ≤ 5
    · rw [if_pos (show qN w ≤ 5 by rw [show (5 : Int32) = qN 5 from rfl, q_le (by omega) (by omega)]; exact h5)]
      have hq6 : ¬ qN w = 6 := by rw [show (6 : Int32) = qN 6 from rfl, q_eq (by omega) (by omega)]; omega
      have hrx := ih (w + 1) (by omega) (by omega)
      have hsb : SB (fX11_readExpression F (d + 1)) := SB_expr
      have p1 := P_part (F := F) hF hn hb (by omega) hrx hsb
      have b1 : SB (fX11_readPart (fX11_readExpression F (d + 1)) F) := SB_part
      have p2 := P_sl (F := F) hF hn hb p1 b1 (c1 := 42) (c2 := 47) (k1 := -18) (k2 := -19) (m1 := -22) (m2 := -23) (by unfold cRel; simp) (by unfold cRel; simp) (by decide) (by decide)
      rw [← sl_1, ← sl_3] at p2
      have b2 : SB (fX11_readProduct (fX11_readExpression F (d + 1)) F) := by rw [sl_3]; exact SB_sl (by omega) b1
      have p3 := P_sl (F := F) hF hn hb p2 b2 (c1 := 43) (c2 := 45) (k1 := -16) (k2 := -17) (m1 := -20) (m2 := -21) (by unfold cRel; simp) (by unfold cRel; simp) (by decide) (by decide)
      rw [← sl_2, ← sl_4] at p3
      have b3 : SB (fX11_readSum (fX11_readExpression F (d + 1)) F) := by rw [sl_4]; exact SB_sl (by omega) b2
      have p4 := P_not (F := F) hF hn hb p3 b3
      have b4 : SB (fX11_readNot (fX11_readExpression F (d + 1)) F) := SB_not (by omega) b3
      have p5 := P_wl (F := F) hF hn hb (i := 6) (by decide) p4 b4 (kk := -13) (rr := -26) (by unfold cRel; simp) (by decide)
      rw [← wl_1, ← wl_2] at p5
      have b5 : SB (fX11_readAnd (fX11_readExpression F (d + 1)) F) := by rw [wl_2]; exact SB_wl (by omega) b4 (by decide)
      have p6 := P_wl (F := F) hF hn hb (i := 5) (by decide) p5 b5 (kk := -12) (rr := -27) (by unfold cRel; simp) (by decide)
      obtain ⟨z, y, e1, e2, e3⟩ := p6 σ τ s L h x hL (by omega)
      have e1' : wlC (fX7_readAnd (fX7_readExpr F (d + 1)) F) 5 (-12) F σ (qN w) = some z := e1
      simp only [jn]
      cases hm : (decide (kdA t n s = 2) || (decide (kdA t n s = 1) || isS t n s 40)) with
      | true =>
        rw [if_neg (show ¬ bI true = 0 by decide), if_neg hq6]
        exact ⟨z, y, e1, e2, e3⟩
      | false =>
        rw [if_pos (show bI false = 0 from rfl), show fX11_wrong F τ 1 = some (wrS τ 1 s) from M_wr x.1 1, bd1_some]
        have hwb : wrS τ 1 s 0 25 ≠ 0 := wr_bad (by decide)
        have e2b : wlM (fX11_readAnd (fX11_readExpression F (d + 1)) F) 5 (-27) F (wrS τ 1 s) (qN w) = some (wrS τ 1 s) := SB_wl (by omega) b5 (by decide) _ _ hwb
        -- the parts fall at the same token
        have hk2 : kdA t n s ≠ 2 := fun hh => by rw [decide_eq_true hh] at hm; cases hm
        have hk1 : kdA t n s ≠ 1 := fun hh => by rw [decide_eq_true hh] at hm; cases hkk : decide (kdA t n s = 2) <;> rw [hkk] at hm <;> cases hm
        have hS : isS t n s 40 = false := by
          cases hS : isS t n s 40 with
          | false => rfl
          | true => rw [hS] at hm; simp at hm
        have f1 : fX7_readPart (fX7_readExpr F (d + 1)) F σ (qN w) = some (0, rfS σ 1 s) := by
          unfold fX7_readPart
          have hc2 : ¬ σ 28 3 = 2 := by rw [hC.2.2.2.1, show (2 : Int32) = qN 2 from rfl, q_eq (by omega) (by omega)]; exact hk2
          have hc1 : ¬ σ 28 3 = 1 := by rw [hC.2.2.2.1, show (1 : Int32) = qN 1 from rfl, q_eq (by omega) (by omega)]; exact hk1
          have htk : fX7_takeNumber F σ 0 9999 = some (-1, rfS σ 1 s) := by
            unfold fX7_takeNumber
            rw [if_neg hc2, show fX7_refuse F σ 1 = some (0, rfS σ 1 s) from C_ref x.1 1]; rfl
          rw [C_isSign hn hs hC, bd1_some, hS, if_pos (show bI false = 0 from rfl), if_neg hc1, htk, bd2_some, if_pos rfl]
        have f2 : fX7_readProduct (fX7_readExpr F (d + 1)) F σ (qN w) = some (0, rfS σ 1 s) := by unfold fX7_readProduct; rw [f1, bd2_some, if_pos rfl]
        have f3 : fX7_readSum (fX7_readExpr F (d + 1)) F σ (qN w) = some (0, rfS σ 1 s) := by unfold fX7_readSum; rw [f2, bd2_some, if_pos rfl]
        have f4 : fX7_readTest (fX7_readExpr F (d + 1)) F σ (qN w) = some (0, rfS σ 1 s) := by unfold fX7_readTest; rw [f3, bd2_some, if_pos rfl]
        have f5 : fX7_readNot (fX7_readExpr F (d + 1)) F σ (qN w) = some (0, rfS σ 1 s) := by
          unfold fX7_readNot
          refine wpE fun Q hQ => ?_
          refine lp_up Q (fun _ (v : St × Int32 × Int32) => v = (σ, 0, 0)) 0 ?_ F 0 _ (by omega) (by omega) rfl
          rintro k v K _ rfl _
          dsimp only
          refine wj fun J5 hJ5 => wiF (by decide) (wb1 (C_isWord hF hn hs hC (by decide)) ?_)
          have hw7 : isW t n s 7 = false := by unfold isW; rw [decide_eq_false hk1, Bool.false_and]
          rw [hw7]
          refine wiT (show bI false = 0 from rfl) ?_
          rw [hJ5, f4, bd2_some, if_pos rfl]; exact hQ
        have f6 : fX7_readAnd (fX7_readExpr F (d + 1)) F σ (qN w) = some (0, rfS σ 1 s) := by unfold fX7_readAnd; rw [f5, bd2_some, if_pos rfl]
        refine ⟨(0, rfS σ 1 s), wrS τ 1 s, ?_, e2b, rf_FL.fx, wr_FLm.fx, .inr ⟨rfl, rw_BD (by decide)⟩⟩
        rw [f6, bd2_some, if_pos rfl]
    · have hw6 : w = 6 := by omega
      subst hw6
      rw [if_neg (show ¬ qN 6 ≤ 5 by decide)]
      have hmb : fX7_mayBeginPart F σ = some (bI (decide (kdA t n s = 2) || (decide (kdA t n s = 1) || isS t n s 40))) := by
        unfold fX7_mayBeginPart
        have hc2 : (σ 28 3 = 2) ↔ kdA t n s = 2 := by rw [hC.2.2.2.1, show (2 : Int32) = qN 2 from rfl, q_eq (by omega) (by omega)]
        have hc1 : (σ 28 3 = 1) ↔ kdA t n s = 1 := by rw [hC.2.2.2.1, show (1 : Int32) = qN 1 from rfl, q_eq (by omega) (by omega)]
        rw [C_isSign hn hs hC, bd1_some]
        by_cases k2 : kdA t n s = 2
        · rw [if_pos (hc2.2 k2), decide_eq_true k2]; rfl
        · rw [if_neg (fun hh => k2 (hc2.1 hh)), decide_eq_false k2]
          by_cases k1 : kdA t n s = 1
          · rw [if_pos (hc1.2 k1), decide_eq_true k1]; rfl
          · rw [if_neg (fun hh => k1 (hc1.1 hh)), decide_eq_false k1]
            cases isS t n s 40 <;> rfl
      rw [hmb, bd1_some]
      have hbadE : ∀ f : Nat, 1 ≤ f ∧ f ≤ 5 → (bd1 (fX11_readAnd (fX11_readExpression F (d + 1)) F (wrS τ f s) (qN 6)) fun u7 => lp (fun (K9 : St → Option St) (v8 : St) => bd1 (fX11_is F v8 5) fun r11 => if r11 = 0 then (some v8) else bd1 (fX11_stepOn F v8) fun u12 => bd1 (fX11_readAnd (fX11_readExpression F (d + 1)) F u12 (qN 6)) fun u13 => bd1 (fX11_lay F u13 ((-27))) fun u14 => K9 u14) F u7) = some (wrS τ f s) := by
        intro f hf
        have hsb : SB (fX11_readExpression F (d + 1)) := SB_expr
        have b1 : SB (fX11_readPart (fX11_readExpression F (d + 1)) F) := SB_part
        have b2 : SB (fX11_readProduct (fX11_readExpression F (d + 1)) F) := by rw [sl_3]; exact SB_sl (by omega) b1
        have b3 : SB (fX11_readSum (fX11_readExpression F (d + 1)) F) := by rw [sl_4]; exact SB_sl (by omega) b2
        have b4 : SB (fX11_readNot (fX11_readExpression F (d + 1)) F) := SB_not (by omega) b3
        have b5 : SB (fX11_readAnd (fX11_readExpression F (d + 1)) F) := by rw [wl_2]; exact SB_wl (by omega) b4 (by decide)
        exact SB_wl (F := F) (i := 5) (rr := -27) (by omega) b5 (by decide) _ _ (wr_bad hf)
      simp only [jn]
      cases hm : (decide (kdA t n s = 2) || (decide (kdA t n s = 1) || isS t n s 40)) with
      | true =>
        rw [if_neg (show ¬ bI true = 0 by decide), if_neg (show ¬ bI true = 0 by decide), if_pos (show qN 6 = 6 from rfl), show fX7_refuse F σ 2 = some (0, rfS σ 2 s) from C_ref x.1 2, bd2_some, ckB0, show fX11_wrong F τ 2 = some (wrS τ 2 s) from M_wr x.1 2, bd1_some]
        exact ⟨_, _, rfl, hbadE 2 (by decide), rf_FL.fx, wr_FLm.fx, .inr ⟨rfl, rw_BD (by decide)⟩⟩
      | false =>
        rw [if_pos (show bI false = 0 from rfl), if_pos (show bI false = 0 from rfl), show fX7_refuse F σ 1 = some (0, rfS σ 1 s) from C_ref x.1 1, bd2_some, ckB0, show fX11_wrong F τ 1 = some (wrS τ 1 s) from M_wr x.1 1, bd1_some]
        exact ⟨_, _, rfl, hbadE 1 (by decide), rf_FL.fx, wr_FLm.fx, .inr ⟨rfl, rw_BD (by decide)⟩⟩
end
