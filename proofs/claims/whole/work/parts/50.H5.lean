set_option linter.unusedVariables false
set_option linter.unusedSimpArgs false
set_option maxRecDepth 16384
/-! sums, products, tests, ands, ors -/
theorem lp2_bad {V R V' R' : Type} {b : (V → Option R) → V → Option R} {b' : (V' → Option R') → V' → Option R'} (Q : Option R → Option R' → Prop) (P : Nat → V → V' → Prop) (E : V' → Option R' → Prop) (N : Nat)
    (hE : ∀ K' w r, E w r → b' K' w = r)
    (hs : ∀ k v w K K', k ≤ N → P k v w → (∀ v' w', k < N → P (k + 1) v' w' → Q (K v') (K' w')) → (∀ w' r, k < N → E w' r → K' w' = r) → Q (b K v) (b' K' w)) :
    ∀ (F F' k : Nat) (v : V) (w : V'), k ≤ N → N - k < F → N - k < F' → P k v w → Q (lp b F v) (lp b' F' w) := by
  intro F
  induction F with
  | zero => intro F' k v w hk hF; omega
  | succ F ih =>
    intro F' k v w hk hF hF' hP
    cases F' with
    | zero => omega
    | succ F' =>
      refine hs k v w _ _ hk hP (fun v' w' hlt hP' => ih F' (k + 1) v' w' (by omega) (by omega) (by omega) hP') (fun w' r hlt he => ?_)
      cases F' with
      | zero => omega
      | succ F' => exact hE _ w' r he
def slC (g : St → Int32 → Option (Int32 × St)) (c1 c2 k1 k2 : Int32) (F : Nat) (σ : St) (a0 : Int32) : Option (Int32 × St) := bd2 (g σ a0) fun r1 u2 => if r1 = 0 then (some (0, u2)) else lp (fun (K4 : (St × Int32) → Option (Int32 × St)) (v3 : St × Int32) => if (700 : Int32) ≤ v3.2 then (some (1, v3.1)) else bd1 (fX7_isSign F v3.1 c1) fun r6 => jn (fun v7 : Unit => bd1 (fX7_isSign F v3.1 c1) fun r10 => jn (fun v11 : Int32 => bd1 (fX7_nextToken F v3.1) fun u14 => bd2 (g u14 a0) fun r15 u16 => if r15 = 0 then (some (0, u16)) else bd1 (fX8_add F u16 v11) fun u17 => K4 ((u17, v3.2 + 1))) fun J12 => if r10 = 0 then (J12 k2) else J12 k1) fun J8 => if r6 = 0 then (bd1 (fX7_isSign F v3.1 c2) fun r18 => if r18 = 0 then (some (1, v3.1)) else J8 (())) else J8 (())) F ((u2, 0))
def slM (g : St → Int32 → Option St) (c1 c2 r1 r2 : Int32) (F : Nat) (σ : St) (a0 : Int32) : Option St := bd1 (g σ a0) fun u1 => lp (fun (K3 : St → Option St) (v2 : St) => bd1 (fX11_isMarked F v2 c1) fun r5 => jn (fun v6 : Unit => bd1 (fX11_isMarked F v2 c1) fun r9 => jn (fun v10 : Int32 => bd1 (fX11_stepOn F v2) fun u13 => bd1 (g u13 a0) fun u14 => bd1 (fX11_lay F u14 v10) fun u15 => K3 u15) fun J11 => if r9 = 0 then (J11 r2) else J11 r1) fun J7 => if r5 = 0 then (bd1 (fX11_isMarked F v2 c2) fun r16 => if r16 = 0 then (some v2) else J7 (())) else J7 (())) F u1
def wlC (g : St → Int32 → Option (Int32 × St)) (i : Nat) (k : Int32) (F : Nat) (σ : St) (a0 : Int32) : Option (Int32 × St) := bd2 (g σ a0) fun r1 u2 => if r1 = 0 then (some (0, u2)) else lp (fun (K4 : (St × Int32) → Option (Int32 × St)) (v3 : St × Int32) => if (700 : Int32) ≤ v3.2 then (some (1, v3.1)) else bd1 (fX7_isWord F v3.1 i) fun r6 => if r6 = 0 then (some (1, v3.1)) else bd1 (fX7_nextToken F v3.1) fun u7 => bd2 (g u7 a0) fun r8 u9 => if r8 = 0 then (some (0, u9)) else bd1 (fX8_add F u9 k) fun u10 => K4 ((u10, v3.2 + 1))) F ((u2, 0))
def wlM (g : St → Int32 → Option St) (i : Nat) (r : Int32) (F : Nat) (σ : St) (a0 : Int32) : Option St := bd1 (g σ a0) fun u1 => lp (fun (K3 : St → Option St) (v2 : St) => bd1 (fX11_is F v2 i) fun r5 => if r5 = 0 then (some v2) else bd1 (fX11_stepOn F v2) fun u6 => bd1 (g u6 a0) fun u7 => bd1 (fX11_lay F u7 r) fun u8 => K3 u8) F u1
theorem sl_1 (rx : St → Int32 → Option (Int32 × St)) (F : Nat) : fX7_readProduct rx F = slC (fX7_readPart rx F) 42 47 (-18) (-19) F := rfl
theorem sl_2 (rx : St → Int32 → Option (Int32 × St)) (F : Nat) : fX7_readSum rx F = slC (fX7_readProduct rx F) 43 45 (-16) (-17) F := rfl
theorem sl_3 (rx : St → Int32 → Option St) (F : Nat) : fX11_readProduct rx F = slM (fX11_readPart rx F) 42 47 (-22) (-23) F := rfl
theorem sl_4 (rx : St → Int32 → Option St) (F : Nat) : fX11_readSum rx F = slM (fX11_readProduct rx F) 43 45 (-20) (-21) F := rfl
theorem wl_1 (rx : St → Int32 → Option (Int32 × St)) (F : Nat) : fX7_readAnd rx F = wlC (fX7_readNot rx F) 6 (-13) F := rfl
theorem wl_2 (rx : St → Int32 → Option St) (F : Nat) : fX11_readAnd rx F = wlM (fX11_readNot rx F) 6 (-26) F := rfl
theorem st_bin {c : Int32} {h : Nat} (hc : c ≤ -12) (hh : 2 ≤ h) : st1 c h = some (h - 1) := by
  unfold st1
  rw [if_neg (by grind), if_neg (by grind), if_pos hh]
def bdE (w : St) (r : Option St) : Prop := w 0 25 ≠ 0 ∧ r = some w
section
variable {F : Nat} {t : Nat → Int32} {n : Nat}
theorem P_sl (hF : 800 ≤ F) (hn : n ≤ 700) (hb : ∀ k, 0 ≤ t k ∧ t k ≤ 255) {g : St → Int32 → Option (Int32 × St)} {g' : St → Int32 → Option St} {a : Int32} {B : Nat} (hg : SP t n B a g g') (hgb : SB g') {c1 c2 k1 k2 m1 m2 : Int32} (hk1 : cRel k1 m1) (hk2 : cRel k2 m2) (hb1 : k1 ≤ -12) (hb2 : k2 ≤ -12) : SP t n (B + 1) a (slC g c1 c2 k1 k2 F) (slM g' c1 c2 m1 m2 F) := by
  intro σ τ s L h x hL hh
  refine wpI2 fun Q hQ => ?_
  unfold slC slM
  obtain ⟨y, y', e1, e2, fy, fy', hor⟩ := hg σ τ s L h x hL (by omega)
  obtain ⟨y0, y1⟩ := y
  dsimp only at fy hor
  refine l2 e1 (r1 e2 ?_)
  have hexit : ∀ (K' : St → Option St) (w : St) (r : Option St), bdE w r → (bd1 (fX11_isMarked F w c1) fun r5 => jn (fun v6 : Unit => bd1 (fX11_isMarked F w c1) fun r9 => jn (fun v10 : Int32 => bd1 (fX11_stepOn F w) fun u13 => bd1 (g' u13 a) fun u14 => bd1 (fX11_lay F u14 v10) fun u15 => K' u15) fun J11 => if r9 = 0 then (J11 m2) else J11 m1) fun J7 => if r5 = 0 then (bd1 (fX11_isMarked F w c2) fun r16 => if r16 = 0 then (some w) else J7 (())) else J7 (())) = r := by
    rintro K' w r ⟨hb, rfl⟩
    simp only [M_marked_bad hb, bd1_some, jn, ↓reduceIte]
  rcases hor with ⟨rfl, s1, L1, q1, q2, q3⟩ | ⟨rfl, q1⟩
  · refine lF i10n ?_
    refine lp2_bad Q (fun k (v : St × Int32) (w : St) => v.2 = qN k ∧ FX σ v.1 ∧ FXm τ w ∧ ∃ s' L', s + k < s' ∧ L' + s ≤ s' + L ∧ XR t n v.1 w s' L' (h + 1)) bdE n (fun K' w r he => hexit K' w r he) ?_ F F 0 _ _ (by omega) (by omega) (by omega) ⟨rfl, fy, fy', s1, L1, q1, q2, q3⟩
    rintro k ⟨v, c⟩ w K K' hk ⟨hc, fv, fw, s', L', z1, z2, z3⟩ hK hKb
    dsimp only at hc fv z3
    subst hc
    dsimp only
    have hP := z3.1
    obtain ⟨hC, hM, hs, hbad⟩ := hP
    refine lF (by rw [show (700 : Int32) = qN 700 from rfl, q_le (by omega) (by omega)]; omega) ?_
    refine l1 (C_isSign hn hs hC _) (r1 (M_isMarked hn hs hM hbad _) (lj fun J8 hJ8 => rj fun J7 hJ7 => ?_))
    -- an operator stands there
    have hop : kdA t n s' ≠ 0 → ∀ kk rr : Int32, cRel kk rr → kk ≤ -12 → Q (bd1 (fX7_nextToken F v) fun u14 => bd2 (g u14 a) fun r15 u16 => if r15 = 0 then (some (0, u16)) else bd1 (fX8_add F u16 kk) fun u17 => K ((u17, qN k + 1))) (bd1 (fX11_stepOn F w) fun u13 => bd1 (g' u13 a) fun u14 => bd1 (fX11_lay F u14 rr) fun u15 => K' u15) := by
      intro hk0 kk rr hkr hkb
      obtain ⟨u, u', g1, g2, g3, g4, g5, _⟩ := P_next (F := F) hF hn hb z3.1
      have hnx := nx_le (t := t) hn hs
      have hs1 := hnx.2.2.1 hk0
      obtain ⟨p, p', p1, p2, p3, p4, p5⟩ := hg u u' (nxA t n s') L' (h + 1) (z3.lex g3 g4 g5) (by omega) (by omega)
      obtain ⟨p0, px⟩ := p
      dsimp only at p3 p5
      refine l1 g1 (r1 g2 (l2 p1 (r1 p2 ?_)))
      rcases p5 with ⟨rfl, s2, L2, i1, i2, i3⟩ | ⟨rfl, i1⟩
      · refine lF i10n ?_
        have hs2 := i3.1.2.2.1
        obtain ⟨m, m', j1, j2, j3, j4, j5⟩ := P_add (F := F) i3 (by omega) hkr (st_bin (h := h + 1 + 1) hkb (by omega))
        refine l1 j1 (r1 j2 (hK _ _ (by omega) ⟨q_add k 1, fv.trans (g4.fx.trans (p3.trans j4)), fw.trans (g5.fx.trans (p4.trans j5)), s2, L2 + 1, by omega, by omega, ?_⟩))
        rw [show h + 1 + 1 - 1 = h + 1 by omega] at j3
        exact j3
      · refine lT rfl (r1 (M_lay_bad i1.bad rr) ?_)
        rw [hKb p' _ (by omega) ⟨i1.bad, rfl⟩]
        exact hQ _ _ ⟨fv.trans (g4.fx.trans p3), fw.trans (g5.fx.trans p4), .inr ⟨rfl, i1⟩⟩
    have hJQ : kdA t n s' ≠ 0 → Q (J8 ()) (J7 ()) := by
      intro hk0
      rw [hJ8, hJ7]
      refine l1 (C_isSign hn hs hC _) (r1 (M_isMarked hn hs hM hbad _) (lj fun J12 hJ12 => rj fun J11 hJ11 => ?_))
      cases isS t n s' c1 with
      | false => refine lT (show bI false = 0 from rfl) (rT (show bI false = 0 from rfl) ?_); rw [hJ12, hJ11]; exact hop hk0 _ _ hk2 hb2
      | true => refine lF (show ¬ bI true = 0 by decide) (rF (show ¬ bI true = 0 by decide) ?_); rw [hJ12, hJ11]; exact hop hk0 _ _ hk1 hb1
    have hk3 : ∀ c, isS t n s' c = true → kdA t n s' ≠ 0 := fun c hc h0 => by unfold isS at hc; rw [decide_eq_false (by omega)] at hc; cases hc
    cases hS1 : isS t n s' c1 with
    | true => exact lF (show ¬ bI true = 0 by decide) (rF (show ¬ bI true = 0 by decide) (hJQ (hk3 _ hS1)))
    | false =>
      refine lT (show bI false = 0 from rfl) (rT (show bI false = 0 from rfl) (l1 (C_isSign hn hs hC _) (r1 (M_isMarked hn hs hM hbad _) ?_)))
      cases hS2 : isS t n s' c2 with
      | true => exact lF (show ¬ bI true = 0 by decide) (rF (show ¬ bI true = 0 by decide) (hJQ (hk3 _ hS2)))
      | false => exact lT (show bI false = 0 from rfl) (rT (show bI false = 0 from rfl) (hQ _ _ ⟨fv, fw, .inl ⟨rfl, s', L', by omega, z2, z3⟩⟩))
  · refine lT rfl ?_
    have : lp (fun (K3 : St → Option St) (v2 : St) => bd1 (fX11_isMarked F v2 c1) fun r5 => jn (fun v6 : Unit => bd1 (fX11_isMarked F v2 c1) fun r9 => jn (fun v10 : Int32 => bd1 (fX11_stepOn F v2) fun u13 => bd1 (g' u13 a) fun u14 => bd1 (fX11_lay F u14 v10) fun u15 => K3 u15) fun J11 => if r9 = 0 then (J11 m2) else J11 m1) fun J7 => if r5 = 0 then (bd1 (fX11_isMarked F v2 c2) fun r16 => if r16 = 0 then (some v2) else J7 (())) else J7 (())) F y' = some y' := by
      cases F with
      | zero => omega
      | succ F => exact hexit _ y' _ ⟨q1.bad, rfl⟩
    rw [this]
    exact hQ _ _ ⟨fy, fy', .inr ⟨rfl, q1⟩⟩
theorem SB_sl (hF : 20 ≤ F) {g' : St → Int32 → Option St} (hgb : SB g') {c1 c2 m1 m2 : Int32} : SB (slM g' c1 c2 m1 m2 F) := by
  intro τ a hb
  unfold slM
  rw [hgb τ a hb, bd1_some]
  cases F with
  | zero => omega
  | succ F =>
    show (bd1 (fX11_isMarked _ τ c1) _) = _
    simp only [M_marked_bad hb, bd1_some, jn, ↓reduceIte]
theorem P_wl (hF : 800 ≤ F) (hn : n ≤ 700) (hb : ∀ k, 0 ≤ t k ∧ t k ≤ 255) {g : St → Int32 → Option (Int32 × St)} {g' : St → Int32 → Option St} {a : Int32} {B i : Nat} (hi : i < 17) (hg : SP t n B a g g') (hgb : SB g') {kk rr : Int32} (hkr : cRel kk rr) (hkb : kk ≤ -12) : SP t n (B + 1) a (wlC g i kk F) (wlM g' i rr F) := by
  intro σ τ s L h x hL hh
  refine wpI2 fun Q hQ => ?_
  unfold wlC wlM
  obtain ⟨y, y', e1, e2, fy, fy', hor⟩ := hg σ τ s L h x hL (by omega)
  obtain ⟨y0, y1⟩ := y
  dsimp only at fy hor
  refine l2 e1 (r1 e2 ?_)
  have hexit : ∀ (K' : St → Option St) (w : St) (r : Option St), bdE w r → (bd1 (fX11_is F w i) fun r5 => if r5 = 0 then (some w) else bd1 (fX11_stepOn F w) fun u6 => bd1 (g' u6 a) fun u7 => bd1 (fX11_lay F u7 rr) fun u8 => K' u8) = r := by
    rintro K' w r ⟨hb, rfl⟩
    rw [M_is_bad (by omega) hb hi, bd1_some, if_pos rfl]
  rcases hor with ⟨rfl, s1, L1, q1, q2, q3⟩ | ⟨rfl, q1⟩
  · refine lF i10n ?_
    refine lp2_bad Q (fun k (v : St × Int32) (w : St) => v.2 = qN k ∧ FX σ v.1 ∧ FXm τ w ∧ ∃ s' L', s + k < s' ∧ L' + s ≤ s' + L ∧ XR t n v.1 w s' L' (h + 1)) bdE n (fun K' w r he => hexit K' w r he) ?_ F F 0 _ _ (by omega) (by omega) (by omega) ⟨rfl, fy, fy', s1, L1, q1, q2, q3⟩
    rintro k ⟨v, c⟩ w K K' hk ⟨hc, fv, fw, s', L', z1, z2, z3⟩ hK hKb
    dsimp only at hc fv z3
    subst hc
    dsimp only
    have hP := z3.1
    obtain ⟨hC, hM, hs, hbad⟩ := hP
    refine lF (by rw [show (700 : Int32) = qN 700 from rfl, q_le (by omega) (by omega)]; omega) ?_
    refine l1 (C_isWord hF hn hs hC hi) (r1 (M_is hF hn hs hM hbad hi) ?_)
    cases hW : isW t n s' i with
    | false => exact lT (show bI false = 0 from rfl) (rT (show bI false = 0 from rfl) (hQ _ _ ⟨fv, fw, .inl ⟨rfl, s', L', by omega, z2, z3⟩⟩))
    | true =>
      refine lF (show ¬ bI true = 0 by decide) (rF (show ¬ bI true = 0 by decide) ?_)
      have hk0 : kdA t n s' ≠ 0 := fun h0 => by unfold isW at hW; rw [decide_eq_false (by omega)] at hW; cases hW
      obtain ⟨u, u', g1, g2, g3, g4, g5, _⟩ := P_next (F := F) hF hn hb z3.1
      have hnx := nx_le (t := t) hn hs
      have hs1 := hnx.2.2.1 hk0
      obtain ⟨p, p', p1, p2, p3, p4, p5⟩ := hg u u' (nxA t n s') L' (h + 1) (z3.lex g3 g4 g5) (by omega) (by omega)
      obtain ⟨p0, px⟩ := p
      dsimp only at p3 p5
      refine l1 g1 (r1 g2 (l2 p1 (r1 p2 ?_)))
      rcases p5 with ⟨rfl, s2, L2, i1, i2, i3⟩ | ⟨rfl, i1⟩
      · refine lF i10n ?_
        have hs2 := i3.1.2.2.1
        obtain ⟨m, m', j1, j2, j3, j4, j5⟩ := P_add (F := F) i3 (by omega) hkr (st_bin (h := h + 1 + 1) hkb (by omega))
        refine l1 j1 (r1 j2 (hK _ _ (by omega) ⟨q_add k 1, fv.trans (g4.fx.trans (p3.trans j4)), fw.trans (g5.fx.trans (p4.trans j5)), s2, L2 + 1, by omega, by omega, ?_⟩))
        rw [show h + 1 + 1 - 1 = h + 1 by omega] at j3
        exact j3
      · refine lT rfl (r1 (M_lay_bad i1.bad rr) ?_)
        rw [hKb p' _ (by omega) ⟨i1.bad, rfl⟩]
        exact hQ _ _ ⟨fv.trans (g4.fx.trans p3), fw.trans (g5.fx.trans p4), .inr ⟨rfl, i1⟩⟩
  · refine lT rfl ?_
    have : lp (fun (K3 : St → Option St) (v2 : St) => bd1 (fX11_is F v2 i) fun r5 => if r5 = 0 then (some v2) else bd1 (fX11_stepOn F v2) fun u6 => bd1 (g' u6 a) fun u7 => bd1 (fX11_lay F u7 rr) fun u8 => K3 u8) F y' = some y' := by
      cases F with
      | zero => omega
      | succ F => exact hexit _ y' _ ⟨q1.bad, rfl⟩
    rw [this]
    exact hQ _ _ ⟨fy, fy', .inr ⟨rfl, q1⟩⟩
theorem SB_wl (hF : 20 ≤ F) {g' : St → Int32 → Option St} (hgb : SB g') {i : Nat} (hi : i < 17) {rr : Int32} : SB (wlM g' i rr F) := by
  intro τ a hb
  unfold wlM
  rw [hgb τ a hb, bd1_some]
  cases F with
  | zero => omega
  | succ F =>
    show (bd1 (fX11_is _ τ i) _) = _
    rw [M_is_bad (by omega) hb hi, bd1_some, if_pos rfl]
end
