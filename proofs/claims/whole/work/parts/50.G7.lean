set_option linter.unusedVariables false
set_option linter.unusedSimpArgs false
set_option maxRecDepth 16384
/-! the call of century -/
section
variable {R R' V : Type} {Q : Option R → Option R' → Prop}
theorem rj {x : Option R} {J : V → Option R'} {B : (V → Option R') → Option R'} (h : ∀ J', (∀ v, J' v = J v) → Q x (B J')) : Q x (jn J B) := h J (fun _ => rfl)
theorem lj {y : Option R'} {J : V → Option R} {B : (V → Option R) → Option R} (h : ∀ J', (∀ v, J' v = J v) → Q (B J') y) : Q (jn J B) y := h J (fun _ => rfl)
theorem rn {x : Option R} {a : V} {f : V → Option R'} (h : ∀ z, z = a → Q x (f z)) : Q x (nm a f) := h a rfl
theorem ln {y : Option R'} {a : V} {f : V → Option R} (h : ∀ z, z = a → Q (f z) y) : Q (nm a f) y := h a rfl
theorem rT {x : Option R} {c : Prop} [Decidable c] {a b : Option R'} (hc : c) (h : Q x a) : Q x (if c then a else b) := by rw [if_pos hc]; exact h
theorem rF {x : Option R} {c : Prop} [Decidable c] {a b : Option R'} (hc : ¬ c) (h : Q x b) : Q x (if c then a else b) := by rw [if_neg hc]; exact h
theorem lT {y : Option R'} {c : Prop} [Decidable c] {a b : Option R} (hc : c) (h : Q a y) : Q (if c then a else b) y := by rw [if_pos hc]; exact h
theorem lF {y : Option R'} {c : Prop} [Decidable c] {a b : Option R} (hc : ¬ c) (h : Q b y) : Q (if c then a else b) y := by rw [if_neg hc]; exact h
theorem r1 {x : Option R} {f : Option V} {r : V} {g : V → Option R'} (h : f = some r) (hq : Q x (g r)) : Q x (bd1 f g) := by rw [h]; exact hq
theorem l1 {y : Option R'} {f : Option V} {r : V} {g : V → Option R} (h : f = some r) (hq : Q (g r) y) : Q (bd1 f g) y := by rw [h]; exact hq
theorem r2 {W : Type} {x : Option R} {f : Option (V × W)} {r : V} {u : W} {g : V → W → Option R'} (h : f = some (r, u)) (hq : Q x (g r u)) : Q x (bd2 f g) := by rw [h]; exact hq
theorem l2 {W : Type} {y : Option R'} {f : Option (V × W)} {r : V} {u : W} {g : V → W → Option R} (h : f = some (r, u)) (hq : Q (g r u) y) : Q (bd2 f g) y := by rw [h]; exact hq
end
section
variable {F : Nat}
theorem C_drawOne {u : St} {D : Nat} (hu : u 2 1 = qN D) (h1 : 1 ≤ D) (h8 : D ≤ 8) : ∀ s1 s2 u4, s1 = nxS (u 87 3) → s2 = nxS s1 → u4 = up (up u 87 3 s1) 87 3 s2 →
    fX4_drawOne F u = some (if drN s2 % 3 = 0 then up (up u4 55 (drN s1 % D) (u4 54 0)) 56 (drN s1 % D) 0 else if drN s2 % 3 = 1 then up u4 56 (drN s1 % D) 1 else u4) := by
  intro s1 s2 u4 e1 e2 e4
  have hlt : drN s1 % D < D := Nat.mod_lt _ h1
  unfold fX4_drawOne
  have hd1 := C_draw (F := F) (v := u) h1 h8
  rw [← e1] at hd1
  have hd2 := C_draw (F := F) (v := up u 87 3 s1) (a := 3) (by decide) (by decide)
  rw [up_same, upd_same, ← e2, ← e4] at hd2
  rw [hu, if_neg (by rw [show (0 : Int32) = qN 0 from rfl, q_eq (by omega) (by omega)]; omega), hd1, bd2_some, show (3 : Int32) = qN 3 from rfl, hd2, bd2_some]
  have h3 : drN s2 % 3 < 3 := Nat.mod_lt _ (by decide)
  by_cases c0 : drN s2 % 3 = 0
  · rw [if_pos c0, c0, if_pos (show qN 0 = 0 from rfl)]
    unfold fX9_renew_2
    rw [ck_ok (by omega) (by omega), q_clamp (by omega)]
    simp only [nm]
    rw [ck_ok (by omega) (by omega)]; rfl
  · rw [if_neg c0, if_neg (by rw [show (0 : Int32) = qN 0 from rfl, q_eq (by omega) (by omega)]; exact c0)]
    by_cases c1 : drN s2 % 3 = 1
    · rw [if_pos c1, c1, if_pos (show qN 1 = 1 from rfl), ck_ok (by omega) (by omega), q_clamp (by omega)]; rfl
    · rw [if_neg c1, if_neg (by rw [show (1 : Int32) = qN 1 from rfl, q_eq (by omega) (by omega)]; exact c1)]
theorem century_both (hF : 800 ≤ F) {σ τ u w : St} (T : Told σ τ) (h38 : τ 0 38 = 0) (hCR : CR σ τ u w) (h48 : u 87 3 = w 0 48) (h6 : u 87 6 = 0) (hy : u 54 0 ≤ 999) (n : Nat) (hn : n ≤ 40) (a2 : Int32) :
    ∃ z x, (bd2 (fX2_bindingBits_2 F u 0) fun r5 u6 => bd1 (fJ6_bitCount_0f7a4 F u6 r5) fun r7 => nm (up u6 87 4 r7) fun u9 => nm (up u9 87 5 (u9 87 4)) fun u11 => lp (fun (K13 : (St × Int32) → Option St) (v12 : St × Int32) => if qN n ≤ v12.2 then (some v12.1) else nm (up v12.1 54 0 ((v12.1 54 0) + 1)) fun u16 => bd1 (fX4_drawOne F u16) fun u17 => bd2 (fX2_bindingBits_2 F u17 0) fun r18 u19 => bd1 (fJ6_bitCount_0f7a4 F u19 r18) fun r20 => nm (up u19 87 4 r20) fun u22 => jn (fun v23 : Int32 => nm (up u22 87 5 v23) fun u27 => if (u27 87 4) = (u27 2 1) then (nm (up u27 87 6 ((u27 87 6) + 1)) fun u31 => K13 ((u31, v12.2 + 1))) else nm (up u27 87 6 ((u27 87 6) + 0)) fun u29 => K13 ((u29, v12.2 + 1))) fun J24 => if v12.2 = 0 then (J24 (u22 87 4)) else J24 (if (u22 87 4) < (u22 87 5) then (u22 87 4) else (u22 87 5))) F ((u11, 0))) = some z ∧ (bd2 (fX11_binding F w) fun r8 u9 => bd1 (fX11_bitsOf F u9 r8) fun r10 => lp (fun (K12 : (St × Int32 × Int32 × Int32 × Int32) → Option (Int32 × St)) (v11 : St × Int32 × Int32 × Int32 × Int32) => if qN n ≤ v11.2.1 then (bd1 (fX11_unpack_2 F v11.1 0) fun u14 => if a2 = 0 then (some (v11.2.2.2.2, u14)) else if a2 = (1 : Int32) then (some (v11.2.2.2.1, u14)) else some (v11.2.2.1, u14)) else nm (up v11.1 0 31 ((v11.1 0 31) + 1)) fun u16 => jn (fun v17 : St × Int32 => jn (fun v20 : St × Int32 => jn (fun v23 : St => jn (fun v26 : St => bd2 (fX11_binding F v26) fun r29 u30 => bd1 (fX11_bitsOf F u30 r29) fun r31 => jn (fun v32 : Int32 => if r31 = (u30 5 1) then (nm (v11.2.2.1 + 1) fun x36 => K12 ((u30, v11.2.1 + 1, x36, v32, r31))) else nm (v11.2.2.1 + 0) fun x35 => K12 ((u30, v11.2.1 + 1, x35, v32, r31))) fun J33 => if v11.2.1 = 0 then (J33 r31) else J33 (if r31 < v11.2.2.2.1 then r31 else v11.2.2.2.1)) fun J27 => if v20.2 = (1 : Int32) then (nm (up v23 0 32 ((v23 0 32) ||| ((1 : Int32) <<< (v17.2 &&& 31)))) fun u38 => J27 u38) else J27 v23) fun J24 => if v20.2 = 0 then (bd1 (fX11_danceAgain F v20.1 v17.2) fun u39 => J24 u39) else J24 v20.1) fun J21 => if (v17.1 5 1) = 0 then (J21 ((v17.1, 2))) else bd2 (fX11_drawOf F v17.1 3) fun r40 u41 => J21 ((u41, r40))) fun J18 => if (u16 5 1) = 0 then (J18 ((u16, 0))) else bd2 (fX11_drawOf F u16 (u16 5 1)) fun r42 u43 => J18 ((u43, r42))) F ((u9, 0, 0, r10, r10))) = some x ∧ (∀ c, c < 54 → c ≠ 14 → z c = σ c) ∧ (∃ w', CR σ τ z w' ∧ x.2 = unT w' 33 0) ∧ x.1 = (if a2 = 0 then z 87 4 else if a2 = 1 then z 87 5 else z 87 6) := by
  have hD := T.2.2.2.2.1
  refine wpI2 fun Q hQ => ?_
  obtain ⟨v0, w0, b0, hb0, e1, e2, e3, e4, e5, e6, e7⟩ := bits_both (F := F) (by omega) T hCR h38
  refine l2 (r := v0.1) (u := v0.2) e1 (r2 (r := w0.1) (u := w0.2) e2 (l1 e3 (r1 e4 (ln fun u9 h9 => ln fun u11 h11 => ?_))))
  have h11R : CR σ τ u11 w0.2 := by rw [h11, h9]; exact e5.cell.cell
  have h87 : ∀ j, j ≠ 4 → j ≠ 5 → u11 87 j = u 87 j := fun j j4 j5 => by rw [h11, up_same, upd_ne _ _ j5, h9, up_same, upd_ne _ _ j4, e6]
  have hvy : u 54 0 = v0.2 54 0 := by
    rw [← hCR.2.2.2.2.1, ← e5.2.2.2.2.1, e7]
  refine lp2_up Q (fun k (a : St × Int32) (b : St × Int32 × Int32 × Int32 × Int32) => CR σ τ a.1 b.1 ∧ a.2 = qN k ∧ b.2.1 = qN k ∧ a.1 54 0 ≤ qN (999 + k) ∧ a.1 87 3 = b.1 0 48 ∧ a.1 87 6 = b.2.2.1 ∧ a.1 87 5 = b.2.2.2.1 ∧ a.1 87 4 = b.2.2.2.2) n ?_ F F 0 _ _ (by omega) (by omega) (by omega) ⟨h11R, rfl, rfl, ?_, ?_, ?_, ?_, ?_⟩
  rotate_left
  · show u11 54 0 ≤ qN 999
    rw [h11, up_ne _ _ _ (by decide), h9, up_ne _ _ _ (by decide), ← hvy]; exact hy
  · show u11 87 3 = w0.2 0 48
    rw [h87 3 (by decide) (by decide), e7, h48]
  · show u11 87 6 = 0
    rw [h87 6 (by decide) (by decide), h6]
  · show u11 87 5 = qN b0
    rw [h11, up_same, upd_same, h9, up_same, upd_same]
  · show u11 87 4 = qN b0
    rw [h11, up_same, upd_ne _ _ (by decide), h9, up_same, upd_same]
  rintro k ⟨a, ka⟩ ⟨b, kb, fu, fe, la⟩ K K' hk ⟨hR, hka, hkb, hyr, hsd, hfu, hfe, hla⟩ hK
  dsimp only at hR hka hkb hyr hsd hfu hfe hla
  subst hka hkb
  dsimp only
  have h2a : ∀ {v w : St}, CR σ τ v w → v 2 1 = qN (nD σ) := fun h => by rw [h.1 2 (by decide) (by decide)]; exact T.2.2.2.1
  have h5b : ∀ {v w : St}, CR σ τ v w → w 5 1 = qN (nD σ) := fun h => by rw [h.2.1 5 (by decide) (by decide) (by decide) (by decide) (by decide), T.2.2.2.2.2.1]; exact T.2.2.2.1
  by_cases hkn : k = n
  · refine lT (by rw [hkn]; exact Int32.le_refl _) (rT (by rw [hkn]; exact Int32.le_refl _) ?_)
    refine r1 (r := unT b 33 0) (show fX11_unpack_2 F b 0 = _ by rw [un_2]; exact M_unG (by decide) (by omega) b (o := 0) (by decide) (by decide)) ?_
    by_cases a0 : a2 = 0
    · refine rT a0 (hQ _ _ ⟨hR.1, ⟨b, hR, rfl⟩, ?_⟩); rw [if_pos a0, hla]
    · refine rF a0 ?_
      by_cases a1 : a2 = 1
      · refine rT a1 (hQ _ _ ⟨hR.1, ⟨b, hR, rfl⟩, ?_⟩); rw [if_neg a0, if_pos a1, hfe]
      · refine rF a1 (hQ _ _ ⟨hR.1, ⟨b, hR, rfl⟩, ?_⟩); rw [if_neg a0, if_neg a1, hfu]
  · have hk' : k < n := by omega
    refine lF (by rw [q_le (by omega) (by omega)]; omega) (rF (by rw [q_le (by omega) (by omega)]; omega) (ln fun u16 h16 => rn fun t16 g16 => ?_))
    have hy1099 : a 54 0 ≤ 1099 := by
      have : qN (999 + k) ≤ 1099 := by rw [show (1099 : Int32) = qN 1099 from rfl, q_le (by omega) (by omega)]; omega
      grind
    have hR16 : CR σ τ u16 t16 := by rw [h16, g16]; exact hR.year hy1099
    have h1687 : u16 87 = a 87 := by rw [h16, up_ne _ _ _ (by decide)]
    have h1648 : t16 0 48 = b 0 48 := by rw [g16, up_same, upd_ne _ _ (by decide)]
    have h16y : u16 54 0 ≤ qN (999 + (k + 1)) := by
      rw [h16, up_same, upd_same, show 999 + (k + 1) = (999 + k) + 1 by omega, ← q_add, show qN 1 = 1 from rfl]
      have : qN (999 + k) ≤ 1099 := by rw [show (1099 : Int32) = qN 1099 from rfl, q_le (by omega) (by omega)]; omega
      have := hR.2.2.2.1.1
      grind
    refine rj fun J18 hJ18 => ?_
    -- behind the draws
    have hafter : ∀ (v t : St) (JJ : St → Option (Int32 × St)), CR σ τ v t → v 54 0 ≤ qN (999 + (k + 1)) → v 87 3 = t 0 48 → (∀ j, j ≠ 3 → v 87 j = a 87 j) → (∀ v26, JJ v26 = bd2 (fX11_binding F v26) fun r29 u30 => bd1 (fX11_bitsOf F u30 r29) fun r31 => jn (fun v32 : Int32 => if r31 = (u30 5 1) then (nm (fu + 1) fun x36 => K' ((u30, qN k + 1, x36, v32, r31))) else nm (fu + 0) fun x35 => K' ((u30, qN k + 1, x35, v32, r31))) fun J33 => if qN k = 0 then (J33 r31) else J33 (if r31 < fe then r31 else fe)) →
        Q (bd2 (fX2_bindingBits_2 F v 0) fun r18 u19 => bd1 (fJ6_bitCount_0f7a4 F u19 r18) fun r20 => nm (up u19 87 4 r20) fun u22 => jn (fun v23 : Int32 => nm (up u22 87 5 v23) fun u27 => if (u27 87 4) = (u27 2 1) then (nm (up u27 87 6 ((u27 87 6) + 1)) fun u31 => K ((u31, qN k + 1))) else nm (up u27 87 6 ((u27 87 6) + 0)) fun u29 => K ((u29, qN k + 1))) fun J24 => if qN k = 0 then (J24 (u22 87 4)) else J24 (if (u22 87 4) < (u22 87 5) then (u22 87 4) else (u22 87 5))) (JJ t) := by
      intro v t JJ hvt hvy' hv3 hv87 hJJ
      rw [hJJ]
      obtain ⟨v1, w1, b1, hb1, d1, d2, d3, d4, d5, d6, d7⟩ := bits_both (F := F) (by omega) T hvt h38
      refine l2 (r := v1.1) (u := v1.2) d1 (r2 (r := w1.1) (u := w1.2) d2 (l1 d3 (r1 d4 (ln fun u22 h22 => lj fun J24 hJ24 => rj fun J33 hJ33 => ?_))))
      have hv1y : v1.2 54 0 = v 54 0 := by rw [← d5.2.2.2.2.1, d7, hvt.2.2.2.2.1]
      have g4 : u22 87 4 = qN b1 := by rw [h22, up_same, upd_same]
      have g5 : u22 87 5 = fe := by rw [h22, up_same, upd_ne _ _ (by decide), d6, hv87 5 (by decide), hfe]
      have g6 : u22 87 6 = fu := by rw [h22, up_same, upd_ne _ _ (by decide), d6, hv87 6 (by decide), hfu]
      have g3 : u22 87 3 = w1.2 0 48 := by rw [h22, up_same, upd_ne _ _ (by decide), d6, hv3, d7]
      have gR : CR σ τ u22 w1.2 := by rw [h22]; exact d5.cell
      have gy : u22 54 0 ≤ qN (999 + (k + 1)) := by rw [h22, up_ne _ _ _ (by decide), hv1y]; exact hvy'
      have hgo : ∀ f : Int32, Q (J24 f) (J33 f) := by
        intro f
        rw [hJ24, hJ33]
        refine ln fun u27 h27 => ?_
        have i4 : u27 87 4 = qN b1 := by rw [h27, up_same, upd_ne _ _ (by decide), g4]
        have i2 : u27 2 1 = qN (nD σ) := by rw [h27, up_ne _ _ _ (by decide)]; exact h2a gR
        have i6 : u27 87 6 = fu := by rw [h27, up_same, upd_ne _ _ (by decide), g6]
        have fin : ∀ (z : St) (y : Int32), z = up u27 87 6 y → Q (K (z, qN k + 1)) (K' (w1.2, qN k + 1, y, f, qN b1)) := by
          intro z y hz
          refine hK _ _ hk' ⟨?_, q_add k 1, q_add k 1, ?_, ?_, ?_, ?_, ?_⟩
          · show CR σ τ z w1.2; rw [hz, h27]; exact gR.cell.cell
          · show z 54 0 ≤ _; rw [hz, up_ne _ _ _ (by decide), h27, up_ne _ _ _ (by decide)]; exact gy
          · show z 87 3 = _; rw [hz, up_same, upd_ne _ _ (by decide), h27, up_same, upd_ne _ _ (by decide)]; exact g3
          · show z 87 6 = y; rw [hz, up_same, upd_same]
          · show z 87 5 = f; rw [hz, up_same, upd_ne _ _ (by decide), h27, up_same, upd_same]
          · show z 87 4 = qN b1; rw [hz, up_same, upd_ne _ _ (by decide), i4]
        by_cases hc : b1 = nD σ
        · refine lT (by rw [i4, i2, hc]) (rT (by rw [h5b d5, hc]) (ln fun z hz => rn fun y hy => fin z y (by rw [hz, hy, i6])))
        · refine lF (by rw [i4, i2, q_eq (by omega) (by omega)]; exact hc) (rF (by rw [h5b d5, q_eq (by omega) (by omega)]; exact hc) (ln fun z hz => rn fun y hy => fin z y (by rw [hz, hy, i6])))
      by_cases hk0 : qN k = 0
      · refine lT hk0 (rT hk0 ?_)
        rw [g4]; exact hgo _
      · refine lF hk0 (rF hk0 ?_)
        rw [g4, g5]; exact hgo _
    by_cases hD0 : nD σ = 0
    · have z2 : u16 2 1 = 0 := by rw [h2a hR16, hD0]; rfl
      have z5 : t16 5 1 = 0 := by rw [h5b hR16, hD0]; rfl
      refine l1 (r := u16) (by unfold fX4_drawOne; rw [if_pos z2]) (rT z5 ?_)
      rw [hJ18]
      refine rj fun J21 hJ21 => rT z5 ?_
      rw [hJ21]
      refine rj fun J24 hJ24 => rF (show ¬ (2 : Int32) = 0 by decide) ?_
      rw [hJ24]
      refine rj fun J27 hJ27 => rF (show ¬ (2 : Int32) = 1 by decide) ?_
      exact hafter u16 t16 J27 hR16 h16y (by rw [h1687, hsd, h1648]) (fun j _ => by rw [h1687]) hJ27
    · have hD1 : 1 ≤ nD σ := by omega
      have z5 : ¬ t16 5 1 = 0 := by rw [h5b hR16, show (0 : Int32) = qN 0 from rfl, q_eq (by omega) (by omega)]; exact hD0
      have hs : u16 87 3 = t16 0 48 := by rw [h1687, hsd, h1648]
      have hdo := C_drawOne (F := F) (h2a hR16) hD1 hD _ _ _ rfl rfl rfl
      have hlt : drN (nxS (u16 87 3)) % nD σ < nD σ := Nat.mod_lt _ hD1
      refine l1 hdo (rF z5 ?_)
      have hm1 := M_draw (F := F) (w := t16) hD1 hD
      rw [← hs] at hm1
      rw [h5b hR16]
      refine r2 hm1 ?_
      rw [hJ18]
      dsimp only
      have hR1 : CR σ τ (up (up u16 87 3 (nxS (u16 87 3))) 87 3 (nxS (nxS (u16 87 3)))) (up (up t16 0 48 (nxS (u16 87 3))) 0 48 (nxS (nxS (u16 87 3)))) := hR16.cell.cell.seed.seed
      generalize hu4 : up (up u16 87 3 (nxS (u16 87 3))) 87 3 (nxS (nxS (u16 87 3))) = u4 at *
      generalize hd : drN (nxS (u16 87 3)) % nD σ = dd at *
      refine rj fun J21 hJ21 => rF (by rw [up_ne _ _ _ (by decide)]; exact z5) ?_
      have hm2 := M_draw (F := F) (w := up t16 0 48 (nxS (u16 87 3))) (a := 3) (by decide) (by decide)
      rw [up_same, upd_same] at hm2
      refine r2 (show fX11_drawOf F (up t16 0 48 (nxS (u16 87 3))) 3 = _ from hm2) ?_
      generalize hwh : drN (nxS (nxS (u16 87 3))) % 3 = wh at *
      have hwh3 : wh < 3 := by rw [← hwh]; exact Nat.mod_lt _ (by decide)
      generalize ht4 : up (up t16 0 48 (nxS (u16 87 3))) 0 48 (nxS (nxS (u16 87 3))) = t4 at *
      have hs4 : u4 87 3 = t4 0 48 := by rw [← hu4, ← ht4, up_same, upd_same, up_same, upd_same]
      have hy4 : u4 54 0 ≤ qN (999 + (k + 1)) := by rw [← hu4, up_ne _ _ _ (by decide), up_ne _ _ _ (by decide)]; exact h16y
      have h874 : ∀ j, j ≠ 3 → u4 87 j = a 87 j := fun j hj => by rw [← hu4, up_same, upd_ne _ _ hj, up_same, upd_ne _ _ hj, h1687]
      rw [hJ21]
      dsimp only
      rcases (by omega : wh = 0 ∨ wh = 1 ∨ wh = 2) with rfl | rfl | rfl
      · rw [if_pos rfl]
        refine rj fun J24 hJ24 => rT (show qN 0 = 0 from rfl) ?_
        have hda : fX11_danceAgain F t4 (qN dd) = some (up (up t4 18 dd (t4 0 31)) 0 32 ((t4 0 32) &&& (((1 : Int32) <<< (qN dd &&& 31)) ^^^ ((-1))))) := by
          unfold fX11_danceAgain
          simp only [nm]
          rw [ck_ok (by omega) (by omega), q_clamp (by omega), up_ne _ _ _ (show 0 ≠ 18 by decide)]
        refine r1 hda ?_
        rw [hJ24]
        refine rj fun J27 hJ27 => rF (show ¬ qN 0 = 1 by decide) ?_
        refine hafter _ _ J27 (hR1.renew (d := dd) (by omega)) ?_ ?_ (fun j hj => ?_) hJ27
        · rw [up_ne _ _ _ (by decide), up_ne _ _ _ (by decide)]; exact hy4
        · rw [up_ne _ _ _ (by decide), up_ne _ _ _ (by decide), up_same, upd_ne _ _ (by decide), up_ne _ _ _ (by decide)]; exact hs4
        · rw [up_ne _ _ _ (by decide), up_ne _ _ _ (by decide)]; exact h874 j hj
      · rw [if_neg (by decide), if_pos rfl]
        refine rj fun J24 hJ24 => rF (show ¬ qN 1 = 0 by decide) ?_
        rw [hJ24]
        refine rj fun J27 hJ27 => rT (show qN 1 = 1 from rfl) (rn fun t38 h38' => ?_)
        rw [h38']
        refine hafter _ _ J27 (hR1.brk (d := dd) (by omega)) ?_ ?_ (fun j hj => ?_) hJ27
        · rw [up_ne _ _ _ (by decide)]; exact hy4
        · rw [up_ne _ _ _ (by decide), up_same, upd_ne _ _ (by decide)]; exact hs4
        · rw [up_ne _ _ _ (by decide)]; exact h874 j hj
      · rw [if_neg (by decide), if_neg (by decide)]
        refine rj fun J24 hJ24 => rF (show ¬ qN 2 = 0 by decide) ?_
        rw [hJ24]
        refine rj fun J27 hJ27 => rF (show ¬ qN 2 = 1 by decide) ?_
        exact hafter _ _ J27 hR1 hy4 hs4 h874 hJ27
theorem sm_century (hF : 6000 ≤ F) : Sm_century F Rl := by
  intro σ τ a b c R
  show G2 _ _
  unfold fX10_century fX11_century
  refine wnG2 fun τ0 h0 => ?_
  have R0 : Rl σ τ0 := by rw [h0]; exact R.fr CE.rfl ME4
  have h4 : τ0 0 4 = 0 := by rw [h0]; exact up4
  clear h0
  have T := R0.2.1
  have hin := M_isIn (F := F) (τ := τ0) c 0 2
  have hin2 := M_isIn (F := F) (τ := τ0) b 0 40
  rw [C_chkB, bd1_some, show (0 : Int64) = Int32.toInt64 0 from rfl, show (2 : Int64) = Int32.toInt64 2 from rfl, show (40 : Int64) = Int32.toInt64 40 from rfl, hin, bd1_some, hin2, bd1_some]
  by_cases hc : 0 ≤ c ∧ c < 3
  · rw [if_pos hc, if_pos rfl, if_pos (show 0 ≤ c ∧ c ≤ 2 by grind), if_neg i10n]
    refine wj (Q := fun o => G2 o _) fun J hJ => ?_
    by_cases hb0 : b < 0
    · rw [if_pos hb0, if_neg (show ¬ (0 ≤ b ∧ b ≤ 40) by grind), if_pos rfl, M_fail, hJ]
      exact G2_no2 R0 rfl rfl CE.rfl ME4 up4
    rw [if_neg hb0]
    by_cases hb40 : b ≤ 40
    · rw [if_pos hb40, if_pos (show 0 ≤ b ∧ b ≤ 40 by grind), if_neg i10n]
      obtain ⟨n, rfl, hn⟩ := q_get (x := b) (n := 41) hb0 (by show b < 41; grind) (by decide)
      obtain ⟨u, hu, v1, v0, c1, c2, c3, c4, _⟩ := C_becG (s := 30) (d := 54) (by decide) F σ
      rw [bec_1, hu, bd1_some, pk_2, show (0 : Int32) = qN 0 from rfl, M_pkG (by decide) (by omega) τ0 (o := 0) (by omega) (by decide), bd1_some]
      generalize hpk : pkS τ0 33 0 = τ1 at *
      have hne : ∀ c, c ≠ 33 → τ1 c = τ0 c := fun c hc => by rw [← hpk]; exact pk_ne _ _ _ hc
      have T1 : Told σ τ1 := T.fr3 (fun _ _ => rfl) (fun c h1 h2 _ => hne c (by omega))
      have rd := R0.rd
      obtain ⟨d1, d2, d3, d4, d5⟩ := rd
      dsimp only at d1 d2 d3 d4 d5
      have nd : nD u = nD σ := by unfold nD; rw [v1 2 (by omega)]
      have ns : nS u = nS σ := by funext d; unfold nS; rw [v1 7 (by omega)]
      have hCR0 : CR σ τ1 u τ1 := by
        refine ⟨fun c h1 h2 => v1 c (by omega), fun _ _ _ _ _ _ => rfl, fun _ _ _ _ => rfl, ?_, ?_, fun d hd => ?_, fun d i hd hi => ?_⟩
        · rw [v0 0 (by decide)]; grind
        · rw [v0 0 (by decide), hne 0 (by decide)]; exact d2
        · rw [show (55 : Nat) = 54 + 1 from rfl, c1 d hd, show (56 : Nat) = 54 + 2 from rfl, c2 d hd, v0 0 (by decide), hne 18 (by decide), hne 0 (by decide)]; exact d3 d hd
        · rw [nd] at hd
          rw [ns] at hi
          have hS := (T.dd hd)
          rw [show (57 : Nat) = 54 + 3 from rfl, c3 _ (by omega), hne 13 (by decide)]; exact d4 d i hd hi
      unfold fX4_pass
      simp only [nm]
      have hk := century_both (F := F) (by omega) (σ := σ) (τ := τ1) (u := up (up u 87 3 a) 87 6 0) (w := up τ1 0 48 a) T1 (by rw [hne 0 (by decide)]; exact R0.2.2.2.2.1) hCR0.cell.cell.seed (by rw [up_same, upd_ne _ _ (by decide), up_same, upd_same, up_same, upd_same]) (by rw [up_same, upd_same]) (by rw [up_ne _ _ _ (by decide), up_ne _ _ _ (by decide), v0 0 (by decide)]; exact d1.2) n (by omega) c
      obtain ⟨z, x, hz, hx, z1, ⟨w', hw', hx2⟩, hx1⟩ := hk
      simp only [nm] at hz hx
      rw [show (qN 0 : Int32) = 0 from rfl]
      rw [hz, hx, bd1_some]
      have RR : Rl z x.2 := by
        have hun : ∀ j, j < 138 → rowM (unT w' 33 0) j = rowM τ0 j := fun j hj => by
          have h1 := un_at w' 0 (k := 33) (by decide) hj
          have h2 := pk_at τ0 0 (k := 33) (by decide) hj
          rw [hpk] at h2
          rw [Nat.zero_add] at h1 h2
          rw [h1, hw'.2.1 33 (by decide) (by decide) (by decide) (by decide) (by decide), h2]
        have hcz : ∀ c, (c ≠ 0 ∧ c ≠ 13 ∧ c ≠ 18 ∧ c ≠ 19 ∧ c ≠ 21 ∧ c ≠ 22 ∧ c ≠ 23 ∧ c ≠ 33) → x.2 c = τ0 c := fun c h => by
          rw [hx2, un_ne _ _ _ ⟨h.1, h.2.1, h.2.2.1, h.2.2.2.1⟩, hw'.2.1 c h.1 h.2.2.1 (by omega) (by omega) (by omega), hne c (by omega)]
        have h0z : ∀ j, (j ≠ 31 ∧ j ≠ 32 ∧ j ≠ 48) → x.2 0 j = τ0 0 j := fun j h => by
          rw [hx2, un_0 _ _ _ ⟨h.1, h.2.1⟩, hw'.2.2.1 j h.1 h.2.1 h.2.2, hne 0 (by decide)]
        have ndz : nD z = nD σ := by unfold nD; rw [z1 2 (by decide) (by decide)]
        have nsz : nS z = nS σ := by funext d; unfold nS; rw [z1 7 (by decide) (by decide)]
        have hS : ∀ d, d < nD σ → nS σ d ≤ 10 := fun d hd => (T.dd hd).2
        refine R0.now (fun c hc => z1 c (by omega) (by omega)) (fun c hc => hcz c (by simp [okN] at hc; omega)) (fun j hj => h0z j (by simp at hj; omega)) ?_
        have hN := R0.2.2.1
        unfold NowR at hN ⊢
        rw [ndz, nsz]
        refine StR.go T.2.2.2.2.1 hS hN ?_ (fun j hj => by rw [hx2]; exact hun j hj) (fun j _ => by rw [z1 35 (by decide) (by decide)]) (fun j _ => by rw [hcz 20 (by decide)]) (by rw [z1 30 (by decide) (by decide)]) (by rw [z1 30 (by decide) (by decide)]) (h0z 33 (by decide)) (h0z 34 (by decide)) (fun j _ => by rw [z1 36 (by decide) (by decide)]) (fun j _ => by rw [z1 37 (by decide) (by decide)]) (fun j _ => by rw [z1 38 (by decide) (by decide)]) (fun j _ => by rw [z1 39 (by decide) (by decide)]) (fun j _ => by rw [z1 40 (by decide) (by decide)]) (fun j _ => by rw [hcz 28 (by decide)]) (fun j _ => by rw [hcz 29 (by decide)]) (fun j _ => by rw [hcz 30 (by decide)]) (fun j _ => by rw [hcz 31 (by decide)]) (fun j _ => by rw [hcz 32 (by decide)]) (fun j _ => by rw [z1 41 (by decide) (by decide)]) (fun j _ => by rw [hcz 16 (by decide)])
        rw [z1 30 (by decide) (by decide), z1 31 (by decide) (by decide), z1 32 (by decide) (by decide), z1 33 (by decide) (by decide), z1 34 (by decide) (by decide)]
        exact qe.rfl
      have h4x : x.2 0 4 = 0 := by
        rw [hx2, un_0 _ _ _ (by decide), hw'.2.2.1 4 (by decide) (by decide) (by decide), hne 0 (by decide)]; exact h4
      by_cases c0 : c = 0
      · rw [if_pos c0] at hx1 ⊢
        exact ⟨_, _, _, rfl, .inl rfl, rfl, h4x, fun _ => hx1.symm, RR⟩
      · rw [if_neg c0] at hx1 ⊢
        by_cases c1 : c = 1
        · rw [if_pos c1] at hx1 ⊢
          exact ⟨_, _, _, rfl, .inl rfl, rfl, h4x, fun _ => hx1.symm, RR⟩
        · rw [if_neg c1] at hx1 ⊢
          exact ⟨_, _, _, rfl, .inl rfl, rfl, h4x, fun _ => hx1.symm, RR⟩
    · rw [if_neg hb40, if_neg (show ¬ (0 ≤ b ∧ b ≤ 40) by grind), if_pos rfl, M_fail, hJ]
      exact G2_no2 R0 rfl rfl CE.rfl ME4 up4
  · rw [if_neg hc, if_neg (by decide), if_neg (show ¬ (0 ≤ c ∧ c ≤ 2) by grind), if_pos rfl, M_fail]
    exact G2_no R0 rfl rfl CE.rfl ME4 up4
end
