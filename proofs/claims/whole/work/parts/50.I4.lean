set_option linter.unusedVariables false
set_option linter.unusedSimpArgs false
set_option maxRecDepth 16384
/-! the ball, all of it -/
def blC (F : Nat) (r6 : Int32) (u7 : St) : Option (Nat × Int32 × St) := if r6 = 0 then (nm (up u7 0 2 (u7 28 7)) fun u15 => nm (up u15 41 0 ((u15 41 0) + 1)) fun u16 => some (0, u16 28 6, u16)) else nm (up u7 0 2 ((-1))) fun u9 => bd1 (fX0_become F u9) fun u10 => bd1 (fX9_begin F u10) fun u11 => nm (up u11 0 3 0) fun u13 => some (0, 0, u13)
def blE (w : St × Int32) (r : Option (Int32 × St)) : Prop := w.1 0 25 ≠ 0 ∧ r = some (w.1 0 25, up (up w.1 0 27 (w.1 0 26)) 16 0 (w.1 16 0 + 1))
theorem DR.up0 {t : Nat → Int32} {n : Nat} {u w : St} {s j : Nat} {v : Int32} {b3 b4 : Bool} (h : DR t n u w s b3 b4) : DR t n (up u 0 j v) w s b3 b4 := by
  obtain ⟨⟨L, x, hL, hL0⟩, e3, e4, V, D, d⟩ := h
  refine ⟨⟨L, x.cg (up_ne _ _ _ (by decide)) (up_ne _ _ _ (by decide)) (up_ne _ _ _ (by decide)) (up_ne _ _ _ (by decide)) rfl rfl rfl rfl, hL, hL0⟩, by rw [up_ne _ _ _ (by decide)]; exact e3, by rw [up_ne _ _ _ (by decide)]; exact e4, V, D, ?_⟩
  exact d.cg (fun j _ => by rw [up_ne _ _ _ (by decide)]) (fun c _ _ => up_ne _ _ _ (by omega)) (fun _ _ _ => rfl) (fun _ _ _ => rfl)
section
variable {F : Nat}
theorem sm_ball (hF : 6000 ≤ F) : Sm_ball F Rl := by
  intro σ τ a0 R
  show G1 2 _ _
  unfold fX10_ball fX11_ball
  refine wnG1 fun τ0 h0 => ?_
  have R0 : Rl σ τ0 := by rw [h0]; exact R.fr CE.rfl ME4
  have h04 : τ0 0 4 = 0 := by rw [h0, up_same, upd_same]
  clear h0 R
  have hno : G1 2 (some (2, 0, σ)) (bd2 (fX11_fail F τ0 1) fun r6 u7 => some (r6, u7)) := ⟨(2, 0, σ), 0, up τ0 0 4 1, rfl, .inr rfl, rfl, by rw [up_same, upd_same]; rfl, fun h => absurd (show (2 : Nat) = 0 from h) (by decide), R0.fr CE.rfl ME4⟩
  refine lj fun J2 hJ2 => rj fun J4 hJ4 => ?_
  have hJ : G1 2 (J2 ()) (J4 ()) := by rw [hJ2, hJ4]; exact hno
  by_cases h1 : a0 < 0
  · exact lT h1 (rT h1 hJ)
  refine lF h1 (rF h1 ?_)
  rw [R0.1.2.2.1]
  by_cases h2' : ¬ a0 ≤ σ 0 1
  · exact lF h2' (rF h2' hJ)
  have h2 := Classical.not_not.1 h2'
  refine lT h2 (rT h2 ?_)
  clear hJ hJ2 hJ4 J2 J4
  obtain ⟨n, hn, hn7⟩ : ∃ n, a0 = qN n ∧ n ≤ 700 := by
    have h7 := R0.1.2.2.2.1.2
    obtain ⟨n, hn, hlt⟩ := q_get (x := a0) (n := 701) h1 (by show a0 < 701; grind) (by decide)
    exact ⟨n, hn, by omega⟩
  subst hn
  have hbt := R0.1.2.1
  obtain ⟨t, ht⟩ : ∃ t, σ 1 = t := ⟨_, rfl⟩
  rw [ht] at hbt
  obtain ⟨Q', hQ'⟩ : ∃ Q' : Option (Int32 × St) → Option (Int32 × St) → Prop, ∀ o o', Q' o o' = G1 2 (bd2 o (blC F)) o' := ⟨_, fun _ _ => rfl⟩
  refine ln fun σ1 hσ1 => ?_
  show G1 2 (bd2 (fX7_readText F σ1 (qN n)) (blC F)) _
  rw [← hQ']
  unfold fX7_readText
  -- the class's store before the first token
  refine ln fun p1 g1 => ln fun p2 g2 => ln fun p3 g3 => ln fun p4 g4 => ln fun p5 g5 => l1 (show fX0_empty F p5 = some _ from rfl) ?_
  obtain ⟨p, hp⟩ : ∃ p, p = up (up (up (up (up (up p5 15 0 0) 15 1 0) 15 2 12) 15 3 0) 15 4 0) 25 0 0 := ⟨_, rfl⟩
  rw [← hp]
  have hp28 : p 28 = p5 28 := by rw [hp, up_ne _ _ _ (by decide), up_ne _ _ _ (by decide), up_ne _ _ _ (by decide), up_ne _ _ _ (by decide), up_ne _ _ _ (by decide), up_ne _ _ _ (by decide)]
  have hp5 : p5 28 = upd (upd (upd (upd (upd (σ1 28) 1 1) 2 (if 700 < qN n then 700 else qN n)) 5 0) 6 0) 7 (-1) := by rw [g5, up_same, g4, up_same, g3, up_same, g2, up_same, g1, up_same]
  have hpo : ∀ c, c ≠ 15 → c ≠ 25 → c ≠ 28 → p c = σ1 c := fun c a b d => by
    rw [hp, up_ne _ _ _ b, up_ne _ _ _ a, up_ne _ _ _ a, up_ne _ _ _ a, up_ne _ _ _ a, up_ne _ _ _ a, g5, up_ne _ _ _ d, g4, up_ne _ _ _ d, g3, up_ne _ _ _ d, g2, up_ne _ _ _ d, g1, up_ne _ _ _ d]
  have hp15 : p 15 = upd (upd (upd (upd (upd (p5 15) 0 0) 1 0) 2 12) 3 0) 4 0 := by rw [hp, up_ne _ _ _ (by decide), up_same, up_same, up_same, up_same, up_same]
  have hp25 : p 25 0 = 0 := by rw [hp, up_same, upd_same]
  have hle : (if 700 < qN n then 700 else qN n) = qN n := by rw [if_neg (by rw [show (700 : Int32) = qN 700 from rfl, q_lt (by omega) (by omega)]; omega)]
  obtain ⟨u0, eu0, lu0, fu0, _⟩ := C_next (F := F) (by omega) hn7 (σ := p) (t := t) (n := n) (p := 0) (by rw [hp28, hp5]; rfl) (by rw [hp28, hp5, hle]; rfl) (by rw [hpo 1 (by decide) (by decide) (by decide), hσ1, up_ne _ _ _ (by decide)]; exact ht) (by omega) (by rw [hp28, hp5]; rfl)
  refine l1 eu0 ?_
  -- the reference's
  refine rn fun q1 k1 => rn fun q2 k2 => rn fun q3 k3 => rn fun q4 k4 => rn fun q5 k5 => ?_
  have hq0 : q5 0 = upd (upd (upd (upd (upd (τ0 0) 18 0) 20 (qN n)) 19 0) 25 0) 27 (-1) := by rw [k5, up_same, k4, up_same, k3, up_same, k2, up_same, k1, up_same]
  have hqo : ∀ c, c ≠ 0 → q5 c = τ0 c := fun c a => by rw [k5, up_ne _ _ _ a, k4, up_ne _ _ _ a, k3, up_ne _ _ _ a, k2, up_ne _ _ _ a, k1, up_ne _ _ _ a]
  refine lp_up (fun o' => Q' _ o') (fun i (v : St × Int32) => v.2 = qN i ∧ (∀ c, c ≠ 5 → v.1 c = q5 c) ∧ (∀ j, j < 4 → v.1 5 j = q5 5 j) ∧ (∀ j, j < i → v.1 5 (4 + j) = if j = 2 then 12 else 0)) 4 ?_ F 0 _ (by omega) (by omega) ⟨rfl, fun _ _ => rfl, fun _ _ => rfl, fun j h => absurd h (by omega)⟩
  rintro i ⟨v, c⟩ K hi ⟨hc, hE, hf, hx⟩ hK
  dsimp only at hc hE hf hx
  subst hc
  dsimp only
  by_cases hi4' : ¬ i = 4
  · refine rF (by rw [show (4 : Int32) = qN 4 from rfl, q_le (by omega) (by omega)]; omega) ?_
    have key : ∀ z : Int32, z = (if i = 2 then 12 else 0) → Q' (lp (fun (K14 : (St × Int32) → Option (Int32 × St)) (v13 : St × Int32) => if (700 : Int32) < v13.2 then (some (1, v13.1)) else if (v13.1 28 3) = 0 then (some (1, v13.1)) else bd2 (fX7_readLine F v13.1) fun r16 u17 => if r16 = 0 then (some (0, u17)) else bd2 (fX7_takeSign F u17 59) fun r18 u19 => if r18 = 0 then (some (0, u19)) else K14 ((u19, v13.2 + 1))) F ((u0, 0))) (ckI (4 + qN i) 8 (nm (up v 5 (Int32.toNatClampNeg (4 + qN i)) z) fun u34 => K ((u34, qN i + 1)))) := by
      intro z hz
      rw [show (4 : Int32) + qN i = qN (4 + i) from q_add 4 i, q_clamp (by omega)]
      refine rk (k := 4 + i) rfl (by omega) (by omega) (rn fun u34 e34 => hK _ (by omega) ⟨q_add i 1, fun c hc => ?_, fun j hj => ?_, fun j hj => ?_⟩)
      · dsimp only; rw [e34, up_ne _ _ _ hc]; exact hE c hc
      · dsimp only; rw [e34, up_same, upd_ne _ _ (by omega)]; exact hf j hj
      · dsimp only
        rw [e34, up_same]
        by_cases hji : j = i
        · subst hji; rw [upd_same]; exact hz
        · rw [upd_ne _ _ (by omega)]; exact hx j (by omega)
    by_cases hi2 : i = 2
    · exact rT (show qN i = 2 by rw [hi2]; rfl) (key 12 (by rw [if_pos hi2]))
    · exact rF (show ¬ qN i = 2 by rw [show (2 : Int32) = qN 2 from rfl, q_eq (by omega) (by omega)]; exact hi2) (key 0 (by rw [if_neg hi2]))
  have hi4 : i = 4 := Classical.not_not.1 hi4'
  clear hi4'
  subst hi4
  refine rT (by decide) ?_
  clear hK K
  have v0 : v 0 = q5 0 := hE 0 (by decide)
  obtain ⟨w0, ew0, lw0, fw0, fj0⟩ := M_step (F := F) (by omega) hn7 hbt (τ := v) (p := 0) (by rw [v0, hq0]; rfl) (by rw [hE 17 (by decide), hqo 17 (by decide), R0.1.1]; exact ht) (by omega) (by rw [v0, hq0]; rfl)
  refine r1 ew0 ?_
  have hsk := skp_le (t := t) hn7 (Nat.zero_le n)
  -- both stores at the first token
  have x15 : ∀ j, u0 15 j = p 15 j := fun j => by rw [fu0 15 (by decide)]
  have w5 : ∀ j, w0 5 j = v 5 j := fun j => by rw [fw0 5 (by decide)]
  have w025 : w0 0 25 = 0 := by rw [fj0 25 (by decide) (by decide) (by decide) (by decide) (by decide), v0, hq0]; rfl
  have DR0 : DR t n u0 w0 (skp t n 0) false false := by
    refine ⟨⟨0, ⟨⟨lu0, lw0, hsk.2.1, w025⟩, by rw [fu0 25 (by decide), hp25]; rfl, by rw [w5]; exact hx 3 (by decide), fun k hk => absurd hk (by omega), rfl⟩, by omega, fun _ => rfl⟩, by rw [x15, hp15]; rfl, by rw [x15, hp15]; rfl, 0, 0, by decide, by decide, by rw [x15, hp15]; rfl, by rw [w5]; exact hx 0 (by decide), by rw [x15, hp15]; rfl, by rw [w5]; exact hx 1 (by decide), ?_, ?_, fun v hv => absurd hv (by omega), fun d hd => absurd hd (by omega)⟩
    · rw [w5, x15, hp15]; exact hx 2 (by decide)
    · rw [x15, hp15, upd_ne _ _ (by decide), upd_ne _ _ (by decide), upd_same]; decide
  -- what must hold of any two stores behind them
  have fC : ∀ {u : St}, FD u0 u → u 0 = upd (σ 0) 1 0 ∧ (∀ c, c ≠ 0 → ¬ (15 ≤ c ∧ c ≤ 26) → c ≠ 28 → u c = σ c) := fun {u} f => by
    refine ⟨?_, fun c a b d => ?_⟩
    · rw [f 0 (by decide) (by decide), fu0 0 (by decide), hpo 0 (by decide) (by decide) (by decide), hσ1, up_same]
    · rw [f c b d, fu0 c d, hpo c (by omega) (by omega) d, hσ1, up_ne _ _ _ a]
  have fM : ∀ {w : St}, FDm w0 w → (∀ c j, c ≠ 0 → okD c j = true → w c j = τ0 c j) ∧ (∀ j, lJ j = false → j ≠ 18 → j ≠ 20 → j ≠ 27 → w 0 j = τ0 0 j) ∧ w 0 18 = 0 ∧ w 0 27 = -1 := fun {w} f => by
    refine ⟨fun c j a b => ?_, fun j a b d e => ?_, ?_, ?_⟩
    · rw [f c j b, fw0 c a]
      by_cases c5 : c = 5
      · subst c5
        rw [hf j (by simp [okD] at b; omega), hqo 5 (by decide)]
      · rw [hE c c5, hqo c a]
    · have a' := a
      simp [lJ] at a
      rw [f 0 j (by unfold okD; rw [if_pos rfl, a']; rfl), fj0 j (by omega) (by omega) (by omega) (by omega) (by omega), v0, hq0, upd_ne _ _ e, upd_ne _ _ (by omega), upd_ne _ _ (by omega), upd_ne _ _ d, upd_ne _ _ b]
    · rw [f 0 18 (by decide), fj0 18 (by decide) (by decide) (by decide) (by decide) (by decide), v0, hq0]; rfl
    · rw [f 0 27 (by decide), fj0 27 (by decide) (by decide) (by decide) (by decide) (by decide), v0, hq0]; rfl
  have hxx := R0.2.2.1.2.2.2
  -- a fault
  have fin_bad : ∀ {u w : St}, FD u0 u → FDm w0 w → BDp u w → Q' (some (0, u)) (some (w 0 25, up (up w 0 27 (w 0 26)) 16 0 (w 16 0 + 1))) := by
    intro u w fu fw hbd
    rw [hQ', bd2_some]
    unfold blC
    rw [if_pos rfl]
    simp only [nm]
    obtain ⟨c0, cc⟩ := fC fu
    obtain ⟨m1, m2, m3, m4⟩ := fM fw
    obtain ⟨f, s, hf5, b1, b2, b3, b4⟩ := hbd
    refine ⟨_, _, _, rfl, .inl rfl, rfl, ?_, fun _ => ?_, ?_⟩
    · rw [up_ne _ _ _ (by decide), up_same, upd_ne _ _ (by decide), m2 4 (by decide) (by decide) (by decide) (by decide), h04]; rfl
    · dsimp only
      rw [up_ne _ _ _ (by decide), up_ne _ _ _ (by decide), b1, b3]
    · dsimp only
      refine ball_bad R0 (fun c a b d e => ?_) ?_ ?_ (fun k hk => ?_) (fun c j a b d => ?_) (fun j hj => ?_) ?_ ?_
      · rw [up_ne _ _ _ e, up_ne _ _ _ a]; exact cc c a b d
      · rw [up_ne _ _ _ (by decide), up_same, upd_ne _ _ (by decide), c0, upd_same]
      · rw [up_ne _ _ _ (by decide), up_same, upd_ne _ _ (by decide), c0, upd_ne _ _ (by decide)]
      · have hk16 : ∀ k, w 16 k = τ0 16 k := fun k => m1 16 k (by decide) (by simp [okD])
        rw [up_same, up_same, up_ne _ _ _ (by decide), up_ne _ _ _ (by decide), cc 41 (by decide) (by decide) (by decide)]
        by_cases k0 : k = 0
        · subst k0; rw [upd_same, upd_same, hk16, hxx 0 (by decide)]
        · rw [upd_ne _ _ k0, upd_ne _ _ k0, hk16]; exact hxx k hk
      · rw [up_ne _ _ _ b, up_ne _ _ _ a]; exact m1 c j a d
      · rw [up_ne _ _ _ (by decide), up_same, upd_ne _ _ (by omega)]
        refine m2 j ?_ (by omega) (by omega) (by omega)
        rcases hj with rfl | rfl | rfl | rfl | rfl | rfl | rfl | rfl <;> rfl
      · rw [up_ne _ _ _ (by decide), up_same, upd_ne _ _ (by decide)]; exact m3
      · rw [up_ne _ _ _ (by decide), up_same, upd_same, up_ne _ _ _ (by decide), up_same, upd_same, b4, b2]
  refine lp2_bad Q' (fun k (v : St × Int32) (w : St × Int32) => v.2 = qN k ∧ ∃ s b3 b4, k ≤ s ∧ w.2 = dnI b3 b4 ∧ DR t n v.1 w.1 s b3 b4 ∧ FD u0 v.1 ∧ FDm w0 w.1) blE 701 ?_ ?_ F F 0 _ _ (by omega) (by omega) (by omega) ⟨rfl, skp t n 0, false, false, by omega, rfl, DR0, FD.rfl, FDm.rfl⟩
  · rintro K' ⟨w, c⟩ r ⟨hb, rfl⟩
    dsimp only at hb ⊢
    simp only [jn, nm]
    rw [if_neg hb, if_neg hb, up_ne _ _ _ (show (16 : Nat) ≠ 0 by decide)]
    congr 2
  · rintro k ⟨u, c⟩ ⟨w, d⟩ K K' hk ⟨hc, s, b3, b4, hks, hd, hDR, fu, fw⟩ hK hKb
    dsimp only at hc hd hDR fu fw
    subst hc hd
    dsimp only
    have hP := hDR.pl
    have hs := hP.2.2.1
    have hk6 := kd_lt (t := t) (n := n) s
    have hCk : (u 28 3 = 0) ↔ kdA t n s = 0 := by rw [hP.1.2.2.2.1, show (0 : Int32) = qN 0 from rfl, q_eq (by omega) (by omega)]
    have hMk : (w 0 21 = 0) ↔ kdA t n s = 0 := by rw [hP.2.1.2.2.1]; exact (mkT_1 hk6).2.2.2
    refine lF (show ¬ (700 : Int32) < qN k by rw [show (700 : Int32) = qN 700 from rfl, q_lt (by omega) (by omega)]; omega) (rj fun J26 hJ26 => rT hP.2.2.2 ?_)
    by_cases hk0 : kdA t n s = 0
    · refine lT (hCk.2 hk0) (rT (hMk.2 hk0) ?_)
      rw [hJ26]
      obtain ⟨y, ey, hto⟩ := M_take (F := F) (by omega) w
      refine rT hP.2.2.2 (r1 ey ?_)
      rw [hQ', bd2_some]
      unfold blC
      rw [if_neg i10n]
      simp only [nm]
      have hD2 : DR t n (up u 0 2 (-1)) w s b3 b4 := hDR.up0
      obtain ⟨x, ex, hbc⟩ := C_become (F := F) (by omega) hD2.2.1 hD2.2.2.1
      obtain ⟨c0, cc⟩ := fC fu
      obtain ⟨m1, m2, m3, m4⟩ := fM fw
      have ex2 : (bd1 (fX0_become F (up u 0 2 (-1))) fun u10 => bd1 (fX9_begin F u10) fun u11 => (some (0, 0, up u11 0 3 0) : Option (Nat × Int32 × St))) = some (0, 0, up x 0 3 0) := by
        cases hq : fX0_become F (up u 0 2 (-1)) with
        | none => rw [hq] at ex; cases ex
        | some z => rw [hq, bd1_some] at ex; rw [bd1_some, ex, bd1_some]
      refine ⟨_, _, _, ex2, .inl rfl, rfl, ?_, fun _ => rfl, ?_⟩
      · rw [hto.2.2.2.2.1 4 (by decide) (by decide) (by decide) (by decide) (by decide), m2 4 (by decide) (by decide) (by decide) (by decide), h04]; rfl
      · refine ball_ok hn7 hbt hD2 hbc hto ?_ ?_ m3 m4 (fun k hk => ?_) ?_ (fun k hk => ?_) (fun a ha => ?_)
        · rw [up_same, upd_ne _ _ (by decide), c0, upd_same]
        · rw [up_same, upd_same]
        · rw [m1 16 k (by decide) (by simp [okD]), up_ne _ _ _ (by decide), cc 41 (by decide) (by decide) (by decide)]; exact hxx k hk
        · rw [m2 38 (by decide) (by decide) (by decide) (by decide)]; exact R0.2.2.2.2.1
        · rw [m1 27 k (by decide) (by simp [okD])]; exact R0.2.2.2.2.2 k hk
        · rw [m1 3 a (by decide) (by simp [okD]), m1 4 a (by decide) (by simp [okD])]; exact R0.2.1.2.2.2.2.2.2.2.2.2.2.2.2 a ha
    · obtain ⟨y, z, e1, fy, hor⟩ := P_lineS (F := F) (by omega) hn7 hbt hDR hk0
      refine lF (fun hh => hk0 (hCk.1 hh)) (rF (fun hh => hk0 (hMk.1 hh)) (r2 e1 ?_))
      rcases hor with ⟨u1, u2, s', b3', b4', a1, a2, a3, a4, a5, a6⟩ | ⟨u1, a1, a2, a3⟩ | ⟨u1, u2, a1, a2, a3, a4⟩
      · refine l2 a1 (lF i10n (l2 a2 (lF i10n ?_)))
        exact hK _ _ (by omega) ⟨q_add k 1, s', b3', b4', by omega, a6, a5, fu.trans a3, fw.trans fy⟩
      · refine l2 a1 (lT rfl ?_)
        rw [hKb (y, z) _ (by omega) ⟨a3.bad, rfl⟩]
        exact fin_bad (fu.trans a2) (fw.trans fy) a3
      · refine l2 a1 (lF i10n (l2 a2 (lT rfl ?_)))
        rw [hKb (y, z) _ (by omega) ⟨a4.bad, rfl⟩]
        exact fin_bad (fu.trans a3) (fw.trans fy) a4
end
