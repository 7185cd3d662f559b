set_option linter.unusedVariables false
set_option linter.unusedSimpArgs false
set_option maxRecDepth 16384
/-! the ball -/
theorem Told.pt {σ τ x y : St} (h : Told σ τ) (hx : ∀ c, 2 ≤ c → c ≤ 13 → x c = σ c) (hy : ∀ c j, 3 ≤ c → c ≤ 15 → okD c j = true → y c j = τ c j) : Told x y := by
  have eV : nV x = nV σ := by unfold nV; rw [hx 2 (by decide) (by decide)]
  have eD : nD x = nD σ := by unfold nD; rw [hx 2 (by decide) (by decide)]
  have eS : ∀ d, nS x d = nS σ d := fun d => by unfold nS; rw [hx 7 (by decide) (by decide)]
  obtain ⟨h1, h2, h3, h4, h5, h6, h7, h8, h9, h10, h11, h12, h13⟩ := h
  unfold Told
  rw [eV, eD, hx 2 (by decide) (by decide), hx 3 (by decide) (by decide)]
  refine ⟨h1, h2, by rw [hy 5 0 (by decide) (by decide) (by decide)]; exact h3, h4, h5, by rw [hy 5 1 (by decide) (by decide) (by decide)]; exact h6, by rw [hy 5 2 (by decide) (by decide) (by decide)]; exact h7, h8, fun v hv => ?_, fun d hd => ?_, fun d i hd hi => ?_, ?_, ?_⟩
  · rw [hy 6 v (by decide) (by decide) (by simp [okD]; omega)]; exact h9 v hv
  · have := h10 d hd
    unfold TDn at this ⊢
    rw [eV, eS, hx 4 (by decide) (by decide), hx 5 (by decide) (by decide), hx 6 (by decide) (by decide), hx 7 (by decide) (by decide), hy 7 d (by decide) (by decide) (by simp [okD]; omega), hy 8 d (by decide) (by decide) (by simp [okD]; omega), hy 9 d (by decide) (by decide) (by simp [okD]; omega), hy 10 d (by decide) (by decide) (by simp [okD]; omega)]
    exact this
  · rw [eS] at hi
    have hi10 := (h10 d hd).2.2.2.2.2.2.2.2.2
    have := h11 d i hd hi
    unfold TSt at this ⊢
    rw [hx 8 (by decide) (by decide), hx 9 (by decide) (by decide), hx 11 (by decide) (by decide), hy 11 _ (by decide) (by decide) (by simp [okD]; omega), hy 12 _ (by decide) (by decide) (by simp [okD]; omega), hy 14 _ (by decide) (by decide) (by simp [okD]; omega)]
    exact this
  · unfold LimR at h12 ⊢
    rw [hx 2 (by decide) (by decide), hx 12 (by decide) (by decide), hx 13 (by decide) (by decide), hy 5 3 (by decide) (by decide) (by decide)]
    rcases h12 with h12 | ⟨g1, L, g2, g3, g4, g5, g6, g7⟩
    · exact .inl h12
    · exact .inr ⟨g1, L, g2, g3, g4, g5, fun k hk => by rw [hy 15 k (by decide) (by decide) (by simp [okD]; omega)]; exact g6 k hk, g7⟩
  · intro a ha
    rw [hy 3 a (by decide) (by decide) (by simp [okD]), hy 4 a (by decide) (by decide) (by simp [okD])]; exact h13 a ha
theorem ball_bad {σ τ x y : St} (R : Rl σ τ) (hx : ∀ c, c ≠ 0 → ¬ (15 ≤ c ∧ c ≤ 26) → c ≠ 28 → c ≠ 41 → x c = σ c) (x01 : x 0 1 = 0) (x03 : x 0 3 = σ 0 3) (x41 : ∀ k, k < 3 → y 16 k = x 41 k) (hy : ∀ c j, c ≠ 0 → c ≠ 16 → okD c j = true → y c j = τ c j) (hy0 : ∀ j, j = 31 ∨ j = 32 ∨ j = 33 ∨ j = 34 ∨ j = 38 ∨ j = 50 ∨ j = 51 ∨ j = 52 → y 0 j = τ 0 j) (y18 : y 0 18 = 0) (y27 : y 0 27 = x 0 2) : Rl x y := by
  obtain ⟨r1', r2', r3', r4', r5', r6'⟩ := R
  have hc : ∀ c, 17 ≤ c → y c = τ c := fun c h => funext fun j => hy c j (by omega) (by omega) (by unfold okD; rw [if_neg (by omega), if_neg (by omega), if_neg (by omega), if_neg (by omega), if_neg (by omega), if_neg (by omega), if_neg (by omega)])
  have hD := r2'.2.2.2.2.1
  have hS : ∀ d, d < nD σ → nS σ d ≤ 10 := fun d hd => (r2'.dd hd).2
  have eD : nD x = nD σ := by unfold nD; rw [hx 2 (by decide) (by decide) (by decide) (by decide)]
  have eS : nS x = nS σ := funext fun d => by unfold nS; rw [hx 7 (by decide) (by decide) (by decide) (by decide)]
  refine ⟨?_, r2'.pt (fun c _ _ => hx c (by omega) (by omega) (by omega) (by omega)) (fun c j _ _ h => hy c j (by omega) (by omega) h), ?_, ?_, ?_, ?_⟩
  · refine ⟨?_, ?_, ?_, ?_, y27⟩
    · rw [hc 17 (by decide), hx 1 (by decide) (by decide) (by decide) (by decide)]; exact r1'.1
    · rw [hx 1 (by decide) (by decide) (by decide) (by decide)]; exact r1'.2.1
    · rw [y18, x01]
    · rw [x01]; decide
  · unfold NowR at r3' ⊢
    obtain ⟨a1, a2, a3, a4⟩ := r3'
    rw [eD, eS, hx 30 (by decide) (by decide) (by decide) (by decide), hx 31 (by decide) (by decide) (by decide) (by decide), hx 32 (by decide) (by decide) (by decide) (by decide), hx 33 (by decide) (by decide) (by decide) (by decide), hx 34 (by decide) (by decide) (by decide) (by decide), hx 35 (by decide) (by decide) (by decide) (by decide), hx 36 (by decide) (by decide) (by decide) (by decide), hx 37 (by decide) (by decide) (by decide) (by decide), hx 38 (by decide) (by decide) (by decide) (by decide), hx 39 (by decide) (by decide) (by decide) (by decide), hx 40 (by decide) (by decide) (by decide) (by decide), hc 20 (by decide), hc 28 (by decide), hc 29 (by decide), hc 30 (by decide), hc 31 (by decide), hc 32 (by decide), hy0 33 (by decide), hy0 34 (by decide)]
    refine ⟨RowR.go hD hS a1 qe.rfl fun j hj => ?_, a2, a3, x41⟩
    unfold rowM
    rw [hy0 31 (by decide), hy0 32 (by decide), hc 18 (by decide), hc 19 (by decide)]
    by_cases c0 : j = 0
    · rw [if_pos c0, if_pos c0]
    · rw [if_neg c0, if_neg c0]
      by_cases c1 : j = 1
      · rw [if_pos c1, if_pos c1]
      · rw [if_neg c1, if_neg c1]
        by_cases c2 : j < 10
        · rw [if_pos c2, if_pos c2]
        · rw [if_neg c2, if_neg c2]
          by_cases c3 : j < 90
          · rw [if_pos c3, if_pos c3, hy 13 _ (by decide) (by decide) (by simp [okD]; omega)]
          · rw [if_neg c3, if_neg c3]
  · rw [x03, hy0 50 (by decide)]
    rcases r4' with r4' | ⟨b1, b2, b3⟩
    · exact .inl r4'
    · refine .inr ⟨b1, b2, ?_⟩
      unfold ImgR at b3 ⊢
      rw [eD, eS, hx 42 (by decide) (by decide) (by decide) (by decide), hx 43 (by decide) (by decide) (by decide) (by decide), hx 44 (by decide) (by decide) (by decide) (by decide), hx 45 (by decide) (by decide) (by decide) (by decide), hx 46 (by decide) (by decide) (by decide) (by decide), hx 47 (by decide) (by decide) (by decide) (by decide), hx 48 (by decide) (by decide) (by decide) (by decide), hx 49 (by decide) (by decide) (by decide) (by decide), hx 50 (by decide) (by decide) (by decide) (by decide), hx 51 (by decide) (by decide) (by decide) (by decide), hx 52 (by decide) (by decide) (by decide) (by decide), hx 53 (by decide) (by decide) (by decide) (by decide), hc 34 (by decide), hc 35 (by decide), hc 36 (by decide), hc 37 (by decide), hc 38 (by decide), hc 39 (by decide), hc 40 (by decide), hc 41 (by decide), hy0 51 (by decide), hy0 52 (by decide)]
      exact b3
  · rw [hy0 38 (by decide)]; exact r5'
  · rw [hc 27 (by decide)]; exact r6'
theorem ball_ok {t : Nat → Int32} {n : Nat} (hn : n ≤ 700) (hb : ∀ k, 0 ≤ t k ∧ t k ≤ 255) {u w x y : St} {s : Nat} {b3 b4 : Bool} (h : DR t n u w s b3 b4) (bc : BC u x) (to : TO w y) (u01 : u 0 1 = 0) (u02 : u 0 2 = -1) (w18 : w 0 18 = 0) (w27 : w 0 27 = -1) (wu : ∀ k, k < 3 → w 16 k = u 41 k) (w38 : w 0 38 = 0) (w27' : ∀ k, k < 8 → w 27 k = 0) (dxy : DXY w) : Rl (up x 0 3 0) y := by
  have hP := h.pl
  obtain ⟨⟨L, xr, hL, hL0⟩, e3, e4, V, D, hV, hD, c0, m4, c1, m5, m6, hfl, hkn, hdn⟩ := h
  obtain ⟨_, x25, w57, hrel, hHt⟩ := xr
  obtain ⟨g2, g3, g4, g8, g12, g13, g30, g31, g32, g33, g34, g0, gc⟩ := bc
  obtain ⟨t1, t18, t19, ⟨t31, t32, t33, t34, t50⟩, t0, tc⟩ := to
  have X : ∀ c, c ≠ 0 → up x 0 3 0 c = x c := fun c hc => up_ne _ _ _ hc
  have y5 : ∀ j, j < 4 → y 5 j = w 5 (4 + j) := fun j hj => t1 5 j (by decide) (by decide) hj
  have y7 : ∀ c d, 7 ≤ c → c ≤ 10 → d < 8 → y c d = w c (8 + d) := fun c d h1 h2 hd => by
    have : hfD c = 8 := by unfold hfD; rw [if_neg (by omega), if_neg (by omega), if_pos (by omega)]
    have h3 := t1 c d (by omega) (by omega) (by omega)
    rw [this] at h3; exact h3
  have y11 : ∀ c p, 11 ≤ c → c ≤ 14 → p < 80 → y c p = w c (80 + p) := fun c d h1 h2 hd => by
    have : hfD c = 80 := by unfold hfD; rw [if_neg (by omega), if_neg (by omega), if_neg (by omega), if_pos (by omega)]
    have h3 := t1 c d (by omega) (by omega) (by omega)
    rw [this] at h3; exact h3
  have x20 : up x 0 3 0 2 0 = qN V := by rw [X 2 (by decide), g2 0 (by decide)]; exact c0
  have x21 : up x 0 3 0 2 1 = qN D := by rw [X 2 (by decide), g2 1 (by decide)]; exact c1
  have x22 : up x 0 3 0 2 2 = u 15 2 := by rw [X 2 (by decide), g2 2 (by decide)]
  have eV : nV (up x 0 3 0) = V := by unfold nV; rw [x20, q_clamp (by omega)]
  have eD : nD (up x 0 3 0) = D := by unfold nD; rw [x21, q_clamp (by omega)]
  have x7 : ∀ d, d < 8 → up x 0 3 0 7 d = u 20 d := fun d hd => by rw [X 7 (by decide), g4 7 d (by decide) (by decide) hd]
  have eS : ∀ d, d < D → ∃ S, S ≤ 10 ∧ u 20 d = qN S ∧ nS (up x 0 3 0) d = S ∧ ∀ i, i < S → DS u w (10 * d + i) := fun d hd => by
    obtain ⟨_, _, _, _, _, _, _, _, S, s1, s2, s3⟩ := hdn d hd
    refine ⟨S, s1, s2, ?_, s3⟩
    unfold nS; rw [x7 d (by omega), s2, q_clamp (by omega)]
  have toldX : Told (up x 0 3 0) y := by
    unfold Told
    rw [eV, eD, x20, x21, x22]
    refine ⟨rfl, hV, by rw [y5 0 (by decide)]; exact m4, rfl, hD, by rw [y5 1 (by decide)]; exact m5, by rw [y5 2 (by decide)]; exact m6, hfl, fun v hv => ?_, fun d hd => ?_, fun d i hd hi => ?_, ?_, ?_⟩
    · rw [X 3 (by decide), g3 v (by omega), t1 6 v (by decide) (by decide) (by show v < 6; omega)]; exact hkn v hv
    · obtain ⟨S, s1, s2, s3, _⟩ := eS d hd
      obtain ⟨a1, a2, a3, a4, a5, a6, a7, a8, _⟩ := hdn d hd
      unfold TDn
      rw [eV, s3, x7 d (by omega), X 4 (by decide), X 5 (by decide), X 6 (by decide), g4 4 d (by decide) (by decide) (by omega), g4 5 d (by decide) (by decide) (by omega), g4 6 d (by decide) (by decide) (by omega), y7 7 d (by decide) (by decide) (by omega), y7 8 d (by decide) (by decide) (by omega), y7 9 d (by decide) (by decide) (by omega), y7 10 d (by decide) (by decide) (by omega)]
      exact ⟨a1, a2, a3, a4, a5, a6, a7, a8, s2, s1⟩
    · obtain ⟨S, s1, s2, s3, s4⟩ := eS d hd
      rw [s3] at hi
      obtain ⟨q1, q2, q3, q4, q5, q6, q7, q8⟩ := s4 i hi
      unfold TSt
      rw [X 8 (by decide), X 9 (by decide), X 11 (by decide), g8 8 _ (by decide) (by decide) (by omega), g8 9 _ (by decide) (by decide) (by omega), g8 11 _ (by decide) (by decide) (by omega), y11 11 _ (by decide) (by decide) (by omega), y11 12 _ (by decide) (by decide) (by omega), y11 14 _ (by decide) (by decide) (by omega)]
      exact ⟨q1, q2, q4, q5, q6, q8⟩
    · unfold LimR
      rw [X 2 (by decide), g2 4 (by decide), e4, y5 3 (by decide), show w 5 (4 + 3) = qN L from w57]
      cases b4 with
      | false => exact .inl ⟨rfl, by rw [hL0 rfl]; rfl⟩
      | true =>
        have hs := hP.2.2.1
        refine .inr ⟨rfl, L, ?_, by omega, by rw [X 12 (by decide), g12]; exact x25, rfl, fun k hk => ?_, ?_⟩
        · cases L with
          | zero => cases hHt
          | succ L => omega
        · rw [X 13 (by decide), g13 k (by omega), t1 15 k (by decide) (by decide) (by show k < 700; omega)]; exact hrel k hk
        · rw [X 13 (by decide), Ht_cg (c' := u 26) L (fun k hk => g13 k (by omega))]; exact hHt
    · intro a ha
      rw [tc 3 (by decide) (by decide) (by decide) (by decide), tc 4 (by decide) (by decide) (by decide) (by decide)]; exact dxy a ha
  refine ⟨⟨?_, ?_, ?_, ?_, ?_⟩, toldX, ?_, .inl ⟨?_, t50⟩, ?_, ?_⟩
  · rw [tc 17 (by decide) (by decide) (by decide) (by decide), X 1 (by decide), gc 1 (by omega), hP.2.1.2.1, hP.1.2.2.1]
  · rw [X 1 (by decide), gc 1 (by omega), hP.1.2.2.1]; exact hb
  · rw [t0 18 (by decide) (by decide) (by decide) (by decide) (by decide), w18, up_same, upd_ne _ _ (by decide), g0, u01]
  · rw [up_same, upd_ne _ _ (by decide), g0, u01]; decide
  · rw [t0 27 (by decide) (by decide) (by decide) (by decide) (by decide), w27, up_same, upd_ne _ _ (by decide), g0, u02]
  · unfold NowR
    rw [eD]
    refine ⟨?_, ⟨0, by decide, by rw [X 30 (by decide)]; exact g30 1 (by decide), t33, trivial⟩, ⟨0, by decide, by rw [X 30 (by decide)]; exact g30 2 (by decide), t34, fun k hk => absurd hk (by omega)⟩, fun k hk => ?_⟩
    · have x30 : up x 0 3 0 30 0 = 0 := by rw [X 30 (by decide)]; exact g30 0 (by decide)
      refine (RowD.iff hD (fun d hd => by obtain ⟨S, s1, s2, s3, _⟩ := eS d hd; rw [s3]; exact s1)).2 ?_
      refine ⟨?_, ?_, fun d hd => ?_, fun d i hd hi => ?_, fun k hk => ?_⟩
      · dsimp only; rw [x30]; decide
      · dsimp only; rw [x30]; exact t31
      · dsimp only
        rw [x30, X 31 (by decide), X 32 (by decide), g31 d hd, g32 d hd, t18 d hd, t32, bt_zero]
        exact ⟨rfl, by decide, rfl⟩
      · dsimp only
        obtain ⟨S, s1, s2, s3, s4⟩ := eS d hd
        rw [s3] at hi
        obtain ⟨q1, q2, q3, q4, q5, q6, q7, q8⟩ := s4 i hi
        rw [X 33 (by decide), g33 _ (by omega), y11 13 _ (by decide) (by decide) (by omega)]
        exact ⟨q3, q7.1, q7.2⟩
      · dsimp only
        rw [X 34 (by decide), g34 k hk, t19 k hk]
        exact ⟨rfl, by decide, by decide⟩
    · rw [tc 16 (by decide) (by decide) (by decide) (by decide), X 41 (by decide), gc 41 (by omega)]; exact wu k hk
  · rw [up_same, upd_same]
  · rw [t0 38 (by decide) (by decide) (by decide) (by decide) (by decide)]; exact w38
  · intro k hk
    rw [tc 27 (by decide) (by decide) (by decide) (by decide)]; exact w27' k hk
