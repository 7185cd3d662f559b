set_option linter.unusedVariables false
set_option linter.unusedSimpArgs false
set_option maxRecDepth 16384
/-! calls that change what is now -/
def okN (c : Nat) : Bool := !([0, 13, 16, 18, 19, 20, 21, 22, 23, 24, 25, 26, 28, 29, 30, 31, 32, 33].contains c)
theorem Rl.now {σ τ σ' τ' : St} (R : Rl σ τ) (hc : ∀ x, (x < 30 ∧ x ≠ 14) ∨ (42 ≤ x ∧ x < 54) → σ' x = σ x) (hm : ∀ c, okN c = true → τ' c = τ c) (hm0 : ∀ j, ([4, 31, 32, 33, 34, 48].contains j) = false → τ' 0 j = τ 0 j) (hN : NowR σ' τ') : Rl σ' τ' := by
  have nd : nD σ' = nD σ := by unfold nD; rw [hc 2 (by omega)]
  have ns : nS σ' = nS σ := by funext d; unfold nS; rw [hc 7 (by omega)]
  obtain ⟨r1, r2, r3, r4, r5⟩ := R
  refine ⟨?_, ?_, hN, ?_, ?_⟩
  · unfold TapR at r1 ⊢
    rw [hc 0 (by omega), hc 1 (by omega), hm 17 rfl, hm0 18 rfl, hm0 27 rfl]
    exact r1
  · simp only [Told, TDn, TSt, LimR, DXY, nV, nD, nS] at r2 ⊢
    rw [hc 2 (by omega), hc 3 (by omega), hc 4 (by omega), hc 5 (by omega), hc 6 (by omega), hc 7 (by omega), hc 8 (by omega), hc 9 (by omega), hc 11 (by omega), hc 12 (by omega), hc 13 (by omega), hm 3 rfl, hm 4 rfl, hm 5 rfl, hm 6 rfl, hm 7 rfl, hm 8 rfl, hm 9 rfl, hm 10 rfl, hm 11 rfl, hm 12 rfl, hm 14 rfl, hm 15 rfl]
    exact r2
  · unfold ImgR
    rw [nd, ns]
    unfold ImgR at r4
    rw [hc 0 (by omega), hc 42 (by omega), hc 43 (by omega), hc 44 (by omega), hc 45 (by omega), hc 46 (by omega), hc 47 (by omega), hc 48 (by omega), hc 49 (by omega), hc 50 (by omega), hc 51 (by omega), hc 52 (by omega), hc 53 (by omega), hm 34 rfl, hm 35 rfl, hm 36 rfl, hm 37 rfl, hm 38 rfl, hm 39 rfl, hm 40 rfl, hm 41 rfl, hm0 50 rfl, hm0 51 rfl, hm0 52 rfl]
    exact r4
  · rw [hm0 38 rfl, hm 27 rfl]; exact r5
def RowD (D : Nat) (S : Nat → Nat) (q : Q5) (τ : St) : Prop := (0 ≤ q.1 ∧ q.1 ≤ 999) ∧ τ 0 31 = q.1 ∧ (∀ d, d < 8 → τ 18 d = q.2.1 d ∧ (0 ≤ q.2.1 d ∧ q.2.1 d ≤ q.1) ∧ q.2.2.1 d = bI (bt (τ 0 32) d)) ∧ (∀ d i, d < D → i < S d → τ 13 (10 * d + i) = q.2.2.2.1 (10 * d + i) ∧ 0 ≤ q.2.2.2.1 (10 * d + i) ∧ q.2.2.2.1 (10 * d + i) ≤ 9) ∧ (∀ k, k < 48 → τ 19 k = q.2.2.2.2 k ∧ 0 ≤ q.2.2.2.2 k ∧ q.2.2.2.2 k ≤ 9999)
theorem rowM_2 (τ : St) {d : Nat} (h : d < 8) : rowM τ (2 + d) = τ 18 d := by
  unfold rowM
  rw [if_neg (by omega), if_neg (by omega), if_pos (by omega), show 2 + d - 2 = d by omega]
theorem rowM_10 (τ : St) {p : Nat} (h : p < 80) : rowM τ (10 + p) = τ 13 p := by
  unfold rowM
  rw [if_neg (by omega), if_neg (by omega), if_neg (by omega), if_pos (by omega), show 10 + p - 10 = p by omega]
theorem rowM_90 (τ : St) (p : Nat) : rowM τ (90 + p) = τ 19 p := by
  unfold rowM
  rw [if_neg (by omega), if_neg (by omega), if_neg (by omega), if_neg (by omega), show 90 + p - 90 = p by omega]
theorem RowD.iff {D : Nat} {S : Nat → Nat} {q : Q5} {τ : St} (hD : D ≤ 8) (hS : ∀ d, d < D → S d ≤ 10) : RowR D S q (rowM τ) ↔ RowD D S q τ := by
  constructor
  · rintro ⟨h1, h2, h3, h4, h5⟩
    refine ⟨h1, h2, fun d hd => ?_, fun d i hd hi => ?_, fun k hk => ?_⟩
    · have := h3 d hd; rw [rowM_2 _ hd] at this; exact this
    · have := h4 d i hd hi; rw [rowM_10 _ (by have := hS d hd; omega)] at this; exact this
    · have := h5 k hk; rw [rowM_90] at this; exact this
  · rintro ⟨h1, h2, h3, h4, h5⟩
    refine ⟨h1, h2, fun d hd => ?_, fun d i hd hi => ?_, fun k hk => ?_⟩
    · rw [rowM_2 _ hd]; exact h3 d hd
    · rw [rowM_10 _ (by have := hS d hd; omega)]; exact h4 d i hd hi
    · rw [rowM_90]; exact h5 k hk
theorem Rl.rd {σ τ : St} (R : Rl σ τ) : RowD (nD σ) (nS σ) (σ 30 0, σ 31, σ 32, σ 33, σ 34) τ := (RowD.iff R.2.1.2.2.2.2.1 (fun d hd => (R.2.1.dd hd).2)).1 R.2.2.1.1
def G0 (fc fm : Option (Int32 × St)) : Prop := ∃ (r : Int32) (σ' τ' : St), fc = some (r, σ') ∧ fm = some (r, τ') ∧ Rl σ' τ'
theorem wnG0 {fc : Option (Int32 × St)} {x : St} {f : St → Option (Int32 × St)} (h : ∀ y, y = x → G0 fc (f y)) : G0 fc (nm x f) := h x rfl
theorem wnG1 {c : Nat} {fc : Option (Nat × Int32 × St)} {x : St} {f : St → Option (Int32 × St)} (h : ∀ y, y = x → G1 c fc (f y)) : G1 c fc (nm x f) := h x rfl
theorem wnG2 {fc : Option (Nat × Int32 × St)} {x : St} {f : St → Option (Int32 × St)} (h : ∀ y, y = x → G2 fc (f y)) : G2 fc (nm x f) := h x rfl
section
variable {F : Nat}
theorem C_refuse {σ : St} {k : Nat} (hk : k < 3) : fX10_refuse F σ (qN k) = some (-1, up σ 41 k (σ 41 k + 1)) := by
  unfold fX10_refuse
  rw [ck_ok hk (by omega), ck_ok hk (by omega), q_clamp (by omega)]; rfl
theorem M_refuse {σ : St} {k : Nat} (hk : k < 3) : fX11_refuse F σ (qN k) = some (-1, up σ 16 k (σ 16 k + 1)) := by
  unfold fX11_refuse
  rw [ck_ok hk (by omega), ck_ok hk (by omega), q_clamp (by omega)]; rfl
theorem Rl.rf {σ τ : St} (R : Rl σ τ) {k : Nat} (hk : k < 3) : Rl (up σ 41 k (σ 41 k + 1)) (up τ 16 k (τ 16 k + 1)) := by
  refine R.now (fun x hx => up_ne _ _ _ (by omega)) (fun c hc => up_ne _ _ _ (by intro h; subst h; exact absurd hc (by decide))) (fun j hj => by rw [up_ne _ _ _ (by decide)]) ?_
  have h := R.2.2.1
  have hr : rowM (up τ 16 k (τ 16 k + 1)) = rowM τ := by
    funext j; unfold rowM; rw [up_ne _ _ _ (by decide), up_ne _ _ _ (by decide), up_ne _ _ _ (by decide), up_ne _ _ _ (by decide)]
  have nd : nD (up σ 41 k (σ 41 k + 1)) = nD σ := by unfold nD; rw [up_ne _ _ _ (by decide)]
  have ns : nS (up σ 41 k (σ 41 k + 1)) = nS σ := by funext d; unfold nS; rw [up_ne _ _ _ (by decide)]
  unfold NowR at h ⊢
  rw [hr, nd, ns]
  simp only [up_ne _ _ _ (show 30 ≠ 41 by decide), up_ne _ _ _ (show 31 ≠ 41 by decide), up_ne _ _ _ (show 32 ≠ 41 by decide), up_ne _ _ _ (show 33 ≠ 41 by decide), up_ne _ _ _ (show 34 ≠ 41 by decide), up_ne _ _ _ (show 35 ≠ 41 by decide), up_ne _ _ _ (show 36 ≠ 41 by decide), up_ne _ _ _ (show 37 ≠ 41 by decide), up_ne _ _ _ (show 38 ≠ 41 by decide), up_ne _ _ _ (show 39 ≠ 41 by decide), up_ne _ _ _ (show 40 ≠ 41 by decide), up_ne _ _ _ (show 0 ≠ 16 by decide), up_ne _ _ _ (show 20 ≠ 16 by decide), up_ne _ _ _ (show 28 ≠ 16 by decide), up_ne _ _ _ (show 29 ≠ 16 by decide), up_ne _ _ _ (show 30 ≠ 16 by decide), up_ne _ _ _ (show 31 ≠ 16 by decide), up_ne _ _ _ (show 32 ≠ 16 by decide), up_same]
  obtain ⟨n1, n2, n3, n4⟩ := h
  refine ⟨n1, n2, n3, fun j hj => upd_c (n4 j hj) ?_⟩
  rw [n4 k hk]
theorem i10n : ¬ (1 : Int32) = 0 := by decide
theorem sm_years (hF : 6000 ≤ F) : Sm_years F Rl := by
  intro σ τ a R
  show G0 _ _
  unfold fX10_years fX11_years
  refine wnG0 fun τ0 h0 => ?_
  have R0 : Rl σ τ0 := by rw [h0]; exact R.fr CE.rfl ME4
  clear h0
  have T := R0.2.1
  have hin := M_isIn (F := F) (τ := τ0) a 1 50
  rw [show (1 : Int64) = Int32.toInt64 1 from rfl, show (50 : Int64) = Int32.toInt64 50 from rfl, hin, bd1_some]
  simp only [jn]
  have href : G0 (bd2 (fX10_refuse F σ 1) fun r4 u5 => some (r4, u5)) (bd2 (fX11_refuse F τ0 1) fun r7 u8 => some (r7, u8)) := by
    rw [show (1 : Int32) = qN 1 from rfl, C_refuse (by decide), M_refuse (by decide)]
    exact ⟨_, _, _, rfl, rfl, R0.rf (by decide)⟩
  by_cases h1 : a < 1
  · rw [if_pos h1, if_neg (show ¬ (1 ≤ a ∧ a ≤ 50) by grind), if_pos rfl]; exact href
  rw [if_neg h1]
  by_cases h2 : 50 < a
  · rw [if_pos h2, if_neg (show ¬ (1 ≤ a ∧ a ≤ 50) by grind), if_pos rfl]; exact href
  rw [if_neg h2, if_pos (show 1 ≤ a ∧ a ≤ 50 by grind), if_neg i10n, R0.nw.2.1]
  by_cases h3 : σ 30 0 + a ≤ 999
  · rw [if_pos h3, if_pos h3]
    obtain ⟨A, h40, hA, hA', hch⟩ := R0.2.2.1.2.1
    obtain ⟨u, hu, u1, u2, u3, u4, u5⟩ := M_keep hF hA' h40
    obtain ⟨v, hv, v1, v2, v3, v4, ⟨v5, v6, v7, v8⟩, v9⟩ := C_note (F := F) (σ := up σ 30 0 (σ 30 0 + a)) (A := A) (by rw [up_same, upd_ne _ _ (by decide)]; exact hA) h40 0 a 0 0
    simp only [nm]
    rw [hv, hu, bd1_some, bd1_some]
    have d := R0.rd
    have e30 : v 30 0 = σ 30 0 + a := by rw [v2, up_same, upd_same]
    have ey : u 0 31 + a = σ 30 0 + a := by rw [u2 31 (by decide), R0.nw.2.1]
    have ec : ∀ x, x ≠ 30 → x ≠ 35 → v x = σ x := fun x hx hx5 => by rw [v1 x hx hx5, up_ne _ _ _ hx]
    refine ⟨_, _, _, rfl, ?_, R0.act (τ' := up u 0 31 (u 0 31 + a)) hA h40 hch (fun x h0 h1 h2 h3 h4 h5 => ec x h0 h5) ?_ v4 ?_ ?_ ?_ ?_ ?_ ?_ ?_ ?_ ?_⟩
    · rw [up_same, upd_same, ey, e30]
    · rw [v3, up_same, upd_ne _ _ (by decide)]
    · intro j hj; rw [v9 j hj, up_ne _ _ _ (by decide)]
    · intro c c0 c13 c18 c19 c20
      rw [up_ne _ _ _ c0, u1 c c0 c20]
    · intro j j4 j31 j32 j33
      rw [up_same, upd_ne _ _ j31, u2 j j33]
    · rw [up_same, upd_ne _ _ (by decide), u3]
    · intro j hj; rw [up_ne _ _ _ (by decide)]; exact u4 j hj
    · intro j hj; rw [up_ne _ _ _ (by decide)]; exact u5 j hj
    · exact .inl v5
    · unfold unS
      rw [if_pos v5, v6, e30, ec 31 (by decide) (by decide), ec 32 (by decide) (by decide), ec 33 (by decide) (by decide), ec 34 (by decide) (by decide)]
      exact ⟨Int32.add_sub_cancel _ _, fun _ _ => rfl, fun _ _ => rfl, fun _ _ _ _ => rfl, fun _ _ => rfl⟩
    · rw [RowD.iff T.2.2.2.2.1 (fun d hd => (T.dd hd).2), e30, ec 31 (by decide) (by decide), ec 32 (by decide) (by decide), ec 33 (by decide) (by decide), ec 34 (by decide) (by decide)]
      obtain ⟨d1, d2, d3, d4, d5⟩ := d
      dsimp only at d1 d2 d3 d4 d5
      refine ⟨by dsimp only; grind, by rw [up_same, upd_same]; exact ey, fun e he => ?_, fun e i he hi => ?_, fun k hk => ?_⟩
      · rw [up_ne _ _ _ (by decide), u1 18 (by decide) (by decide), up_same, upd_ne _ _ (by decide), u2 32 (by decide)]
        have := d3 e he
        dsimp only
        exact ⟨this.1, by grind, this.2.2⟩
      · rw [up_ne _ _ _ (by decide), u1 13 (by decide) (by decide)]; exact d4 e i he hi
      · rw [up_ne _ _ _ (by decide), u1 19 (by decide) (by decide)]; exact d5 k hk
  · rw [if_neg h3, if_neg h3]; exact href
theorem sm_again (hF : 6000 ≤ F) : Sm_again F Rl := by
  intro σ τ a R
  show G1 1 _ _
  unfold fX10_again fX11_again
  refine wnG1 fun τ0 h0 => ?_
  have R0 : Rl σ τ0 := by rw [h0]; exact R.fr CE.rfl ME4
  have h4 : τ0 0 4 = 0 := by rw [h0]; exact up4
  clear h0
  have T := R0.2.1
  rw [C_chkD, M_isDance T, bd1_some, bd1_some]
  by_cases hv : 0 ≤ a ∧ a < σ 2 1
  · rw [if_pos hv, if_pos hv, if_pos rfl, if_neg i10n]
    obtain ⟨d, rfl, hd⟩ := get_d T hv
    have hb := T.dd hd
    have hcl : (qN d).toNatClampNeg = d := q_clamp (by omega)
    obtain ⟨A, h40, hA, hA', hch⟩ := R0.2.2.1.2.1
    obtain ⟨u, hu, u1, u2, u3, u4, u5⟩ := M_keep hF hA' h40
    obtain ⟨v, hv, v1, v2, v3, v4, ⟨v5, v6, v7, v8⟩, v9⟩ := C_note (F := F) (σ := σ) (A := A) hA h40 1 (qN d) (σ 32 d) (σ 31 d)
    unfold fX9_since fX9_renew fX11_danceAgain
    simp only [nm]
    rw [ck_ok (by omega) (by omega), bd1_some, hcl, ck_ok (by omega) (by omega), ck_ok (by omega) (by omega), hv, bd1_some, ck_ok (by omega) (by omega), ck_ok (by omega) (by omega), bd1_some, hu, bd1_some, ck_ok (by omega) (by omega), ck_ok (by omega) (by omega), bd1_some]
    have rd := R0.rd
    refine ⟨_, _, _, rfl, .inl rfl, rfl, ?_, fun _ => ?_, ?_⟩
    · rw [up_same, upd_ne _ _ (by decide), up_ne _ _ _ (by decide), u2 4 (by decide), if_pos rfl]; exact h4
    · show σ 30 0 - σ 31 d = u 0 31 - u 18 d
      rw [u2 31 (by decide), u1 18 (by decide) (by decide), R0.nw.2.1, (R0.nw.2.2.1 d (by omega)).1]
    · have w30 : ∀ j, up (up v 31 d (v 30 0)) 32 d 0 30 j = v 30 j := fun j => by rw [up_ne _ _ _ (by decide), up_ne _ _ _ (by decide)]
      have w35 : up (up v 31 d (v 30 0)) 32 d 0 35 = v 35 := by rw [up_ne _ _ _ (by decide), up_ne _ _ _ (by decide)]
      have w31 : up (up v 31 d (v 30 0)) 32 d 0 31 = upd (σ 31) d (σ 30 0) := by rw [up_ne _ _ _ (by decide), up_same, v1 31 (by decide) (by decide), v2]
      have w32 : up (up v 31 d (v 30 0)) 32 d 0 32 = upd (σ 32) d 0 := by rw [up_same, up_ne _ _ _ (by decide), v1 32 (by decide) (by decide)]
      have w33 : up (up v 31 d (v 30 0)) 32 d 0 33 = σ 33 := by rw [up_ne _ _ _ (by decide), up_ne _ _ _ (by decide), v1 33 (by decide) (by decide)]
      have w34 : up (up v 31 d (v 30 0)) 32 d 0 34 = σ 34 := by rw [up_ne _ _ _ (by decide), up_ne _ _ _ (by decide), v1 34 (by decide) (by decide)]
      refine R0.act hA h40 hch (fun x h0 h1 h2 h3 h4 h5 => ?_) ?_ ?_ ?_ ?_ ?_ ?_ ?_ ?_ ?_ ?_ ?_
      · show up (up v 31 d (v 30 0)) 32 d 0 x = σ x
        rw [up_ne _ _ _ h2, up_ne _ _ _ h1, v1 x h0 h5]
      · exact (w30 2).trans v3
      · exact (w30 1).trans v4
      · intro j hj; show up (up v 31 d (v 30 0)) 32 d 0 35 j = _; rw [w35, v9 j hj]
      · intro c c0 c13 c18 c19 c20
        rw [up_ne _ _ _ c0, up_ne _ _ _ c18, u1 c c0 c20]
      · intro j j4 j31 j32 j33
        rw [up_same, upd_ne _ _ j32, up_ne _ _ _ (by decide), u2 j j33]
      · rw [up_same, upd_ne _ _ (by decide), up_ne _ _ _ (by decide), u3]
      · intro j hj; rw [up_ne _ _ _ (by decide), up_ne _ _ _ (by decide)]; exact u4 j hj
      · intro j hj; rw [up_ne _ _ _ (by decide), up_ne _ _ _ (by decide)]; exact u5 j hj
      · show rvS _ _ (up (up v 31 d (v 30 0)) 32 d 0 35) _
        rw [w35]; exact .inr (.inl ⟨v5, d, v6, by omega⟩)
      · show qe _ _ _ (unS (up (up v 31 d (v 30 0)) 32 d 0 35) _ (up (up v 31 d (v 30 0)) 32 d 0 30 0, up (up v 31 d (v 30 0)) 32 d 0 31, up (up v 31 d (v 30 0)) 32 d 0 32, up (up v 31 d (v 30 0)) 32 d 0 33, up (up v 31 d (v 30 0)) 32 d 0 34))
        rw [w30, w31, w32, w33, w34, w35, v2]
        unfold unS
        rw [if_neg (by rw [v5]; decide), if_pos v5, v6, v7, v8, hcl]
        refine ⟨rfl, fun e _ => ?_, fun e _ => ?_, fun _ _ _ _ => rfl, fun _ _ => rfl⟩
        · show upd (upd (σ 31) d (σ 30 0)) d (σ 31 d) e = σ 31 e
          by_cases he : e = d
          · subst he; rw [upd_same]
          · rw [upd_ne _ _ he, upd_ne _ _ he]
        · show upd (upd (σ 32) d 0) d (σ 32 d) e = σ 32 e
          by_cases he : e = d
          · subst he; rw [upd_same]
          · rw [upd_ne _ _ he, upd_ne _ _ he]
      · show RowR _ _ (up (up v 31 d (v 30 0)) 32 d 0 30 0, up (up v 31 d (v 30 0)) 32 d 0 31, up (up v 31 d (v 30 0)) 32 d 0 32, up (up v 31 d (v 30 0)) 32 d 0 33, up (up v 31 d (v 30 0)) 32 d 0 34) _
        rw [w30, w31, w32, w33, w34, v2, RowD.iff T.2.2.2.2.1 (fun d hd => (T.dd hd).2)]
        obtain ⟨d1, d2, d3, d4, d5⟩ := rd
        dsimp only at d1 d2 d3 d4 d5
        refine ⟨d1, ?_, fun e he => ?_, fun e i he hi => ?_, fun k hk => ?_⟩
        · rw [up_same, upd_ne _ _ (by decide), up_ne _ _ _ (by decide), u2 31 (by decide)]; exact d2
        · have := d3 e he
          have hbits : bt ((up (up u 18 d (u 0 31)) 0 32 ((up u 18 d (u 0 31) 0 32) &&& (((1 : Int32) <<< (qN d &&& 31)) ^^^ ((-1))))) 0 32) e = (bt (τ0 0 32) e && !decide (e = d)) := by
            rw [up_same, upd_same, up_ne _ _ _ (by decide), u2 32 (by decide), bt_and, bt_xor, bt_pow (by omega), bt_neg1 (by omega)]
            simp
          rw [hbits]
          rw [up_ne _ _ _ (by decide), up_same, u1 18 (by decide) (by decide), u2 31 (by decide), d2]
          dsimp only
          by_cases hed : e = d
          · subst hed
            rw [upd_same, upd_same, upd_same]
            refine ⟨rfl, ⟨d1.1, Int32.le_refl _⟩, ?_⟩
            simp [bI]
          · rw [upd_ne _ _ hed, upd_ne _ _ hed, upd_ne _ _ hed]
            refine ⟨this.1, this.2.1, ?_⟩
            simp [hed]; exact this.2.2
        · rw [up_ne _ _ _ (by decide), up_ne _ _ _ (by decide), u1 13 (by decide) (by decide)]; exact d4 e i he hi
        · rw [up_ne _ _ _ (by decide), up_ne _ _ _ (by decide), u1 19 (by decide) (by decide)]; exact d5 k hk
  · rw [if_neg hv, if_neg hv, if_neg (by decide), if_pos rfl, M_fail]
    exact G1_no (by decide) R0 rfl rfl CE.rfl ME4 up4
end
