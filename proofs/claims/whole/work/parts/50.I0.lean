set_option linter.unusedVariables false
set_option linter.unusedSimpArgs false
set_option maxRecDepth 16384
/-! a step read by both -/
theorem if2 {α : Type} {a b : Prop} [Decidable a] [Decidable b] (x y : α) : (if a then x else if b then x else y) = if (a ∨ b) then x else y := by
  by_cases ha : a
  · rw [if_pos ha, if_pos (.inl ha)]
  · by_cases hb : b
    · rw [if_neg ha, if_pos hb, if_pos (.inr hb)]
    · rw [if_neg ha, if_neg hb, if_neg (by rintro (h | h); exact ha h; exact hb h)]
section
variable {F : Nat} {t : Nat → Int32} {n : Nat}
theorem P_tk {R R' : Type} {Q : Option R → Option R' → Prop} (hF : 800 ≤ F) (hn : n ≤ 700) (hb : ∀ k, 0 ≤ t k ∧ t k ≤ 255) {u w : St} {s : Nat} {c c' : Prop} [Decidable c] [Decidable c'] (hcc : c ↔ c') (hP : PL t n u w s) (d hi : Nat) (hd : d ≤ hi) (hhi : hi ≤ 9999) {J : St × Int32 → Option R} {J' : St × Int32 → Option R'}
    (good : ∀ v u' w' s', v ≤ hi → s ≤ s' → PL t n u' w' s' → FL u u' → FLm w w' → Q (J (u', qN v)) (J' (w', qN v)))
    (bad : ∀ u' w', BDp u' w' → FL u u' → FLm w w' → Q (J (u', -1)) (J' (w', 0))) :
    Q (if c then J (u, qN d) else bd2 (fX7_takeNumber F u (qN 0) (qN hi)) fun r u' => J (u', r)) (if c' then J' (w, qN d) else bd2 (fX11_readNumber F w (qN 0) (qN hi)) fun r w' => J' (w', r)) := by
  by_cases hc : c
  · rw [if_pos hc, if_pos (hcc.1 hc)]
    exact good d u w s hd (Nat.le_refl _) hP FL.rfl FLm.rfl
  · rw [if_neg hc, if_neg (fun h => hc (hcc.2 h))]
    rcases P_num (F := F) hF hn hb hP (lo := 0) (hi := hi) (by decide) hhi with ⟨v, u', w', g1, g2, hlo, hhi, hP2, hs2, fu', fw', _⟩ | ⟨u', w', g1, g2, hbd, fu', fw'⟩
    · rw [g1, g2, bd2_some, bd2_some]
      exact good v u' w' _ hhi (by omega) hP2 fu' fw'
    · rw [g1, g2, bd2_some, bd2_some]
      exact bad u' w' hbd fu' fw'
theorem r_tkb {R R' : Type} {Q : Option R → Option R' → Prop} {x : Option R} {w : St} (hb : w 0 25 ≠ 0) {c : Prop} [Decidable c] {d lo hi : Int32} {J' : St × Int32 → Option R'} (h : ∀ v, Q x (J' (w, v))) : Q x (if c then J' (w, d) else bd2 (fX11_readNumber F w lo hi) fun r w' => J' (w', r)) := by
  by_cases hc : c
  · rw [if_pos hc]; exact h d
  · rw [if_neg hc, M_num_bad hb, bd2_some]; exact h 0
theorem DD_step {σ τ x y : St} {V E S k a b c : Nat} (h : DD σ τ V (E + 1)) (hS : σ 20 E = qN S) (hS10 : S < 10) (x15 : ∀ j, j < 3 → x 15 j = σ 15 j) (y5 : ∀ j, 4 ≤ j → j ≤ 6 → y 5 j = τ 5 j) (hx : ∀ c, 16 ≤ c → c ≤ 19 → x c = σ c) (hy : ∀ c, 6 ≤ c → c ≤ 9 → y c = τ c)
    (x20 : x 20 = upd (σ 20) E (qN (S + 1))) (y10 : y 10 = upd (τ 10) (8 + E) (qN (S + 1))) (x21 : x 21 = upd (σ 21) (10 * E + S) (qN k)) (x22 : x 22 = upd (σ 22) (10 * E + S) (qN a)) (x23 : x 23 = upd (σ 23) (10 * E + S) (qN b)) (x24 : x 24 = upd (σ 24) (10 * E + S) (qN c))
    (y11 : y 11 = upd (τ 11) (80 + (10 * E + S)) (qN k)) (y12 : y 12 = upd (τ 12) (80 + (10 * E + S)) (qN a)) (y13 : y 13 = upd (τ 13) (80 + (10 * E + S)) (qN b)) (y14 : y 14 = upd (τ 14) (80 + (10 * E + S)) (qN c)) (hk : k ≤ 4) (ha : a ≤ 2) (hb : b ≤ 9) (hc : c ≤ 7) : DD x y V (E + 1) := by
  obtain ⟨q1, q2, q3, q4, q5, q6, q7, q8, q9, q10⟩ := h
  refine ⟨q1, q2, by rw [x15 0 (by decide)]; exact q3, by rw [y5 4 (by decide) (by decide)]; exact q4, by rw [x15 1 (by decide)]; exact q5, by rw [y5 5 (by decide) (by decide)]; exact q6, by rw [y5 6 (by decide) (by decide), x15 2 (by decide)]; exact q7, by rw [x15 2 (by decide)]; exact q8, by rw [hx 16 (by decide) (by decide), hy 6 (by decide) (by decide)]; exact q9, fun d hd => ?_⟩
  have hold : ∀ p, p ≠ 10 * E + S → DS σ τ p → DS x y p := by
    intro p hp h
    unfold DS at h ⊢
    rw [x21, x22, x23, x24, y11, y12, y13, y14, upd_ne _ _ hp, upd_ne _ _ hp, upd_ne _ _ hp, upd_ne _ _ hp, upd_ne _ _ (by omega), upd_ne _ _ (by omega), upd_ne _ _ (by omega), upd_ne _ _ (by omega)]
    exact h
  have hnew : DS x y (10 * E + S) := by
    unfold DS
    rw [x21, x22, x23, x24, y11, y12, y13, y14, upd_same, upd_same, upd_same, upd_same, upd_same, upd_same, upd_same, upd_same]
    refine ⟨rfl, rfl, rfl, rfl, ⟨?_, ?_⟩, ⟨?_, ?_⟩, ⟨?_, ?_⟩, c, rfl, by omega⟩
    · rw [show (0 : Int32) = qN 0 from rfl, q_le (by omega) (by omega)]; omega
    · rw [show (4 : Int32) = qN 4 from rfl, q_le (by omega) (by omega)]; omega
    · rw [show (0 : Int32) = qN 0 from rfl, q_le (by omega) (by omega)]; omega
    · rw [show (2 : Int32) = qN 2 from rfl, q_le (by omega) (by omega)]; omega
    · rw [show (0 : Int32) = qN 0 from rfl, q_le (by omega) (by omega)]; omega
    · rw [show (9 : Int32) = qN 9 from rfl, q_le (by omega) (by omega)]; omega
  obtain ⟨a1, a2, a3, a4, a5, a6, a7, a8, S', s1, s2, s3⟩ := q10 d hd
  unfold DN
  rw [hx 17 (by decide) (by decide), hx 18 (by decide) (by decide), hx 19 (by decide) (by decide), hy 7 (by decide) (by decide), hy 8 (by decide) (by decide), hy 9 (by decide) (by decide), x20, y10]
  by_cases hdE : d = E
  · subst hdE
    rw [upd_same, upd_same]
    have hSS : S' = S := by rw [hS, q_eq (by omega) (by omega)] at s2; exact s2.symm
    subst hSS
    refine ⟨a1, a2, a3, rfl, a5, a6, a7, a8, S' + 1, by omega, rfl, fun i hi => ?_⟩
    by_cases hiS : i = S'
    · subst hiS; exact hnew
    · exact hold _ (by omega) (s3 i (by omega))
  · rw [upd_ne _ _ hdE, upd_ne _ _ (by omega)]
    exact ⟨a1, a2, a3, a4, a5, a6, a7, a8, S', s1, s2, fun i hi => hold _ (by omega) (s3 i hi)⟩
def kwA (t : Nat → Int32) (n s : Nat) : Option Nat := if isW t n s 0 then some 0 else if isW t n s 1 then some 1 else if isW t n s 2 then some 2 else if isW t n s 3 then some 3 else if isW t n s 4 then some 4 else none
theorem C_kind (hF : 800 ≤ F) (hn : n ≤ 700) {σ : St} {s : Nat} (hs : s ≤ n) (hL : LexC t n σ s) : fX7_kindOfWord F σ = some (nO (kwA t n s)) := by
  unfold fX7_kindOfWord kwA
  rw [C_isWord hF hn hs hL (by decide), C_isWord hF hn hs hL (by decide), C_isWord hF hn hs hL (by decide), C_isWord hF hn hs hL (by decide), C_isWord hF hn hs hL (by decide)]
  simp only [bd1_some]
  cases isW t n s 0 <;> cases isW t n s 1 <;> cases isW t n s 2 <;> cases isW t n s 3 <;> cases isW t n s 4 <;> rfl
theorem M_which2 (hF : 800 ≤ F) (hn : n ≤ 700) {τ : St} {s : Nat} (hs : s ≤ n) (hL : LexM t n τ s) (hbad : τ 0 25 = 0) : fX11_which_2 F τ = some (nO (kwA t n s)) := by
  refine wpE fun Q hQ => ?_
  unfold fX11_which_2
  have hlist : ∀ k, k < 5 → ([0, 1, 2, 3, 4] : List Nat).getD k 0 = k := by
    intro k hk
    have : ∀ k : Fin 5, ([0, 1, 2, 3, 4] : List Nat).getD k.1 0 = k.1 := by decide
    exact this ⟨k, hk⟩
  refine lp_up Q (fun k (v : Int32) => v = qN k ∧ ∀ j, j < k → isW t n s j = false) 5 ?_ F 0 _ (by omega) (by omega) ⟨rfl, fun j h => absurd h (by omega)⟩
  rintro k v K hk ⟨rfl, hno⟩ hK
  by_cases h6 : k = 5
  · subst h6
    refine wiT (by decide) ?_
    have : kwA t n s = none := by unfold kwA; rw [hno 0 (by decide), hno 1 (by decide), hno 2 (by decide), hno 3 (by decide), hno 4 (by decide)]; rfl
    rw [this] at hQ; exact hQ
  · refine wiF (by rw [show (5 : Int32) = qN 5 from rfl, q_le (by omega) (by omega)]; omega) (wk (k := k) rfl (by omega) (by omega) ?_)
    rw [q_clamp (by omega), hlist k (by omega)]
    refine wb1 (M_is hF hn hs hL hbad (by omega)) ?_
    cases hw : isW t n s k with
    | false =>
      refine wiT (show bI false = 0 from rfl) (hK _ (by omega) ⟨q_add k 1, fun j hj => ?_⟩)
      by_cases hjk : j = k
      · subst hjk; exact hw
      · exact hno j (by omega)
    | true =>
      refine wiF (show ¬ bI true = 0 by decide) ?_
      have : kwA t n s = some k := by
        unfold kwA
        rcases (by omega : k = 0 ∨ k = 1 ∨ k = 2 ∨ k = 3 ∨ k = 4) with rfl | rfl | rfl | rfl | rfl
        · rw [hw]; rfl
        · rw [hno 0 (by decide), hw]; rfl
        · rw [hno 0 (by decide), hno 1 (by decide), hw]; rfl
        · rw [hno 0 (by decide), hno 1 (by decide), hno 2 (by decide), hw]; rfl
        · rw [hno 0 (by decide), hno 1 (by decide), hno 2 (by decide), hno 3 (by decide), hw]; rfl
      rw [this] at hQ; exact hQ
theorem kw_ex {s k : Nat} (h : kwA t n s = some k) : k < 5 ∧ isW t n s k = true := by
  unfold kwA at h
  cases h0 : isW t n s 0 <;> cases h1 : isW t n s 1 <;> cases h2 : isW t n s 2 <;> cases h3 : isW t n s 3 <;> cases h4 : isW t n s 4 <;> rw [h0, h1, h2, h3, h4] at h <;> first | (cases h; exact ⟨by decide, by assumption⟩) | cases h
theorem P_step (hF : 800 ≤ F) (hn : n ≤ 700) (hb : ∀ k, 0 ≤ t k ∧ t k ≤ 255) {σ τ : St} {s k : Nat} {b3 b4 : Bool} (h : DR t n σ τ s b3 b4) (hk0 : kdA t n s ≠ 0) (hkw : kwA t n s = some k) :
    ∃ x y, fX7_readStep F σ = some x ∧ fX11_readStep F τ (qN k) = some y ∧ LO t n σ τ s b3 b4 x y := by
  have hk5 := (kw_ex hkw).1
  have hP := h.pl
  obtain ⟨⟨L, x, hL, hL0⟩, e3, e4, V, D, d⟩ := h
  have d' := d
  obtain ⟨hV, hD, c0, m4, c1, m5, m6, hfl, hkn, hdn⟩ := d'
  have hs1 := (nx_le (t := t) hn hP.2.2.1).2.2.1 hk0
  refine wpI2 fun Q hQ => ?_
  unfold fX7_readStep fX11_readStep
  refine l1 (C_kind hF hn hP.2.2.1 hP.1) ?_
  rw [hkw, show nO (some k) = qN k from rfl]
  refine lj fun J3 hJ3 => rj fun J2 hJ2 => lF (show ¬ qN k = -1 by intro hh; exact (q_neg1 (by omega)).1 hh) ?_
  rw [c1, m5]
  cases D with
  | zero =>
    refine lT rfl (rT rfl (r1 (show fX11_wrong F τ 1 = some (wrS τ 1 s) from M_wr hP 1) ?_))
    rw [hJ3, hJ2]
    have hwb : wrS τ 1 s 0 25 ≠ 0 := wr_bad (by decide)
    refine l2 (show fX7_refuse F σ 1 = some (0, rfS σ 1 s) from C_ref hP 1) (rn fun x4 _ => rj fun J6 hJ6 => rF hwb ?_)
    rw [hJ6, ckB0]
    exact rF hwb (hQ _ _ (LO_bad (by decide)))
  | succ E =>
    have hz : ¬ qN (E + 1) = 0 := by rw [show (0 : Int32) = qN 0 from rfl, q_eq (by omega) (by omega)]; omega
    obtain ⟨_, _, _, t10, _, _, _, _, S, hS, s20, _⟩ := hdn E (by omega)
    refine lF hz (rF hz ?_)
    rw [hJ2]
    refine ln fun x7 hx7 => ?_
    have hx7' : x7 = qN E := by rw [hx7, show (1 : Int32) = qN 1 from rfl, q_sub (a := E + 1) (b := 1) (by omega)]; rfl
    subst hx7'
    rw [q_clamp (by omega)]
    refine lk (k := E) rfl (by omega) (by omega) (ln fun x8 hx8 => ?_)
    rw [s20] at hx8
    subst hx8
    refine rn fun x4 hx4 => ?_
    have hx4' : x4 = qN (8 + E) := by
      rw [hx4, m5]
      by_cases hE : E = 0
      · subst hE; rfl
      · rw [if_pos (show (1 : Int32) < qN (E + 1) by rw [show (1 : Int32) = qN 1 from rfl, q_lt (by omega) (by omega)]; omega), show (8 : Int32) = qN 8 from rfl, q_add, show (1 : Int32) = qN 1 from rfl, q_sub (a := 8 + (E + 1)) (b := 1) (by omega)]; congr 1
    clear hx4
    subst hx4'
    rw [q_clamp (by omega)]
    refine rj fun J6 hJ6 => rT hP.2.2.2 (rk (k := 8 + E) rfl (by omega) (by omega) ?_)
    rw [t10, s20]
    by_cases hS10 : S = 10
    · refine lF (show ¬ qN S < 10 by rw [hS10]; decide) (rT (show qN S = 10 by rw [hS10]; rfl) (l2 (show fX7_refuse F σ 2 = some (0, rfS σ 2 s) from C_ref hP 2) (r1 (show fX11_wrong F τ 2 = some (wrS τ 2 s) from M_wr hP 2) ?_)))
      rw [hJ6, ckB0]
      exact rF (wr_bad (τ := τ) (f := 2) (s := s) (by decide)) (hQ _ _ (LO_bad (by decide)))
    · obtain ⟨u, w, hu, hw, hP1, fu, fw, _⟩ := P_next (F := F) hF hn hb hP
      refine lT (show qN S < 10 by rw [show (10 : Int32) = qN 10 from rfl, q_lt (by omega) (by omega)]; omega) (rF (show ¬ qN S = 10 by rw [show (10 : Int32) = qN 10 from rfl, q_eq (by omega) (by omega)]; exact hS10) ?_)
      rw [hJ6]
      refine rT hP.2.2.2 (l1 hu (r1 hw (rk (k := 8 + E) rfl (by omega) (by omega) (rn fun x9 hx9 => ?_))))
      have hx9' : x9 = qN (80 + (10 * E + S)) := by
        rw [hx9, fw.1 10 (by decide), t10, s20, show (10 : Int32) = qN 10 from rfl, q_mul, q_add]; congr 1; omega
      clear hx9
      subst hx9'
      rw [q_clamp (by omega)]
      refine rk (k := 80 + (10 * E + S)) rfl (by omega) (by omega) (rn fun w1 hw1 => lj fun J11 hJ11 => rj fun J12 hJ12 => ?_)
      have hPw : PL t n u w1 (nxA t n s) := hP1.cg rfl rfl (by rw [hw1, up_ne _ _ _ (by decide)]) (by rw [hw1, up_ne _ _ _ (by decide)])
      have fw1 : FDm τ w1 := by rw [hw1]; exact fw.fd.trans (FDm_up (by simp [okD]))
      refine P_tk (F := F) hF hn hb Iff.rfl hPw 2 2 (by decide) (by decide) ?_ ?_
      · intro a u2 w2 s2 ha hs2 hP2 fu2 fw2
        rw [hJ11, hJ12]
        dsimp only
        refine lF (show ¬ qN a = -1 by intro hh; exact (q_neg1 (by omega)).1 hh) (rk (k := 80 + (10 * E + S)) rfl (by omega) (by omega) (rn fun w3 hw3 => lj fun J14 hJ14 => rj fun J16 hJ16 => lj fun J31 hJ31 => rj fun J30 hJ30 => ?_))
        rw [hJ31, hJ30, if2, if2]
        have hPw3 : PL t n u2 w3 s2 := hP2.cg rfl rfl (by rw [hw3, up_ne _ _ _ (by decide)]) (by rw [hw3, up_ne _ _ _ (by decide)])
        have fw3 : FDm τ w3 := by rw [hw3]; exact fw1.trans (fw2.fd.trans (FDm_up (by simp [okD])))
        refine P_tk (F := F) hF hn hb ⟨Or.symm, Or.symm⟩ hPw3 0 9 (by decide) (by decide) ?_ ?_
        · intro b u4 w4 s4 hb9 hs4 hP4 fu4 fw4
          rw [hJ14, hJ16]
          dsimp only
          refine lF (show ¬ qN b = -1 by intro hh; exact (q_neg1 (by omega)).1 hh) (rk (k := 80 + (10 * E + S)) rfl (by omega) (by omega) (rn fun w5 hw5 => lj fun J17 hJ17 => rj fun J20 hJ20 => lj fun J26 hJ26 => rj fun J25 hJ25 => ?_))
          rw [hJ26, hJ25, if2, if2]
          have hPw5 : PL t n u4 w5 s4 := hP4.cg rfl rfl (by rw [hw5, up_ne _ _ _ (by decide)]) (by rw [hw5, up_ne _ _ _ (by decide)])
          have fw5 : FDm τ w5 := by rw [hw5]; exact fw3.trans (fw4.fd.trans (FDm_up (by simp [okD])))
          refine P_tk (F := F) hF hn hb ⟨Or.symm, Or.symm⟩ hPw5 0 7 (by decide) (by decide) ?_ ?_
          · intro c u6 w6 s6 hc7 hs6 hP6 fu6 fw6
            rw [hJ17, hJ20]
            dsimp only
            refine lF (show ¬ qN c = -1 by intro hh; exact (q_neg1 (by omega)).1 hh) (l1 (r := qN (10 * E + S)) (by unfold fX10_placeOf; rw [show (10 : Int32) = qN 10 from rfl, q_mul, q_add]; congr 2; omega) ?_)
            rw [q_clamp (by omega)]
            refine lk (k := 10 * E + S) rfl (by omega) (by omega) (ln fun p1 hp1 => lk (k := 10 * E + S) rfl (by omega) (by omega) (ln fun p2 hp2 => lk (k := 10 * E + S) rfl (by omega) (by omega) (ln fun p3 hp3 => lk (k := 10 * E + S) rfl (by omega) (by omega) (ln fun p4 hp4 => lk (k := E) rfl (by omega) (by omega) (lk (k := E) rfl (by omega) (by omega) (ln fun p5 hp5 => ?_))))))
            refine rk (k := 80 + (10 * E + S)) rfl (by omega) (by omega) (rn fun w7 hw7 => rk (k := 8 + E) rfl (by omega) (by omega) (rk (k := 8 + E) rfl (by omega) (by omega) (rn fun w8 hw8 => ?_)))
            have fux : FL σ u6 := fu.trans (fu2.trans (fu4.trans fu6))
            have g20 : p4 20 E = qN S := by
              rw [hp4, up_ne _ _ _ (by decide), hp3, up_ne _ _ _ (by decide), hp2, up_ne _ _ _ (by decide), hp1, up_ne _ _ _ (by decide), fux 20 (by decide)]; exact s20
            have g10 : w7 10 = τ 10 := by
              rw [hw7, up_ne _ _ _ (by decide), fw6.1 10 (by decide), hw5, up_ne _ _ _ (by decide), fw4.1 10 (by decide), hw3, up_ne _ _ _ (by decide), fw2.1 10 (by decide), hw1, up_ne _ _ _ (by decide), fw.1 10 (by decide)]
            rw [g20, show qN S + 1 = qN (S + 1) from q_add S 1] at hp5
            rw [g10, t10, s20, show qN S + 1 = qN (S + 1) from q_add S 1] at hw8
            have hp : ∀ j, j ≠ 20 → j ≠ 21 → j ≠ 22 → j ≠ 23 → j ≠ 24 → p5 j = u6 j := fun j h0 h1 h2 h3 h4 => by
              rw [hp5, up_ne _ _ _ h0, hp4, up_ne _ _ _ h4, hp3, up_ne _ _ _ h3, hp2, up_ne _ _ _ h2, hp1, up_ne _ _ _ h1]
            have hw' : ∀ j, j ≠ 10 → j ≠ 11 → j ≠ 12 → j ≠ 13 → j ≠ 14 → j ≠ 0 → w8 j = τ j := fun j h0 h1 h2 h3 h4 h5 => by
              rw [hw8, up_ne _ _ _ h0, hw7, up_ne _ _ _ h4, fw6.1 j h5, hw5, up_ne _ _ _ h3, fw4.1 j h5, hw3, up_ne _ _ _ h2, fw2.1 j h5, hw1, up_ne _ _ _ h1, fw.1 j h5]
            have hw0 : w8 0 = w6 0 := by rw [hw8, up_ne _ _ _ (by decide), hw7, up_ne _ _ _ (by decide)]
            refine hQ _ _ (LO_ok (s' := s6) ?_ ?_ (by omega) ⟨⟨L, ⟨?_, ?_⟩, by omega, hL0⟩, ?_, ?_, V, E + 1, ?_⟩)
            · intro j h1 h2
              rw [hp j (by omega) (by omega) (by omega) (by omega) (by omega)]; exact fux j h2
            · rw [hw8]
              refine fw5.trans (fw6.fd.trans ?_)
              rw [hw7]
              exact (FDm_up (by simp [okD])).trans (FDm_up (by simp [okD]))
            · exact hP6.cg (hp 1 (by decide) (by decide) (by decide) (by decide) (by decide)) (hp 28 (by decide) (by decide) (by decide) (by decide) (by decide)) hw0 (by rw [hw8, up_ne _ _ _ (by decide), hw7, up_ne _ _ _ (by decide)])
            · rw [hp 25 (by decide) (by decide) (by decide) (by decide) (by decide), hp 26 (by decide) (by decide) (by decide) (by decide) (by decide), hw' 5 (by decide) (by decide) (by decide) (by decide) (by decide) (by decide), hw' 15 (by decide) (by decide) (by decide) (by decide) (by decide) (by decide), fux 25 (by decide), fux 26 (by decide)]
              exact x.2
            · rw [hp 15 (by decide) (by decide) (by decide) (by decide) (by decide), fux 15 (by decide)]; exact e3
            · rw [hp 15 (by decide) (by decide) (by decide) (by decide) (by decide), fux 15 (by decide)]; exact e4
            · refine DD_step (k := k) (a := a) (b := b) (c := c) d s20 (by omega) ?_ ?_ ?_ ?_ ?_ ?_ ?_ ?_ ?_ ?_ ?_ ?_ ?_ ?_ (by omega) ha hb9 hc7
              · intro j _; rw [hp 15 (by decide) (by decide) (by decide) (by decide) (by decide), fux 15 (by decide)]
              · intro j _ _; rw [hw' 5 (by decide) (by decide) (by decide) (by decide) (by decide) (by decide)]
              · intro j _ _; rw [hp j (by omega) (by omega) (by omega) (by omega) (by omega), fux j (by omega)]
              · intro j _ _; rw [hw' j (by omega) (by omega) (by omega) (by omega) (by omega) (by omega)]
              · rw [hp5, up_same, hp4, up_ne _ _ _ (by decide), hp3, up_ne _ _ _ (by decide), hp2, up_ne _ _ _ (by decide), hp1, up_ne _ _ _ (by decide), fux 20 (by decide)]
              · rw [hw8, up_same, g10]
              · rw [hp5, up_ne _ _ _ (by decide), hp4, up_ne _ _ _ (by decide), hp3, up_ne _ _ _ (by decide), hp2, up_ne _ _ _ (by decide), hp1, up_same, fux 21 (by decide)]
              · rw [hp5, up_ne _ _ _ (by decide), hp4, up_ne _ _ _ (by decide), hp3, up_ne _ _ _ (by decide), hp2, up_same, hp1, up_ne _ _ _ (by decide), fux 22 (by decide)]
              · rw [hp5, up_ne _ _ _ (by decide), hp4, up_ne _ _ _ (by decide), hp3, up_same, hp2, up_ne _ _ _ (by decide), hp1, up_ne _ _ _ (by decide), fux 23 (by decide)]
              · rw [hp5, up_ne _ _ _ (by decide), hp4, up_same, hp3, up_ne _ _ _ (by decide), hp2, up_ne _ _ _ (by decide), hp1, up_ne _ _ _ (by decide), fux 24 (by decide)]
              · rw [hw8, up_ne _ _ _ (by decide), hw7, up_ne _ _ _ (by decide), fw6.1 11 (by decide), hw5, up_ne _ _ _ (by decide), fw4.1 11 (by decide), hw3, up_ne _ _ _ (by decide), fw2.1 11 (by decide), hw1, up_same, fw.1 11 (by decide)]
              · rw [hw8, up_ne _ _ _ (by decide), hw7, up_ne _ _ _ (by decide), fw6.1 12 (by decide), hw5, up_ne _ _ _ (by decide), fw4.1 12 (by decide), hw3, up_same, fw2.1 12 (by decide), hw1, up_ne _ _ _ (by decide), fw.1 12 (by decide)]
              · rw [hw8, up_ne _ _ _ (by decide), hw7, up_ne _ _ _ (by decide), fw6.1 13 (by decide), hw5, up_same, fw4.1 13 (by decide), hw3, up_ne _ _ _ (by decide), fw2.1 13 (by decide), hw1, up_ne _ _ _ (by decide), fw.1 13 (by decide)]
              · rw [hw8, up_ne _ _ _ (by decide), hw7, up_same, fw6.1 14 (by decide), hw5, up_ne _ _ _ (by decide), fw4.1 14 (by decide), hw3, up_ne _ _ _ (by decide), fw2.1 14 (by decide), hw1, up_ne _ _ _ (by decide), fw.1 14 (by decide)]
          · intro u6 w6 hbd fu6 fw6
            rw [hJ17, hJ20]
            dsimp only
            refine lT rfl (rk (k := 80 + (10 * E + S)) rfl (by omega) (by omega) (rn fun w7 hw7 => rk (k := 8 + E) rfl (by omega) (by omega) (rk (k := 8 + E) rfl (by omega) (by omega) (rn fun w8 hw8 => ?_))))
            refine hQ _ _ (LO_no (fu.trans (fu2.trans (fu4.trans fu6))).fd ?_ (hbd.w0 (by rw [hw8, up_ne _ _ _ (by decide), hw7, up_ne _ _ _ (by decide)])))
            rw [hw8]
            refine fw5.trans (fw6.fd.trans ?_)
            rw [hw7]
            exact (FDm_up (by simp [okD])).trans (FDm_up (by simp [okD]))
        · intro u4 w4 hbd fu4 fw4
          rw [hJ14, hJ16]
          dsimp only
          refine lT rfl (rk (k := 80 + (10 * E + S)) rfl (by omega) (by omega) (rn fun w5 hw5 => rj fun J20 hJ20 => rj fun J25 hJ25 => ?_))
          rw [hJ25, if2]
          have hb5 : w5 0 25 ≠ 0 := by rw [hw5, up_ne _ _ _ (by decide)]; exact hbd.bad
          refine r_tkb hb5 fun v => ?_
          rw [hJ20]
          dsimp only
          refine rk (k := 80 + (10 * E + S)) rfl (by omega) (by omega) (rn fun w7 hw7 => rk (k := 8 + E) rfl (by omega) (by omega) (rk (k := 8 + E) rfl (by omega) (by omega) (rn fun w8 hw8 => ?_)))
          refine hQ _ _ (LO_no (fu.trans (fu2.trans fu4)).fd ?_ (hbd.w0 (by rw [hw8, up_ne _ _ _ (by decide), hw7, up_ne _ _ _ (by decide), hw5, up_ne _ _ _ (by decide)])))
          rw [hw8]
          refine fw3.trans (fw4.fd.trans ?_)
          rw [hw7, hw5]
          exact (FDm_up (by simp [okD])).trans ((FDm_up (by simp [okD])).trans (FDm_up (by simp [okD])))
      · intro u2 w2 hbd fu2 fw2
        rw [hJ11, hJ12]
        dsimp only
        refine lT rfl (rk (k := 80 + (10 * E + S)) rfl (by omega) (by omega) (rn fun w3 hw3 => rj fun J16 hJ16 => rj fun J30 hJ30 => ?_))
        rw [hJ30, if2]
        have hb3 : w3 0 25 ≠ 0 := by rw [hw3, up_ne _ _ _ (by decide)]; exact hbd.bad
        refine r_tkb hb3 fun v => ?_
        rw [hJ16]
        dsimp only
        refine rk (k := 80 + (10 * E + S)) rfl (by omega) (by omega) (rn fun w5 hw5 => rj fun J20 hJ20 => rj fun J25 hJ25 => ?_)
        rw [hJ25, if2]
        have hb5 : w5 0 25 ≠ 0 := by rw [hw5, up_ne _ _ _ (by decide)]; exact hb3
        refine r_tkb hb5 fun v2 => ?_
        rw [hJ20]
        dsimp only
        refine rk (k := 80 + (10 * E + S)) rfl (by omega) (by omega) (rn fun w7 hw7 => rk (k := 8 + E) rfl (by omega) (by omega) (rk (k := 8 + E) rfl (by omega) (by omega) (rn fun w8 hw8 => ?_)))
        refine hQ _ _ (LO_no (fu.trans fu2).fd ?_ (hbd.w0 (by rw [hw8, up_ne _ _ _ (by decide), hw7, up_ne _ _ _ (by decide), hw5, up_ne _ _ _ (by decide), hw3, up_ne _ _ _ (by decide)])))
        rw [hw8]
        refine fw1.trans (fw2.fd.trans ?_)
        rw [hw7, hw5, hw3]
        exact (FDm_up (by simp [okD])).trans ((FDm_up (by simp [okD])).trans ((FDm_up (by simp [okD])).trans (FDm_up (by simp [okD]))))
end
