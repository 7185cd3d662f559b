set_option linter.unusedVariables false
set_option linter.unusedSimpArgs false
set_option maxRecDepth 16384
/-! the limit's expression, read by both -/
theorem Ht_cg {c c' : Nat → Int32} : ∀ L, (∀ k, k < L → c k = c' k) → Ht c L = Ht c' L := by
  intro L
  induction L with
  | zero => intro _; rfl
  | succ L ih => intro h; rw [Ht, Ht, ih (fun k hk => h k (by omega)), h L (by omega)]
def XR (t : Nat → Int32) (n : Nat) (σ τ : St) (s L h : Nat) : Prop := PL t n σ τ s ∧ σ 25 0 = qN L ∧ τ 5 7 = qN L ∧ (∀ k, k < L → cRel (σ 26 k) (τ 15 (700 + k))) ∧ Ht (σ 26) L = some h
def FX (σ u : St) : Prop := ∀ c, c ≠ 25 → c ≠ 26 → c ≠ 28 → u c = σ c
def FXm (τ w : St) : Prop := (∀ c, c ≠ 0 → c ≠ 5 → c ≠ 15 → w c = τ c) ∧ (∀ j, lJ j = false → w 0 j = τ 0 j) ∧ (∀ j, j ≠ 7 → w 5 j = τ 5 j) ∧ (∀ j, j < 700 → w 15 j = τ 15 j)
theorem FX.rfl {σ : St} : FX σ σ := fun _ _ _ _ => Eq.refl _
theorem FX.trans {a b c : St} (h : FX a b) (k : FX b c) : FX a c := fun x h1 h2 h3 => (k x h1 h2 h3).trans (h x h1 h2 h3)
theorem FXm.rfl {σ : St} : FXm σ σ := ⟨fun _ _ _ _ => Eq.refl _, fun _ _ => Eq.refl _, fun _ _ => Eq.refl _, fun _ _ => Eq.refl _⟩
theorem FXm.trans {a b c : St} (h : FXm a b) (k : FXm b c) : FXm a c := ⟨fun x h1 h2 h3 => (k.1 x h1 h2 h3).trans (h.1 x h1 h2 h3), fun j hj => (k.2.1 j hj).trans (h.2.1 j hj), fun j hj => (k.2.2.1 j hj).trans (h.2.2.1 j hj), fun j hj => (k.2.2.2 j hj).trans (h.2.2.2 j hj)⟩
theorem FL.fx {a b : St} (h : FL a b) : FX a b := fun c _ _ h3 => h c h3
theorem FLm.fx {a b : St} (h : FLm a b) : FXm a b := ⟨fun c h1 _ _ => h.1 c h1, h.2, fun j _ => by rw [h.1 5 (by decide)], fun j _ => by rw [h.1 15 (by decide)]⟩
theorem XR.lex {t : Nat → Int32} {n : Nat} {σ τ u w : St} {s s' L h : Nat} (x : XR t n σ τ s L h) (p : PL t n u w s') (f : FL σ u) (g : FLm τ w) : XR t n u w s' L h := by
  obtain ⟨_, x2, x3, x4, x5⟩ := x
  exact ⟨p, by rw [f 25 (by decide)]; exact x2, by rw [g.1 5 (by decide)]; exact x3, by rw [f 26 (by decide), g.1 15 (by decide)]; exact x4, by rw [f 26 (by decide)]; exact x5⟩
def XO (t : Nat → Int32) (n : Nat) (σ τ : St) (s L h : Nat) (x : Int32 × St) (y : St) : Prop := FX σ x.2 ∧ FXm τ y ∧ ((x.1 = 1 ∧ ∃ s' L', s < s' ∧ L' + s ≤ s' + L ∧ XR t n x.2 y s' L' (h + 1)) ∨ (x.1 = 0 ∧ BDp x.2 y))
def SP (t : Nat → Int32) (n B : Nat) (a : Int32) (g : St → Int32 → Option (Int32 × St)) (g' : St → Int32 → Option St) : Prop := ∀ σ τ s L h, XR t n σ τ s L h → L ≤ s → h + B ≤ 40 → ∃ x y, g σ a = some x ∧ g' τ a = some y ∧ XO t n σ τ s L h x y
def SB (g' : St → Int32 → Option St) : Prop := ∀ τ a, τ 0 25 ≠ 0 → g' τ a = some τ
section
variable {F : Nat} {t : Nat → Int32} {n : Nat}
theorem P_add {σ τ : St} {s L h h' : Nat} (x : XR t n σ τ s L h) (hL : L < 700) {c r : Int32} (hc : cRel c r) (hh : st1 c h = some h') :
    ∃ u w, fX8_add F σ c = some u ∧ fX11_lay F τ r = some w ∧ XR t n u w s (L + 1) h' ∧ FX σ u ∧ FXm τ w := by
  obtain ⟨⟨lc, lm, hs, hbad⟩, x2, x3, x4, x5⟩ := x
  refine ⟨up (up σ 26 L c) 25 0 (qN (L + 1)), up (up τ 15 (700 + L) r) 5 7 (qN (L + 1)), ?_, ?_, ⟨⟨?_, ?_, hs, ?_⟩, ?_, ?_, ?_, ?_⟩, ?_, ?_, ?_, ?_, ?_⟩
  · unfold fX8_add
    rw [x2, if_neg (show ¬ (700 : Int32) ≤ qN L by rw [show (700 : Int32) = qN 700 from rfl, q_le (by omega) (by omega)]; omega), ck_ok hL (by omega), q_clamp (by omega)]
    simp only [nm]
    rw [up_ne _ _ _ (by decide), x2, show qN L + 1 = qN (L + 1) from q_add L 1]
  · unfold fX11_lay
    rw [if_pos hbad, x3, show (700 : Int32) = qN 700 from rfl, q_add, ck_ok (by omega) (by omega), q_clamp (by omega)]
    simp only [nm]
    rw [up_ne _ _ _ (by decide), x3, show qN L + 1 = qN (L + 1) from q_add L 1]
  · obtain ⟨l1, l2, l3, l4, l5, l6⟩ := lc
    unfold LexC
    simp only [up_ne _ _ _ (show 28 ≠ 25 by decide), up_ne _ _ _ (show 28 ≠ 26 by decide), up_ne _ _ _ (show 1 ≠ 25 by decide), up_ne _ _ _ (show 1 ≠ 26 by decide)]
    exact ⟨l1, l2, l3, l4, l5, l6⟩
  · obtain ⟨l1, l2, l3, l4, l5, l6, l7⟩ := lm
    unfold LexM
    simp only [up_ne _ _ _ (show 0 ≠ 5 by decide), up_ne _ _ _ (show 0 ≠ 15 by decide), up_ne _ _ _ (show 17 ≠ 5 by decide), up_ne _ _ _ (show 17 ≠ 15 by decide)]
    exact ⟨l1, l2, l3, l4, l5, l6, l7⟩
  · rw [up_ne _ _ _ (by decide), up_ne _ _ _ (by decide)]; exact hbad
  · rw [up_same, upd_same]
  · rw [up_same, upd_same]
  · intro k hk
    rw [up_ne _ _ _ (by decide), up_same, up_ne _ _ _ (by decide), up_same]
    by_cases hkL : k = L
    · subst hkL; rw [upd_same, upd_same]; exact hc
    · rw [upd_ne _ _ hkL, upd_ne _ _ (by omega)]; exact x4 k (by omega)
  · rw [up_ne _ _ _ (by decide), up_same, Ht, upd_same, Ht_cg (c' := σ 26) L (fun k hk => upd_ne _ _ (by omega)), x5]
    exact hh
  · intro c h1 h2 h3; rw [up_ne _ _ _ h1, up_ne _ _ _ h2]
  · intro c h1 h2 h3; rw [up_ne _ _ _ h2, up_ne _ _ _ h3]
  · intro j _; rw [up_ne _ _ _ (by decide), up_ne _ _ _ (by decide)]
  · intro j hj; rw [up_same, upd_ne _ _ hj, up_ne _ _ _ (by decide)]
  · intro j hj; rw [up_ne _ _ _ (by decide), up_same, upd_ne _ _ (by omega)]
theorem M_lay_bad {τ : St} (hbad : τ 0 25 ≠ 0) (r : Int32) : fX11_lay F τ r = some τ := by unfold fX11_lay; rw [if_neg hbad]
theorem M_num_bad {τ : St} (hbad : τ 0 25 ≠ 0) (a b : Int32) : fX11_readNumber F τ a b = some (0, τ) := by
  unfold fX11_readNumber fX11_numberNow
  rw [if_neg hbad, bd2_some, if_neg hbad]
def vwA (t : Nat → Int32) (n s : Nat) : Option Nat := if isW t n s 8 then some 0 else if isW t n s 9 then some 1 else if isW t n s 10 then some 2 else if isW t n s 2 then some 3 else if isW t n s 11 then some 4 else if isW t n s 12 then some 5 else none
theorem vw_lt {s v : Nat} (h : vwA t n s = some v) : v < 6 := by
  unfold vwA at h
  repeat (first | (split at h) | (injection h with h; omega) | (cases h))
theorem C_valueOf (hF : 800 ≤ F) (hn : n ≤ 700) {σ : St} {s : Nat} (hs : s ≤ n) (hL : LexC t n σ s) : fX7_valueOfWord F σ = some (nO (vwA t n s)) := by
  unfold fX7_valueOfWord vwA
  rw [C_isWord hF hn hs hL (by decide), C_isWord hF hn hs hL (by decide), C_isWord hF hn hs hL (by decide), C_isWord hF hn hs hL (by decide), C_isWord hF hn hs hL (by decide), C_isWord hF hn hs hL (by decide)]
  simp only [bd1_some]
  cases isW t n s 8 <;> cases isW t n s 9 <;> cases isW t n s 10 <;> cases isW t n s 2 <;> cases isW t n s 11 <;> cases isW t n s 12 <;> rfl
theorem M_which (hF : 800 ≤ F) (hn : n ≤ 700) {τ : St} {s : Nat} (hs : s ≤ n) (hL : LexM t n τ s) (hbad : τ 0 25 = 0) : fX11_which F τ = some (nO (vwA t n s)) := by
  refine wpE fun Q hQ => ?_
  unfold fX11_which
  have hlist : ∀ k, k < 6 → ([8, 9, 10, 2, 11, 12] : List Nat).getD k 0 < 17 := by
    intro k hk
    have : ∀ k : Fin 6, ([8, 9, 10, 2, 11, 12] : List Nat).getD k.1 0 < 17 := by decide
    exact this ⟨k, hk⟩
  refine lp_up Q (fun k (v : Int32) => v = qN k ∧ ∀ j, j < k → isW t n s (([8, 9, 10, 2, 11, 12] : List Nat).getD j 0) = false) 6 ?_ F 0 _ (by omega) (by omega) ⟨rfl, fun j h => absurd h (by omega)⟩
  rintro k v K hk ⟨rfl, hno⟩ hK
  by_cases h6 : k = 6
  · subst h6
    refine wiT (by decide) ?_
    have e0 : isW t n s 8 = false := hno 0 (by decide)
    have e1 : isW t n s 9 = false := hno 1 (by decide)
    have e2 : isW t n s 10 = false := hno 2 (by decide)
    have e3 : isW t n s 2 = false := hno 3 (by decide)
    have e4 : isW t n s 11 = false := hno 4 (by decide)
    have e5 : isW t n s 12 = false := hno 5 (by decide)
    have : vwA t n s = none := by unfold vwA; rw [e0, e1, e2, e3, e4, e5]; rfl
    rw [this] at hQ; exact hQ
  · refine wiF (by rw [show (6 : Int32) = qN 6 from rfl, q_le (by omega) (by omega)]; omega) (wk (k := k) rfl (by omega) (by omega) ?_)
    rw [q_clamp (by omega)]
    refine wb1 (M_is hF hn hs hL hbad (hlist k (by omega))) ?_
    cases hw : isW t n s (([8, 9, 10, 2, 11, 12] : List Nat).getD k 0) with
    | false =>
      refine wiT (show bI false = 0 from rfl) (hK _ (by omega) ⟨q_add k 1, fun j hj => ?_⟩)
      by_cases hjk : j = k
      · subst hjk; exact hw
      · exact hno j (by omega)
    | true =>
      refine wiF (show ¬ bI true = 0 by decide) ?_
      have : vwA t n s = some k := by
        unfold vwA
        rcases (by omega : k = 0 ∨ k = 1 ∨ k = 2 ∨ k = 3 ∨ k = 4 ∨ k = 5) with rfl | rfl | rfl | rfl | rfl | rfl
        · rw [show isW t n s 8 = true from hw]; rfl
        · rw [show isW t n s 8 = false from hno 0 (by decide), show isW t n s 9 = true from hw]; rfl
        · rw [show isW t n s 8 = false from hno 0 (by decide), show isW t n s 9 = false from hno 1 (by decide), show isW t n s 10 = true from hw]; rfl
        · rw [show isW t n s 8 = false from hno 0 (by decide), show isW t n s 9 = false from hno 1 (by decide), show isW t n s 10 = false from hno 2 (by decide), show isW t n s 2 = true from hw]; rfl
        · rw [show isW t n s 8 = false from hno 0 (by decide), show isW t n s 9 = false from hno 1 (by decide), show isW t n s 10 = false from hno 2 (by decide), show isW t n s 2 = false from hno 3 (by decide), show isW t n s 11 = true from hw]; rfl
        · rw [show isW t n s 8 = false from hno 0 (by decide), show isW t n s 9 = false from hno 1 (by decide), show isW t n s 10 = false from hno 2 (by decide), show isW t n s 2 = false from hno 3 (by decide), show isW t n s 11 = false from hno 4 (by decide), show isW t n s 12 = true from hw]; rfl
      rw [this] at hQ; exact hQ
/-! a part -/
theorem st_val {c : Int32} {h : Nat} (hc : -11 < c) (hh : h + 1 ≤ 40) : st1 c h = some (h + 1) := by
  unfold st1; rw [if_pos hc, if_pos (by omega)]
theorem P_part (hF : 800 ≤ F) (hn : n ≤ 700) (hb : ∀ k, 0 ≤ t k ∧ t k ≤ 255) {rx : St → Int32 → Option (Int32 × St)} {rx' : St → Int32 → Option St} {w B : Nat} (hB : 1 ≤ B) (hrx : SP t n B (qN (w + 1)) rx rx') (hbx : SB rx') : SP t n B (qN w) (fX7_readPart rx F) (fX11_readPart rx' F) := by
  intro σ τ s L h x hL hh
  have hP := x.1
  obtain ⟨hC, hM, hs, hbad⟩ := hP
  have hk6 := kd_lt (t := t) (n := n) s
  have hnx := nx_le (t := t) hn hs
  unfold fX7_readPart fX11_readPart
  rw [C_isSign hn hs hC, bd1_some, if_pos hbad, hM.2.2.1, hC.2.2.2.1]
  have hc1 : (qN (kdA t n s) = 1) ↔ kdA t n s = 1 := by rw [show (1 : Int32) = qN 1 from rfl, q_eq (by omega) (by omega)]
  by_cases k2 : kdA t n s = 2
  · have hS : isS t n s 40 = false := by unfold isS; rw [decide_eq_false (by omega)]; rfl
    rw [hS, if_pos (show bI false = 0 from rfl), if_neg (fun hh => by have := hc1.1 hh; omega), if_pos ((mkT_1 hk6).2.1.2 k2)]
    have hnum := P_num (F := F) hF hn hb x.1 (lo := 0) (hi := 9999) (by decide) (by decide)
    rcases hnum with ⟨v, u, u', e1, e2, v1, v2, p1, p2, p3, p4, _⟩ | ⟨u, u', e1, e2, p1, p3, p4⟩
    · have e1' : fX7_takeNumber F σ 0 9999 = some (qN v, u) := e1
      have e2' : fX11_readNumber F τ 0 9999 = some (qN v, u') := e2
      have x2 := x.lex p1 p3 p4
      obtain ⟨a, a', f1, f2, f3, f4, f5⟩ := P_add (F := F) x2 (by omega) (c := qN v) (r := qN v) (.inl ⟨rfl, .inl (by rw [show (0 : Int32) = qN 0 from rfl, q_le (by omega) (by omega)]; omega)⟩) (st_val (by
        have : 0 ≤ qN v := by rw [show (0 : Int32) = qN 0 from rfl, q_le (by omega) (by omega)]; omega
        grind) (by omega))
      rw [e1', e2', bd2_some, bd2_some, if_neg (by rw [show (-1 : Int32) = -qN 1 from rfl, q_neg1 (by omega)]; exact fun h => h), f1, f2, bd1_some, bd1_some]
      exact ⟨_, _, rfl, rfl, p3.fx.trans f4, p4.fx.trans f5, .inl ⟨rfl, nxA t n s, L + 1, p2, by omega, f3⟩⟩
    · have e1' : fX7_takeNumber F σ 0 9999 = some (-1, u) := e1
      have e2' : fX11_readNumber F τ 0 9999 = some (0, u') := e2
      rw [e1', e2', bd2_some, bd2_some, if_pos rfl, M_lay_bad p1.bad, bd1_some]
      exact ⟨_, _, rfl, rfl, p3.fx, p4.fx, .inr ⟨rfl, p1⟩⟩
  · rw [if_neg (fun hh => k2 ((mkT_1 hk6).2.1.1 hh))]
    by_cases k1 : kdA t n s = 1
    · have hS : isS t n s 40 = false := by unfold isS; rw [decide_eq_false (by omega)]; rfl
      rw [hS, if_pos (show bI false = 0 from rfl), if_pos (hc1.2 k1), if_pos ((mkT_1 hk6).1.2 k1), C_valueOf hF hn hs hC, bd1_some, M_which hF hn hs hM hbad, bd1_some]
      simp only [jn]
      cases hv : vwA t n s with
      | none =>
        rw [if_pos (show nO none = -1 from rfl), if_pos (show nO none = -1 from rfl), show fX7_refuse F σ 3 = some (0, rfS σ 3 s) from C_ref x.1 3, bd2_some, ckB0, show fX11_wrong F τ 3 = some (wrS τ 3 s) from M_wr x.1 3, bd1_some, M_lay_bad (wr_bad (by decide)), bd1_some, if_neg (wr_bad (by decide))]
        exact ⟨_, _, rfl, rfl, rf_FL.fx, wr_FLm.fx, .inr ⟨rfl, rw_BD (by decide)⟩⟩
      | some v =>
        have hv6 := vw_lt hv
        have hne : ¬ nO (some v) = -1 := by rw [nO_m1 (fun y hy => by injection hy with hy; omega)]; intro h; cases h
        rw [if_neg hne, if_neg hne]
        unfold fX8_codeOfValue
        rw [bd1_some]
        have hlt : L < 700 := by
          have := hnx.2.2.1 (by omega)
          omega
        have hcode : (-1 : Int32) - nO (some v) = -1 - qN v := rfl
        have hrg : -6 ≤ (-1 : Int32) - qN v ∧ (-1 : Int32) - qN v ≤ -1 := by
          have : 0 ≤ qN v ∧ qN v ≤ 5 := by rw [show (0 : Int32) = qN 0 from rfl, show (5 : Int32) = qN 5 from rfl, q_le (by omega) (by omega), q_le (by omega) (by omega)]; omega
          grind
        rw [hcode]
        obtain ⟨a, a', f1, f2, f3, f4, f5⟩ := P_add (F := F) x hlt (c := -1 - qN v) (r := -1 - qN v) (.inl ⟨rfl, .inr hrg⟩) (st_val (by grind) (by omega))
        obtain ⟨u, u', g1, g2, g3, g4, g5, _⟩ := P_next (F := F) hF hn hb f3.1
        rw [f1, bd1_some, g1, bd1_some, f2, bd1_some, if_pos f3.1.2.2.2, g2, bd1_some]
        exact ⟨_, _, rfl, rfl, f4.trans g4.fx, f5.trans g5.fx, .inl ⟨rfl, nxA t n s, L + 1, hnx.2.2.1 (by omega), by have := hnx.2.2.1 (by omega); omega, f3.lex g3 g4 g5⟩⟩
    · rw [if_neg (fun hh => k1 (hc1.1 hh)), if_neg (fun hh => k1 ((mkT_1 hk6).1.1 hh))]
      cases hS : isS t n s 40 with
      | true =>
        rw [if_neg (show ¬ bI true = 0 by decide)]
        have hk0 : kdA t n s ≠ 0 := fun h0 => by unfold isS at hS; rw [decide_eq_false (by omega)] at hS; cases hS
        obtain ⟨u, u', g1, g2, g3, g4, g5, _⟩ := P_next (F := F) hF hn hb x.1
        have hm40 : fX11_mark F τ 40 = some u' := by
          unfold fX11_mark
          simp only [jn, hbad, ↓reduceIte, M_isMarked hn hs hM hbad, bd1_some]
          rw [hS, if_neg (show ¬ bI true = 0 by decide), g2]; rfl
        have hs1 := hnx.2.2.1 hk0
        obtain ⟨z, z', r1, r2, r3⟩ := hrx u u' (nxA t n s) L h (x.lex g3 g4 g5) (by omega) hh
        rw [g1, bd1_some, show qN w + 1 = qN (w + 1) from q_add w 1, r1, hm40, bd1_some, r2, bd1_some]
        obtain ⟨fz, fz', hor⟩ := r3
        obtain ⟨z0, z1⟩ := z
        dsimp only at fz hor
        rw [bd2_some]
        rcases hor with ⟨rfl, s', L', q1, q2, q3⟩ | ⟨rfl, q1⟩
        · rw [if_neg i10n]
          rcases P_sign (F := F) hF hn hb q3.1 41 with ⟨a, a', c1, c2, c3, c4, c5, c6⟩ | ⟨a, a', c1, c2, c3, c5, c6⟩
          · rw [c1, bd2_some, if_neg i10n, c2, bd1_some]
            exact ⟨_, _, rfl, rfl, g4.fx.trans (fz.trans c5.fx), g5.fx.trans (fz'.trans c6.fx), .inl ⟨rfl, nxA t n s', L', by omega, by omega, q3.lex c3 c5 c6⟩⟩
          · rw [c1, bd2_some, if_pos rfl, c2, bd1_some]
            exact ⟨_, _, rfl, rfl, g4.fx.trans (fz.trans c5.fx), g5.fx.trans (fz'.trans c6.fx), .inr ⟨rfl, c3⟩⟩
        · rw [if_pos rfl, M_mark_bad q1.bad, bd1_some]
          exact ⟨_, _, rfl, rfl, g4.fx.trans fz, g5.fx.trans fz', .inr ⟨rfl, q1⟩⟩
      | false =>
        rw [if_pos (show bI false = 0 from rfl)]
        have hc2 : ¬ σ 28 3 = 2 := by rw [hC.2.2.2.1, show (2 : Int32) = qN 2 from rfl, q_eq (by omega) (by omega)]; exact k2
        have htk : fX7_takeNumber F σ 0 9999 = some (-1, rfS σ 1 s) := by
          unfold fX7_takeNumber
          rw [if_neg hc2, show fX7_refuse F σ 1 = some (0, rfS σ 1 s) from C_ref x.1 1]; rfl
        have hm40 : fX11_mark F τ 40 = some (wrS τ 1 s) := by
          unfold fX11_mark
          simp only [jn, hbad, ↓reduceIte, M_isMarked hn hs hM hbad, bd1_some]
          rw [hS, if_pos (show bI false = 0 from rfl), show fX11_wrong F τ 1 = some (wrS τ 1 s) from M_wr x.1 1, bd1_some, if_neg (wr_bad (by decide))]
        have hb1 : wrS τ 1 s 0 25 ≠ 0 := wr_bad (by decide)
        rw [htk, bd2_some, if_pos rfl, hm40, bd1_some, hbx _ _ hb1, bd1_some, M_mark_bad hb1, bd1_some]
        exact ⟨_, _, rfl, rfl, rf_FL.fx, wr_FLm.fx, .inr ⟨rfl, rw_BD (by decide)⟩⟩
theorem SB_part {rx' : St → Int32 → Option St} : SB (fX11_readPart rx' F) := fun τ a h => by unfold fX11_readPart; rw [if_neg h]
end
