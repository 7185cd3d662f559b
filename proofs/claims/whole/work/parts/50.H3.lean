set_option linter.unusedVariables false
set_option linter.unusedSimpArgs false
set_option maxRecDepth 16384
/-! tokens of both sides together -/
def lJ (j : Nat) : Bool := [19, 21, 22, 23, 24, 25, 26].contains j
def FL (σ u : St) : Prop := ∀ c, c ≠ 28 → u c = σ c
def FLm (τ w : St) : Prop := (∀ c, c ≠ 0 → w c = τ c) ∧ (∀ j, lJ j = false → w 0 j = τ 0 j)
def PL (t : Nat → Int32) (n : Nat) (σ τ : St) (s : Nat) : Prop := LexC t n σ s ∧ LexM t n τ s ∧ s ≤ n ∧ τ 0 25 = 0
def BDp (u w : St) : Prop := ∃ f s : Nat, (1 ≤ f ∧ f ≤ 5) ∧ u 28 6 = qN f ∧ u 28 7 = qN s ∧ w 0 25 = qN f ∧ w 0 26 = qN s
theorem BDp.bad {u w : St} (h : BDp u w) : w 0 25 ≠ 0 := by
  obtain ⟨f, s, hf, _, _, h3, _⟩ := h
  rw [h3, show (0 : Int32) = qN 0 from rfl]
  intro h
  rw [q_eq (by omega) (by omega)] at h
  omega
theorem FL.rfl {σ : St} : FL σ σ := fun _ _ => Eq.refl _
theorem FL.trans {a b c : St} (h : FL a b) (k : FL b c) : FL a c := fun x hx => (k x hx).trans (h x hx)
theorem FLm.rfl {σ : St} : FLm σ σ := ⟨fun _ _ => Eq.refl _, fun _ _ => Eq.refl _⟩
theorem FLm.trans {a b c : St} (h : FLm a b) (k : FLm b c) : FLm a c := ⟨fun x hx => (k.1 x hx).trans (h.1 x hx), fun j hj => (k.2 j hj).trans (h.2 j hj)⟩
theorem rf_FL {σ : St} {f s : Nat} : FL σ (rfS σ f s) := fun c hc => by unfold rfS; rw [up_ne _ _ _ hc, up_ne _ _ _ hc]
theorem wr_FLm {τ : St} {f s : Nat} : FLm τ (wrS τ f s) := ⟨fun c hc => by unfold wrS; rw [up_ne _ _ _ hc, up_ne _ _ _ hc], fun j hj => by
  have h1 : j ≠ 25 := fun h => by subst h; exact absurd hj (by decide)
  have h2 : j ≠ 26 := fun h => by subst h; exact absurd hj (by decide)
  unfold wrS; rw [up_same, upd_ne _ _ h2, up_same, upd_ne _ _ h1]⟩
theorem rw_BD {σ τ : St} {f s : Nat} (hf : 1 ≤ f ∧ f ≤ 5) : BDp (rfS σ f s) (wrS τ f s) := by
  refine ⟨f, s, hf, ?_, ?_, ?_, ?_⟩
  · unfold rfS; rw [up_same, upd_ne _ _ (by decide), up_same, upd_same]
  · unfold rfS; rw [up_same, upd_same]
  · unfold wrS; rw [up_same, upd_ne _ _ (by decide), up_same, upd_same]
  · unfold wrS; rw [up_same, upd_same]
section
variable {F : Nat} {t : Nat → Int32} {n : Nat}
theorem P_next (hF : 800 ≤ F) (hn : n ≤ 700) (hb : ∀ k, 0 ≤ t k ∧ t k ≤ 255) {σ τ : St} {s : Nat} (h : PL t n σ τ s) :
    ∃ u w, fX7_nextToken F σ = some u ∧ fX11_stepOn F τ = some w ∧ PL t n u w (nxA t n s) ∧ FL σ u ∧ FLm τ w ∧ (∀ j, j ≠ 3 → j ≠ 4 → j ≠ 5 → u 28 j = σ 28 j) := by
  obtain ⟨hC, hM, hs, hbad⟩ := h
  obtain ⟨t1, t2, _⟩ := te_le (t := t) hn hs
  obtain ⟨u, hu, u1, u2, u3⟩ := C_next hF hn hC.1 hC.2.1 hC.2.2.1 t2 hC.2.2.2.2.2
  obtain ⟨w, hw, w1, w2, w3⟩ := M_step hF hn hb hM.1 hM.2.1 t2 hM.2.2.2.2.2.1
  have hnx := (nx_le (t := t) hn hs).2.1
  refine ⟨u, w, hu, hw, ⟨u1, w1, hnx, by rw [w3 25 (by decide) (by decide) (by decide) (by decide) (by decide)]; exact hbad⟩, u2, ⟨w2, fun j hj => ?_⟩, u3⟩
  simp [lJ] at hj
  exact w3 j (by omega) (by omega) (by omega) (by omega) (by omega)
theorem C_ref {σ τ : St} {s : Nat} (h : PL t n σ τ s) (f : Nat) : fX7_refuse F σ (qN f) = some (0, rfS σ f s) := C_refuse7 h.1.2.2.2.2.1 f
theorem M_wr {σ τ : St} {s : Nat} (h : PL t n σ τ s) (f : Nat) : fX11_wrong F τ (qN f) = some (wrS τ f s) := M_wrong h.2.1.2.2.2.1 h.2.2.2 f
theorem dig_at {s k : Nat} (hk2 : kdA t n s = 2) (hn : n ≤ 700) (hs : s ≤ n) (hk : k < teA t n s - s) : s + k < n ∧ ∃ d, t (s + k) = qN (48 + d) ∧ d < 10 := by
  have hsn : s < n := by
    apply Classical.byContradiction
    intro h
    have := kd_0 (t := t) (n := n) (p := s) |>.2 (by omega)
    omega
  obtain ⟨m, r1, r2, r3, r4⟩ := te_ex (t := t) hn hsn (.inr hk2)
  rw [r4] at hk
  have hkd := r2 k (by omega)
  rw [hk2] at hkd
  have hlt : s + k < n := by omega
  refine ⟨hlt, ?_⟩
  unfold kdA at hkd
  rw [if_neg (show ¬ n ≤ s + k by omega)] at hkd
  by_cases c1 : t (s + k) = 32
  · rw [if_pos c1] at hkd; omega
  rw [if_neg c1] at hkd
  by_cases c2 : t (s + k) = 10
  · rw [if_pos c2] at hkd; omega
  rw [if_neg c2] at hkd
  by_cases c3 : 97 ≤ t (s + k) ∧ t (s + k) ≤ 122
  · rw [if_pos c3] at hkd; omega
  rw [if_neg c3] at hkd
  by_cases c4 : 48 ≤ t (s + k) ∧ t (s + k) ≤ 57
  · obtain ⟨q, hq, hq2⟩ := q_get (x := t (s + k)) (n := 58) (by grind) (by show t (s + k) < 58; grind) (by decide)
    have : 48 ≤ q := by
      have h1 := c4.1
      rw [hq, show (48 : Int32) = qN 48 from rfl, q_le (by omega) (by omega)] at h1
      exact h1
    exact ⟨q - 48, by rw [hq]; congr 1; omega, by omega⟩
  · rw [if_neg c4] at hkd
    split at hkd <;> omega
theorem nu_lt {s : Nat} (hk2 : kdA t n s = 2) (hn : n ≤ 700) (hs : s ≤ n) : ∀ k, k ≤ teA t n s - s → k ≤ 4 → nuM t s k < 10 ^ k ∧ (k < teA t n s - s → k < 4 → ∃ d, t (s + k) = qN (48 + d) ∧ d < 10 ∧ nuM t s (k + 1) = 10 * nuM t s k + d) := by
  have hp : ∀ k, k ≤ 4 → 10 ^ k ≤ 10000 := fun k hk => by
    have : ∀ k : Fin 5, 10 ^ k.1 ≤ 10000 := by decide
    exact this ⟨k, by omega⟩
  intro k
  induction k with
  | zero =>
    intro h1 h2
    refine ⟨Nat.zero_lt_one, fun h3 h4 => ?_⟩
    obtain ⟨_, d, hd, hd10⟩ := dig_at hk2 hn hs (k := 0) h3
    refine ⟨d, hd, hd10, ?_⟩
    rw [show nuM t s (0 + 1) = min 100000 (10 * 0 + ((t (s + 0)).toNatClampNeg - 48)) from rfl, hd, q_clamp (by omega), Nat.min_eq_right (by omega), show nuM t s 0 = 0 from rfl]; omega
  | succ k ih =>
    intro h1 h2
    obtain ⟨i1, i2⟩ := ih (by omega) (by omega)
    obtain ⟨d, hd, hd10, he⟩ := i2 (by omega) (by omega)
    have hlt : nuM t s (k + 1) < 10 ^ (k + 1) := by rw [he, Nat.pow_succ]; omega
    refine ⟨hlt, fun h3 h4 => ?_⟩
    obtain ⟨_, d', hd', hd10'⟩ := dig_at hk2 hn hs (k := k + 1) h3
    have hpp := hp (k + 1) h2
    refine ⟨d', hd', hd10', ?_⟩
    rw [nuM, hd', q_clamp (by omega), Nat.min_eq_right (by omega)]; omega
theorem C_numHere (hF : 800 ≤ F) (hn : n ≤ 700) {σ : St} {s : Nat} (hs : s ≤ n) (hL : LexC t n σ s) : fX7_numberHere F σ = some (nO (nmA t n s)) := by
  obtain ⟨t1, t2, t3⟩ := te_le (t := t) hn hs
  have hk6 := kd_lt (t := t) (n := n) s
  refine wpE fun Q hQ => ?_
  unfold fX7_numberHere
  unfold nmA at hQ
  rw [hL.2.2.2.1, hL.2.2.2.2.1, hL.2.2.2.2.2]
  by_cases hk : kdA t n s = 2
  · rw [if_pos (show qN (kdA t n s) = 2 by rw [hk]; rfl), q_sub t1]
    by_cases h4 : teA t n s - s ≤ 4
    · rw [if_pos (show qN (teA t n s - s) ≤ 4 by rw [show (4 : Int32) = qN 4 from rfl, q_le (by omega) (by omega)]; exact h4)]
      rw [if_pos ⟨hk, h4⟩] at hQ
      refine wn fun x1 e1 => ?_
      subst e1
      refine lp_up Q (fun k (v : Int32 × Int32) => v.1 = qN (s + k) ∧ v.2 = qN (nuM t s k)) (teA t n s - s) ?_ F 0 _ (by omega) (by omega) ⟨rfl, rfl⟩
      rintro k ⟨c, acc⟩ K hk' ⟨hc, hacc⟩ hK
      dsimp only at hc hacc
      subst hc hacc
      dsimp only
      by_cases hkt : k = teA t n s - s
      · refine wiT (by rw [q_le (by omega) (by omega)]; omega) ?_
        rw [hkt]; exact hQ
      · refine wiF (by rw [q_le (by omega) (by omega)]; omega) (wb1 (C_byteAt hn hL (by omega)) (wn fun x6 e6 => hK _ (by omega) ⟨q_add _ 1, ?_⟩))
        obtain ⟨i1, i2⟩ := nu_lt hk hn hs k (by omega) (by omega)
        obtain ⟨d, hd, hd10, he⟩ := i2 (by omega) (by omega)
        show x6 = qN (nuM t s (k + 1))
        rw [e6, hd, he, show (10 : Int32) = qN 10 from rfl, q_mul, q_add, show (48 : Int32) = qN 48 from rfl, q_sub (by omega)]
        congr 1; omega
    · rw [if_neg (show ¬ qN (teA t n s - s) ≤ 4 by rw [show (4 : Int32) = qN 4 from rfl, q_le (by omega) (by omega)]; exact h4)]
      rw [if_neg (fun h => h4 h.2)] at hQ; exact hQ
  · rw [if_neg (show ¬ qN (kdA t n s) = 2 by rw [show (2 : Int32) = qN 2 from rfl, q_eq (by omega) (by omega)]; exact hk)]
    rw [if_neg (fun h => hk h.1)] at hQ; exact hQ
/-- a number taken by both -/
theorem P_num (hF : 800 ≤ F) (hn : n ≤ 700) (hb : ∀ k, 0 ≤ t k ∧ t k ≤ 255) {σ τ : St} {s : Nat} (h : PL t n σ τ s) {lo hi : Nat} (hlo : lo ≤ 9999) (hhi : hi ≤ 9999) :
    (∃ v u w, fX7_takeNumber F σ (qN lo) (qN hi) = some (qN v, u) ∧ fX11_readNumber F τ (qN lo) (qN hi) = some (qN v, w) ∧ lo ≤ v ∧ v ≤ hi ∧ PL t n u w (nxA t n s) ∧ s < nxA t n s ∧ FL σ u ∧ FLm τ w ∧ nmA t n s = some v) ∨
    (∃ u w, fX7_takeNumber F σ (qN lo) (qN hi) = some (-1, u) ∧ fX11_readNumber F τ (qN lo) (qN hi) = some (0, w) ∧ BDp u w ∧ FL σ u ∧ FLm τ w) := by
  have h' := h
  obtain ⟨hC, hM, hs, hbad⟩ := h
  obtain ⟨t1, t2, t3⟩ := te_le (t := t) hn hs
  have hk6 := kd_lt (t := t) (n := n) s
  have hCk := hC.2.2.2.1
  by_cases hk : kdA t n s = 2
  · have hc2 : σ 28 3 = 2 := by rw [hCk, hk]; rfl
    have hm2 : τ 0 21 = 2 := by rw [hM.2.2.1]; exact (mkT_1 hk6).2.1.2 hk
    have h22 := hM.2.2.2.2.2.2 hk
    have hst : τ 0 24 - τ 0 23 = qN (teA t n s - s) := by rw [hM.2.2.2.2.1, hM.2.2.2.1, q_sub t1]
    have hle := nuM_le (t := t) s (teA t n s - s)
    by_cases h4 : teA t n s - s ≤ 4
    · have hnm : nmA t n s = some (nuM t s (teA t n s - s)) := by unfold nmA; rw [if_pos ⟨hk, h4⟩]
      by_cases hr : lo ≤ nuM t s (teA t n s - s) ∧ nuM t s (teA t n s - s) ≤ hi
      · obtain ⟨u, w, hu, hw, hP, fu, fw, _⟩ := P_next hF hn hb h'
        refine .inl ⟨nuM t s (teA t n s - s), u, w, ?_, ?_, hr.1, hr.2, hP, (nx_le (t := t) hn hs).2.2.1 (by omega), fu, fw, hnm⟩
        · unfold fX7_takeNumber
          rw [if_pos hc2, C_numHere hF hn hs hC, bd1_some, hnm]
          simp only [jn]
          show (if qN _ < qN lo then _ else if qN _ ≤ qN hi then _ else _) = _
          rw [if_neg (by rw [q_lt (by omega) (by omega)]; omega), if_pos (by rw [q_le (by omega) (by omega)]; exact hr.2), hu]; rfl
        · unfold fX11_readNumber fX11_numberNow
          simp only [jn, hbad, hm2, hst, h22, ↓reduceIte]
          rw [if_neg (show ¬ 4 < qN (teA t n s - s) by rw [show (4 : Int32) = qN 4 from rfl, q_lt (by omega) (by omega)]; omega), if_neg (show ¬ qN (nuM t s (teA t n s - s)) < qN lo by rw [q_lt (by omega) (by omega)]; omega), if_pos (show qN (nuM t s (teA t n s - s)) ≤ qN hi by rw [q_le (by omega) (by omega)]; exact hr.2), bd2_some, if_pos hbad, hw]; rfl
      · have hwr : fX11_wrong F τ 2 = some (wrS τ 2 s) := M_wr h' 2
        refine .inr ⟨rfS σ 2 s, wrS τ 2 s, ?_, ?_, rw_BD (by decide), rf_FL, wr_FLm⟩
        · unfold fX7_takeNumber
          rw [if_pos hc2, C_numHere hF hn hs hC, bd1_some, hnm]
          simp only [jn]
          show (if qN _ < qN lo then _ else if qN _ ≤ qN hi then _ else _) = _
          rw [show fX7_refuse F σ 2 = some (0, rfS σ 2 s) from C_ref h' 2]
          by_cases h1 : nuM t s (teA t n s - s) < lo
          · rw [if_pos (by rw [q_lt (by omega) (by omega)]; exact h1)]; rfl
          · rw [if_neg (by rw [q_lt (by omega) (by omega)]; exact h1), if_neg (by rw [q_le (by omega) (by omega)]; omega)]; rfl
        · unfold fX11_readNumber fX11_numberNow
          simp only [jn, hbad, hm2, hst, h22, ↓reduceIte, hwr, bd1_some]
          rw [if_neg (show ¬ 4 < qN (teA t n s - s) by rw [show (4 : Int32) = qN 4 from rfl, q_lt (by omega) (by omega)]; omega), if_neg (wr_bad (τ := τ) (f := 2) (s := s) (by decide))]
          by_cases h1 : nuM t s (teA t n s - s) < lo
          · rw [if_pos (by rw [q_lt (by omega) (by omega)]; exact h1), bd2_some, if_neg (wr_bad (by decide))]
          · rw [if_neg (by rw [q_lt (by omega) (by omega)]; exact h1), if_neg (by rw [q_le (by omega) (by omega)]; omega), bd2_some, if_neg (wr_bad (by decide))]
    · have hwr : fX11_wrong F τ 2 = some (wrS τ 2 s) := M_wr h' 2
      have hnm : nmA t n s = none := by unfold nmA; rw [if_neg (fun h => h4 h.2)]
      refine .inr ⟨rfS σ 2 s, wrS τ 2 s, ?_, ?_, rw_BD (by decide), rf_FL, wr_FLm⟩
      · unfold fX7_takeNumber
        rw [if_pos hc2, C_numHere hF hn hs hC, bd1_some, hnm]
        simp only [jn]
        show (if (-1 : Int32) < qN lo then _ else if (-1 : Int32) ≤ qN hi then _ else _) = _
        rw [show fX7_refuse F σ 2 = some (0, rfS σ 2 s) from C_ref h' 2, if_pos (by
          have : 0 ≤ qN lo := by rw [show (0 : Int32) = qN 0 from rfl, q_le (by omega) (by omega)]; omega
          grind)]; rfl
      · unfold fX11_readNumber fX11_numberNow
        simp only [jn, hbad, hm2, hst, ↓reduceIte, hwr, bd1_some]
        rw [if_pos (show 4 < qN (teA t n s - s) by rw [show (4 : Int32) = qN 4 from rfl, q_lt (by omega) (by omega)]; omega), if_neg (wr_bad (τ := τ) (f := 2) (s := s) (by decide)), bd2_some, if_neg (wr_bad (by decide))]
  · have hc2 : ¬ σ 28 3 = 2 := by rw [hCk, show (2 : Int32) = qN 2 from rfl, q_eq (by omega) (by omega)]; exact hk
    have hm2 : ¬ τ 0 21 = 2 := by rw [hM.2.2.1]; exact fun h => hk ((mkT_1 hk6).2.1.1 h)
    have hwr : fX11_wrong F τ 1 = some (wrS τ 1 s) := M_wr h' 1
    refine .inr ⟨rfS σ 1 s, wrS τ 1 s, ?_, ?_, rw_BD (by decide), rf_FL, wr_FLm⟩
    · unfold fX7_takeNumber
      rw [if_neg hc2, show fX7_refuse F σ 1 = some (0, rfS σ 1 s) from C_ref h' 1]; rfl
    · unfold fX11_readNumber fX11_numberNow
      simp only [jn, hbad, if_neg hm2, ↓reduceIte, hwr, bd1_some]
      rw [if_neg (wr_bad (τ := τ) (f := 1) (s := s) (by decide)), bd2_some, if_neg (wr_bad (by decide))]
/-- a sign that must stand there -/
theorem P_sign (hF : 800 ≤ F) (hn : n ≤ 700) (hb : ∀ k, 0 ≤ t k ∧ t k ≤ 255) {σ τ : St} {s : Nat} (h : PL t n σ τ s) (c : Int32) :
    (∃ u w, fX7_takeSign F σ c = some (1, u) ∧ fX11_mark F τ c = some w ∧ PL t n u w (nxA t n s) ∧ s < nxA t n s ∧ FL σ u ∧ FLm τ w) ∨
    (∃ u w, fX7_takeSign F σ c = some (0, u) ∧ fX11_mark F τ c = some w ∧ BDp u w ∧ FL σ u ∧ FLm τ w) := by
  have h' := h
  obtain ⟨hC, hM, hs, hbad⟩ := h
  unfold fX7_takeSign fX11_mark
  rw [C_isSign hn hs hC, bd1_some]
  simp only [jn, hbad, ↓reduceIte, M_isMarked hn hs hM hbad, bd1_some]
  cases hS : isS t n s c with
  | true =>
    obtain ⟨u, w, hu, hw, hP, fu, fw, _⟩ := P_next hF hn hb h'
    have hk0 : kdA t n s ≠ 0 := fun h => by unfold isS at hS; rw [decide_eq_false (by omega)] at hS; cases hS
    refine .inl ⟨u, w, ?_, ?_, hP, (nx_le (t := t) hn hs).2.2.1 hk0, fu, fw⟩
    · rw [if_neg (show ¬ bI true = 0 by decide), hu]; rfl
    · rw [if_neg (show ¬ bI true = 0 by decide), hw]; rfl
  | false =>
    refine .inr ⟨rfS σ 1 s, wrS τ 1 s, ?_, ?_, rw_BD (by decide), rf_FL, wr_FLm⟩
    · rw [if_pos (show bI false = 0 from rfl), show fX7_refuse F σ 1 = some (0, rfS σ 1 s) from C_ref h' 1, bd2_some, ckB0]
    · rw [if_pos (show bI false = 0 from rfl), show fX11_wrong F τ 1 = some (wrS τ 1 s) from M_wr h' 1, bd1_some, if_neg (wr_bad (by decide))]
theorem M_mark_bad {τ : St} (hbad : τ 0 25 ≠ 0) (c : Int32) : fX11_mark F τ c = some τ := by
  unfold fX11_mark
  simp only [jn]
  rw [if_neg hbad, if_neg hbad]
end
