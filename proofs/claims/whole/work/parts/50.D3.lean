set_option linter.unusedVariables false
set_option linter.unusedSimpArgs false
set_option maxRecDepth 16384
/-! walks over steps -/
def wkS (f : Nat → Po → Option Po) : Nat → Nat → Po → Option Nat × Po
  | _, 0, p => (none, p)
  | i, m + 1, p => match f i p with
    | none => (some i, p)
    | some q => wkS f (i + 1) m q
def sf (fl k0 k1 : Int32) (kd wh ns : Nat → Int32) (i : Nat) (p : Po) : Option Po := stS fl (kd i) (wh i) (ns i) k0 k1 p
def PB (S : Nat) (k0 k1 : Int32) (kd wh ns : Nat → Int32) : Prop := S ≤ 10 ∧ (0 ≤ k0 ∧ k0 ≤ 1000) ∧ (0 ≤ k1 ∧ k1 ≤ 1000) ∧ ∀ i, i < S → (0 ≤ kd i ∧ kd i ≤ 4) ∧ (0 ≤ wh i ∧ wh i ≤ 2) ∧ (0 ≤ ns i ∧ ns i ≤ 9)
def CP (σ : St) (d S : Nat) (fl k0 k1 : Int32) (kd wh ns : Nat → Int32) : Prop := d < 8 ∧ σ 66 3 = qN d ∧ σ 66 4 = qN S ∧ σ 66 5 = k0 ∧ σ 66 6 = k1 ∧ σ 2 2 = fl ∧ ∀ i, i < S → σ 8 (10 * d + i) = kd i ∧ σ 9 (10 * d + i) = wh i ∧ σ 71 i = ns i
def MP (F : Nat) (τ : St) (d S : Nat) (fl k0 k1 : Int32) (kd wh ns : Nat → Int32) : Prop := d < 8 ∧ DXY τ ∧ τ 5 2 = fl ∧ τ 10 d = qN S ∧ (∀ τ', ExM τ τ' → fX11_stiff F τ' (qN d) 0 = some k0) ∧ (∀ τ', ExM τ τ' → fX11_stiff F τ' (qN d) 1 = some k1) ∧ ∀ i, i < S → τ 11 (10 * d + i) = kd i ∧ τ 12 (10 * d + i) = wh i ∧ τ 13 (10 * d + i) = ns i
section
variable {F d S : Nat} {fl k0 k1 : Int32} {kd wh ns : Nat → Int32}
theorem CP.ex {σ σ' : St} (h : CP σ d S fl k0 k1 kd wh ns) (e : ExC σ σ') : CP σ' d S fl k0 k1 kd wh ns := by
  unfold CP at h ⊢
  rw [e 66 (by decide) (by decide) (by decide), e 2 (by decide) (by decide) (by decide), e 8 (by decide) (by decide) (by decide), e 9 (by decide) (by decide) (by decide), e 71 (by decide) (by decide) (by decide)]
  exact h
theorem MP.ex {τ τ' : St} (h : MP F τ d S fl k0 k1 kd wh ns) (e : ExM τ τ') : MP F τ' d S fl k0 k1 kd wh ns := by
  unfold MP DXY at h ⊢
  rw [e 3 (by decide) (by decide) (by decide), e 4 (by decide) (by decide) (by decide), e 5 (by decide) (by decide) (by decide), e 10 (by decide) (by decide) (by decide), e 11 (by decide) (by decide) (by decide), e 12 (by decide) (by decide) (by decide), e 13 (by decide) (by decide) (by decide)]
  obtain ⟨h1, h2, h3, h4, h5, h6, h7⟩ := h
  exact ⟨h1, h2, h3, h4, fun u hu => h5 u (e.trans hu), fun u hu => h6 u (e.trans hu), h7⟩
def nO (o : Option Nat) : Int32 := match o with
  | none => -1
  | some i => qN i
theorem wk_ok (hB : PB S k0 k1 kd wh ns) : ∀ (m i : Nat) (p : Po), i + m ≤ S → PoOk p → PoOk (wkS (sf fl k0 k1 kd wh ns) i m p).2 := by
  intro m
  induction m with
  | zero => intro i p h hp; exact hp
  | succ m ih =>
    intro i p h hp
    unfold wkS
    have hb := hB.2.2.2 i (by omega)
    cases hf : sf fl k0 k1 kd wh ns i p with
    | none => exact hp
    | some q => exact ih (i + 1) q (by omega) (st_sd hb.2.2.1 hb.2.2.2 hp hf)
theorem wk_lt {f : Nat → Po → Option Po} : ∀ (m i : Nat) (p : Po) (j : Nat), (wkS f i m p).1 = some j → i ≤ j ∧ j < i + m := by
  intro m
  induction m with
  | zero => intro i p j h; cases h
  | succ m ih =>
    intro i p j h
    unfold wkS at h
    cases hf : f i p with
    | none => rw [hf] at h; injection h with h; omega
    | some q => rw [hf] at h; have := ih (i + 1) q j h; omega
theorem C_walk (hF : 20 ≤ F) (hB : PB S k0 k1 kd wh ns) {σ : St} (hC : CP σ d S fl k0 k1 kd wh ns) {p : Po} (hA : AtC σ p) (hp : PoOk p) {a b : Nat} (hab : a ≤ b) (hb : b ≤ S) :
    ∃ x, fX2_walk F σ (qN a) (qN b) = some x ∧ x.1 = nO (wkS (sf fl k0 k1 kd wh ns) a (b - a) p).1 ∧ AtC x.2 (wkS (sf fl k0 k1 kd wh ns) a (b - a) p).2 ∧ ExC σ x.2 := by
  refine wpI fun Q hQ => ?_
  unfold fX2_walk
  have hS := hB.1
  generalize hw : wkS (sf fl k0 k1 kd wh ns) a (b - a) p = w at *
  refine lp_up Q (fun i (v : St × Int32) => ExC σ v.1 ∧ v.2 = qN (a + i) ∧ ∃ q, AtC v.1 q ∧ PoOk q ∧ w = wkS (sf fl k0 k1 kd wh ns) (a + i) (b - a - i) q) (b - a) ?_ F 0 _ (by omega) (by omega) ⟨ExC.rfl, rfl, p, hA, hp, hw.symm⟩
  rintro i ⟨u, c⟩ K hi ⟨hE, hc, q, hAq, hq, hwq⟩ hK
  dsimp only at hE hc hAq
  subst hc
  dsimp only
  refine wi (fun hle => ?_) fun hle => ?_
  · rw [q_le (by omega) (by omega)] at hle
    have : b - a - i = 0 := by omega
    rw [this] at hwq
    exact hQ _ (by rw [hwq]; exact ⟨rfl, hAq, hE⟩)
  · rw [q_le (by omega) (by omega)] at hle
    have hm : b - a - i = (b - a - (i + 1)) + 1 := by omega
    rw [hm] at hwq
    have hC2 := hC.ex hE
    obtain ⟨c1, c2, c3, c4, c5, c6, c7⟩ := id hC2
    have hbb := hB.2.2.2 (a + i) (by omega)
    have h7 := c7 (a + i) (by omega)
    obtain ⟨x, hx, x1, x2, x3⟩ := C_takes hF c1 (show a + i < 10 by omega) c2 h7.1 h7.2.1 h7.2.2 c4 c5 c6 hbb.2.2 hB.2.1 hB.2.2.1 hbb.1 hbb.2.1 hAq hq
    refine wb2 (r := x.1) (u := x.2) hx ?_
    have hsf : sf fl k0 k1 kd wh ns (a + i) q = stS fl (kd (a + i)) (wh (a + i)) (ns (a + i)) k0 k1 q := rfl
    rw [← hsf] at x1 x2
    cases hf : sf fl k0 k1 kd wh ns (a + i) q with
    | none =>
      rw [hf] at x1 x2
      rw [if_pos (show x.1 = 0 from x1)]
      refine hQ _ ?_
      rw [hwq]; unfold wkS; rw [hf]
      exact ⟨rfl, x2, hE.trans x3⟩
    | some r =>
      rw [hf] at x1 x2
      rw [if_neg (by rw [show x.1 = 1 from x1]; decide)]
      refine hK _ (by omega) ⟨hE.trans x3, ?_, r, x2, st_sd hbb.2.2.1 hbb.2.2.2 hq hf, ?_⟩
      · exact q_add (a + i) 1
      · rw [hwq]; rw [wkS, hf]; rfl
def p0 (fl : Int32) : Po := (0, fl / 2, 0, fl - 1, fl / 2, 2)
theorem p0_ok (fl : Int32) : PoOk (p0 fl) := ⟨⟨0, rfl, by decide⟩, ⟨2, rfl, by decide⟩⟩
theorem C_begin (σ : St) (fl : Int32) : ∃ x, fX3_begin F σ fl = some x ∧ AtC x (p0 fl) ∧ ExC σ x := by
  unfold fX3_begin
  simp only [nm]
  refine ⟨_, rfl, ?_, ?_⟩
  · simp [AtC, p0, up, upd]
  · intro c h1 h2 h3; simp [up, h1, h2, h3]
theorem M_danceTo (hF : 20 ≤ F) (hB : PB S k0 k1 kd wh ns) {τ : St} (hM : MP F τ d S fl k0 k1 kd wh ns) {b : Nat} (hb : b ≤ S) :
    ∃ x, fX11_danceTo F τ (qN d) (qN b) = some x ∧ x.1 = (match (wkS (sf fl k0 k1 kd wh ns) 0 b (p0 fl)).1 with | none => qN b | some i => qN i) ∧ AtM x.2 (wkS (sf fl k0 k1 kd wh ns) 0 b (p0 fl)).2 ∧ ExM τ x.2 := by
  refine wpI fun Q hQ => ?_
  unfold fX11_danceTo
  have hS := hB.1
  have h52 := hM.2.2.1
  refine wn fun u1 e1 => wn fun u2 e2 => wn fun u3 e3 => wn fun u4 e4 => wn fun u5 e5 => wn fun u6 e6 => ?_
  have hA0 : AtM u6 (p0 fl) := by
    subst e6 e5 e4 e3 e2 e1
    simp [AtM, p0, up, upd, h52]
  have hE0 : ExM τ u6 := by
    intro c h1 h2 h3
    subst e6 e5 e4 e3 e2 e1
    simp [up, h1, h2, h3]
  clear e1 e2 e3 e4 e5 e6
  generalize hw : wkS (sf fl k0 k1 kd wh ns) 0 b (p0 fl) = w at *
  refine lp_up Q (fun i (v : St × Int32) => ExM τ v.1 ∧ v.2 = qN i ∧ ∃ q, AtM v.1 q ∧ PoOk q ∧ w = wkS (sf fl k0 k1 kd wh ns) i (b - i) q) b ?_ F 0 _ (by omega) (by omega) ⟨hE0, rfl, p0 fl, hA0, p0_ok fl, hw.symm⟩
  rintro i ⟨u, c⟩ K hi ⟨hE, hc, q, hAq, hq, hwq⟩ hK
  dsimp only at hE hc hAq
  subst hc
  dsimp only
  refine wi (fun hle => ?_) fun hle => ?_
  · rw [q_le (by omega) (by omega)] at hle
    have : b - i = 0 := by omega
    rw [this] at hwq
    exact hQ _ (by rw [hwq]; exact ⟨rfl, hAq, hE⟩)
  · rw [q_le (by omega) (by omega)] at hle
    have hm : b - i = (b - (i + 1)) + 1 := by omega
    rw [hm] at hwq
    obtain ⟨c1, c2, c3, c4, c5, c6, c7⟩ := hM.ex hE
    have hbb := hB.2.2.2 i (by omega)
    have h7 := c7 i (by omega)
    obtain ⟨x, hx, x1, x2, x3⟩ := M_dances hF c2 c1 (show i < 10 by omega) h7.1 h7.2.1 h7.2.2 c5 c6 hbb.2.2 hB.2.1 hB.2.2.1 hbb.1 hbb.2.1 hAq hq
    refine wb2 (r := x.1) (u := x.2) hx ?_
    have hsf : sf fl k0 k1 kd wh ns i q = stS (u 5 2) (kd i) (wh i) (ns i) k0 k1 q := by rw [c3]; rfl
    rw [← hsf] at x1 x2
    cases hf : sf fl k0 k1 kd wh ns i q with
    | none =>
      rw [hf] at x1 x2
      rw [if_pos (show x.1 = 0 from x1)]
      refine hQ _ ?_
      rw [hwq]; unfold wkS; rw [hf]
      exact ⟨rfl, x2, hE.trans x3⟩
    | some r =>
      rw [hf] at x1 x2
      rw [if_neg (by rw [show x.1 = 1 from x1]; decide)]
      refine hK _ (by omega) ⟨hE.trans x3, ?_, r, x2, st_sd hbb.2.2.1 hbb.2.2.2 hq hf, ?_⟩
      · exact q_add i 1
      · rw [hwq]; rw [wkS, hf]
/-! facing -/
def lkS (x y s ox oy : Int32) : Bool := decide ((ox - x) * dDN s.toNatClampNeg = (oy - y) * dAL s.toNatClampNeg) && !decide ((ox - x) * dAL s.toNatClampNeg + (oy - y) * dDN s.toNatClampNeg ≤ 0)
def fcS (p : Po) : Bool := lkS p.1 p.2.1 p.2.2.1 p.2.2.2.1 p.2.2.2.2.1 && lkS p.2.2.2.1 p.2.2.2.2.1 p.2.2.2.2.2 p.1 p.2.1
def bI (b : Bool) : Int32 := if b then 1 else 0
theorem i10 : (1 - 0 : Int32) = 1 := by decide
theorem i11 : (1 - 1 : Int32) = 0 := by decide
theorem c0 : (0 : Int32).toNatClampNeg = 0 := by decide
theorem c1 : (1 : Int32).toNatClampNeg = 1 := by decide
theorem ck02 {α : Type} (x : Option α) : ckI 0 2 x = x := ck_ok (k := 0) (by decide) (by decide)
theorem ck12 {α : Type} (x : Option α) : ckI 1 2 x = x := ck_ok (k := 1) (by decide) (by decide)
theorem lk_c (a b c e : Int32) : (if a = b then (if c ≤ 0 then some (0 : Int32) else some 1) else some 0) = some (bI (decide (a = b) && !decide (c ≤ 0))) := by
  by_cases h1 : a = b
  · rw [if_pos h1]
    by_cases h2 : c ≤ 0
    · rw [if_pos h2, decide_eq_true h1, decide_eq_true h2]; rfl
    · rw [if_neg h2, decide_eq_true h1, decide_eq_false h2]; rfl
  · rw [if_neg h1, decide_eq_false h1]; rfl
theorem C_looks0 {σ : St} {p : Po} (hA : AtC σ p) (hp : PoOk p) : fX3_looksAtOther F σ 0 = some (bI (lkS p.1 p.2.1 p.2.2.1 p.2.2.2.1 p.2.2.2.2.1)) := by
  obtain ⟨g1, g2, g3, g4, g5, g6⟩ := hA
  refine wpE fun Q hQ => ?_
  unfold fX3_looksAtOther
  refine wk (k := 1) rfl (by decide) (by decide) (wk (k := 0) rfl (by decide) (by decide) (wn fun x1 e1 => ?_))
  refine wk (k := 1) rfl (by decide) (by decide) (wk (k := 0) rfl (by decide) (by decide) (wn fun x2 e2 => ?_))
  have e1' : x1 = p.2.2.2.1 - p.1 := e1.trans (by rw [← g4, ← g1]; rfl)
  have e2' : x2 = p.2.2.2.2.1 - p.2.1 := e2.trans (by rw [← g5, ← g2]; rfl)
  refine wk (k := 0) rfl (by decide) (by decide) ?_
  have hs : σ 70 (Int32.toNatClampNeg 0) = p.2.2.1 := g3
  simp only [hs]
  rw [ck_sd hp.1]
  refine wn fun x3 e3 => wk (k := 0) rfl (by decide) (by decide) ?_
  rw [ck_sd hp.1]
  refine wn fun x4 e4 => ?_
  have := lk_c (x1 * x4) (x2 * x3) (x1 * x3 + x2 * x4) 0
  rw [this, e1', e2', e3, e4]
  exact hQ
theorem C_looks1 {σ : St} {p : Po} (hA : AtC σ p) (hp : PoOk p) : fX3_looksAtOther F σ 1 = some (bI (lkS p.2.2.2.1 p.2.2.2.2.1 p.2.2.2.2.2 p.1 p.2.1)) := by
  obtain ⟨g1, g2, g3, g4, g5, g6⟩ := hA
  refine wpE fun Q hQ => ?_
  unfold fX3_looksAtOther
  refine wk (k := 0) rfl (by decide) (by decide) (wk (k := 1) rfl (by decide) (by decide) (wn fun x1 e1 => ?_))
  refine wk (k := 0) rfl (by decide) (by decide) (wk (k := 1) rfl (by decide) (by decide) (wn fun x2 e2 => ?_))
  have e1' : x1 = p.1 - p.2.2.2.1 := e1.trans (by rw [← g4, ← g1]; rfl)
  have e2' : x2 = p.2.1 - p.2.2.2.2.1 := e2.trans (by rw [← g5, ← g2]; rfl)
  refine wk (k := 1) rfl (by decide) (by decide) ?_
  have hs : σ 70 (Int32.toNatClampNeg 1) = p.2.2.2.2.2 := g6
  simp only [hs]
  rw [ck_sd hp.2]
  refine wn fun x3 e3 => wk (k := 1) rfl (by decide) (by decide) ?_
  rw [ck_sd hp.2]
  refine wn fun x4 e4 => ?_
  have := lk_c (x1 * x4) (x2 * x3) (x1 * x3 + x2 * x4) 0
  rw [this, e1', e2', e3, e4]
  exact hQ
theorem C_facing {σ : St} {p : Po} (hA : AtC σ p) (hp : PoOk p) : fX3_areFacing F σ = some (bI (fcS p)) := by
  unfold fX3_areFacing
  rw [C_looks0 hA hp, C_looks1 hA hp]
  unfold fcS
  cases lkS p.1 p.2.1 p.2.2.1 p.2.2.2.1 p.2.2.2.2.1 <;> cases lkS p.2.2.2.1 p.2.2.2.2.1 p.2.2.2.2.2 p.1 p.2.1 <;> rfl
theorem lk_d (a b c e : Int32) (P : Prop) [Decidable P] (hP : (a = b) ↔ P) (h : c = e) : (if P then (if c ≤ 0 then some (0 : Int32) else some 1) else some 0) = some (bI (decide (a = b) && !decide (e ≤ 0))) := by
  subst h
  rw [← lk_c a b c 0]
  by_cases hp : P
  · rw [if_pos hp, if_pos (hP.2 hp)]
  · rw [if_neg hp, if_neg (fun h => hp (hP.1 h))]
theorem lk_eq (a b : Int32) {s : Nat} (hs : s < 4) : (if dAL s = 0 then (if a = 0 then (if b * dDN s ≤ 0 then some (0 : Int32) else some 1) else some 0) else if b = 0 then (if a * dAL s ≤ 0 then some 0 else some 1) else some 0) = some (bI (decide (a * dDN s = b * dAL s) && !decide (a * dAL s + b * dDN s ≤ 0))) := by
  rcases (by omega : s = 0 ∨ s = 1 ∨ s = 2 ∨ s = 3) with rfl | rfl | rfl | rfl
  · rw [if_neg (by decide)]
    exact lk_d _ _ _ _ _ (by show a * 0 = b * 1 ↔ _; grind) (by show a * 1 = a * 1 + b * 0; grind)
  · rw [if_pos (by decide)]
    exact lk_d _ _ _ _ _ (by show a * 1 = b * 0 ↔ _; grind) (by show b * 1 = a * 0 + b * 1; grind)
  · rw [if_neg (by decide)]
    exact lk_d _ _ _ _ _ (by show a * 0 = b * (-1) ↔ _; grind) (by show a * (-1) = a * (-1) + b * 0; grind)
  · rw [if_pos (by decide)]
    exact lk_d _ _ _ _ _ (by show a * (-1) = b * 0 ↔ _; grind) (by show b * (-1) = a * 0 + b * (-1); grind)
theorem ck_sdE {s : Int32} (h : sdOk s) : ∃ k : Nat, s = qN k ∧ k < 4 ∧ s.toNatClampNeg = k := by
  obtain ⟨a, rfl, ha⟩ := h; exact ⟨a, rfl, ha, q_clamp (by omega)⟩
theorem M_looks0 {τ : St} (hD : DXY τ) {p : Po} (hA : AtM τ p) (hp : PoOk p) : fX11_looks F τ 0 = some (bI (lkS p.1 p.2.1 p.2.2.1 p.2.2.2.1 p.2.2.2.2.1)) := by
  obtain ⟨g1, g2, g3, g4, g5, g6⟩ := hA
  refine wpE fun Q hQ => ?_
  unfold fX11_looks
  refine wk (k := 1) rfl (by decide) (by decide) (wk (k := 0) rfl (by decide) (by decide) (wn fun x1 e1 => ?_))
  refine wk (k := 1) rfl (by decide) (by decide) (wk (k := 0) rfl (by decide) (by decide) (wn fun x2 e2 => ?_))
  have e1' : x1 = p.2.2.2.1 - p.1 := e1.trans (by rw [← g4, ← g1]; rfl)
  have e2' : x2 = p.2.2.2.2.1 - p.2.1 := e2.trans (by rw [← g5, ← g2]; rfl)
  refine wk (k := 0) rfl (by decide) (by decide) (wn fun x3 e3 => ?_)
  have hs : x3 = p.2.2.1 := e3.trans g3
  obtain ⟨k, hk, hk4, hkc⟩ := ck_sdE hp.1
  have hx : x3.toNatClampNeg = k := by rw [hs, hkc]
  rw [ck_sd (by rw [hs]; exact hp.1), ck_sd (by rw [hs]; exact hp.1), ck_sd (by rw [hs]; exact hp.1)]
  simp only [hx, (hD k hk4).1, (hD k hk4).2]
  rw [lk_eq x1 x2 hk4, e1', e2', ← hkc]
  exact hQ
theorem M_looks1 {τ : St} (hD : DXY τ) {p : Po} (hA : AtM τ p) (hp : PoOk p) : fX11_looks F τ 1 = some (bI (lkS p.2.2.2.1 p.2.2.2.2.1 p.2.2.2.2.2 p.1 p.2.1)) := by
  obtain ⟨g1, g2, g3, g4, g5, g6⟩ := hA
  refine wpE fun Q hQ => ?_
  unfold fX11_looks
  refine wk (k := 0) rfl (by decide) (by decide) (wk (k := 1) rfl (by decide) (by decide) (wn fun x1 e1 => ?_))
  refine wk (k := 0) rfl (by decide) (by decide) (wk (k := 1) rfl (by decide) (by decide) (wn fun x2 e2 => ?_))
  have e1' : x1 = p.1 - p.2.2.2.1 := e1.trans (by rw [← g4, ← g1]; rfl)
  have e2' : x2 = p.2.1 - p.2.2.2.2.1 := e2.trans (by rw [← g5, ← g2]; rfl)
  refine wk (k := 1) rfl (by decide) (by decide) (wn fun x3 e3 => ?_)
  have hs : x3 = p.2.2.2.2.2 := e3.trans g6
  obtain ⟨k, hk, hk4, hkc⟩ := ck_sdE hp.2
  have hx : x3.toNatClampNeg = k := by rw [hs, hkc]
  rw [ck_sd (by rw [hs]; exact hp.2), ck_sd (by rw [hs]; exact hp.2), ck_sd (by rw [hs]; exact hp.2)]
  simp only [hx, (hD k hk4).1, (hD k hk4).2]
  rw [lk_eq x1 x2 hk4, e1', e2', ← hkc]
  exact hQ
/-! a whole dance -/
def efS (fl : Int32) (f : Nat → Po → Option Po) (S : Nat) : Bool := (wkS f 0 S (p0 fl)).1.isNone && fcS (wkS f 0 S (p0 fl)).2
theorem nO_eq {o : Option Nat} (h : ∀ i, o = some i → i < 2147483648) : (nO o = -1) ↔ o.isNone = true := by
  cases o with
  | none => exact ⟨fun _ => rfl, fun _ => rfl⟩
  | some i =>
    constructor
    · intro hh; exact ((q_neg1 (h i rfl)).1 hh).elim
    · intro hh; cases hh
theorem C_endsFacing (hF : 20 ≤ F) (hB : PB S k0 k1 kd wh ns) {σ : St} (hC : CP σ d S fl k0 k1 kd wh ns) :
    ∃ x, fX2_endsFacing F σ = some x ∧ x.1 = bI (efS fl (sf fl k0 k1 kd wh ns) S) ∧ ExC σ x.2 := by
  refine wpI fun Q hQ => ?_
  unfold fX2_endsFacing
  have hS := hB.1
  rw [hC.2.2.2.2.2.1]
  obtain ⟨u, hu, uA, uE⟩ := C_begin (F := F) σ fl
  refine wb1 hu ?_
  have hC2 := hC.ex uE
  rw [hC2.2.2.1]
  obtain ⟨x, hx, x1, x2, x3⟩ := C_walk hF hB hC2 uA (p0_ok fl) (Nat.zero_le S) (Nat.le_refl S)
  refine wb2 (r := x.1) (u := x.2) hx ?_
  rw [Nat.sub_zero] at x1 x2
  have hok := wk_ok (fl := fl) hB S 0 (p0 fl) (by omega) (p0_ok fl)
  unfold efS at hQ
  have hn := nO_eq (o := (wkS (sf fl k0 k1 kd wh ns) 0 S (p0 fl)).1) (fun i hi => by have := wk_lt _ _ _ _ hi; omega)
  rw [x1]
  refine wi (fun h => ?_) fun h => ?_
  · refine wb1 (C_facing x2 hok) ?_
    rw [hn.1 h] at hQ
    have : Q (some (bI (fcS (wkS (sf fl k0 k1 kd wh ns) 0 S (p0 fl)).2), x.2)) := hQ _ ⟨rfl, uE.trans x3⟩
    revert this
    cases fcS (wkS (sf fl k0 k1 kd wh ns) 0 S (p0 fl)).2
    · intro h; exact h
    · intro h; exact h
  · have : (wkS (sf fl k0 k1 kd wh ns) 0 S (p0 fl)).1.isNone = false := by
      cases hh : (wkS (sf fl k0 k1 kd wh ns) 0 S (p0 fl)).1.isNone
      · rfl
      · exact absurd (hn.2 hh) h
    rw [this] at hQ
    exact hQ _ ⟨rfl, uE.trans x3⟩
theorem M_endsWell (hF : 20 ≤ F) (hB : PB S k0 k1 kd wh ns) {τ : St} (hM : MP F τ d S fl k0 k1 kd wh ns) :
    ∃ x, fX11_endsWell F τ (qN d) = some x ∧ x.1 = bI (efS fl (sf fl k0 k1 kd wh ns) S) ∧ ExM τ x.2 := by
  refine wpI fun Q hQ => ?_
  unfold fX11_endsWell
  have hS := hB.1
  have hd := hM.1
  have hcl : (qN d).toNatClampNeg = d := q_clamp (by omega)
  refine wk (k := d) rfl (by omega) (by omega) ?_
  rw [hcl, hM.2.2.2.1]
  obtain ⟨x, hx, x1, x2, x3⟩ := M_danceTo hF hB hM (Nat.le_refl S)
  refine wb2 (r := x.1) (u := x.2) hx (wk (k := d) rfl (by omega) (by omega) ?_)
  have hM2 := hM.ex x3
  rw [hM2.2.2.2.1]
  have hok := wk_ok (fl := fl) hB S 0 (p0 fl) (by omega) (p0_ok fl)
  unfold efS at hQ
  cases hw : (wkS (sf fl k0 k1 kd wh ns) 0 S (p0 fl)).1 with
  | none =>
    rw [hw] at x1 hQ
    rw [if_pos x1]
    refine wb1 (M_looks0 hM2.2.1 x2 hok) ?_
    unfold fcS at hQ
    refine wi (fun h => ?_) fun h => ?_
    · have : lkS (wkS (sf fl k0 k1 kd wh ns) 0 S (p0 fl)).2.1 (wkS (sf fl k0 k1 kd wh ns) 0 S (p0 fl)).2.2.1 (wkS (sf fl k0 k1 kd wh ns) 0 S (p0 fl)).2.2.2.1 (wkS (sf fl k0 k1 kd wh ns) 0 S (p0 fl)).2.2.2.2.1 (wkS (sf fl k0 k1 kd wh ns) 0 S (p0 fl)).2.2.2.2.2.1 = false := by
        revert h
        cases lkS (wkS (sf fl k0 k1 kd wh ns) 0 S (p0 fl)).2.1 (wkS (sf fl k0 k1 kd wh ns) 0 S (p0 fl)).2.2.1 (wkS (sf fl k0 k1 kd wh ns) 0 S (p0 fl)).2.2.2.1 (wkS (sf fl k0 k1 kd wh ns) 0 S (p0 fl)).2.2.2.2.1 (wkS (sf fl k0 k1 kd wh ns) 0 S (p0 fl)).2.2.2.2.2.1
        · intro _; rfl
        · intro h; exact absurd h (by decide)
      rw [this] at hQ
      exact hQ _ ⟨rfl, x3⟩
    · have : lkS (wkS (sf fl k0 k1 kd wh ns) 0 S (p0 fl)).2.1 (wkS (sf fl k0 k1 kd wh ns) 0 S (p0 fl)).2.2.1 (wkS (sf fl k0 k1 kd wh ns) 0 S (p0 fl)).2.2.2.1 (wkS (sf fl k0 k1 kd wh ns) 0 S (p0 fl)).2.2.2.2.1 (wkS (sf fl k0 k1 kd wh ns) 0 S (p0 fl)).2.2.2.2.2.1 = true := by
        revert h
        cases lkS (wkS (sf fl k0 k1 kd wh ns) 0 S (p0 fl)).2.1 (wkS (sf fl k0 k1 kd wh ns) 0 S (p0 fl)).2.2.1 (wkS (sf fl k0 k1 kd wh ns) 0 S (p0 fl)).2.2.2.1 (wkS (sf fl k0 k1 kd wh ns) 0 S (p0 fl)).2.2.2.2.1 (wkS (sf fl k0 k1 kd wh ns) 0 S (p0 fl)).2.2.2.2.2.1
        · intro h; exact absurd rfl h
        · intro _; rfl
      rw [this] at hQ
      refine wb1 (M_looks1 hM2.2.1 x2 hok) ?_
      have hz := hQ (bI (lkS (wkS (sf fl k0 k1 kd wh ns) 0 S (p0 fl)).2.2.2.2.1 (wkS (sf fl k0 k1 kd wh ns) 0 S (p0 fl)).2.2.2.2.2.1 (wkS (sf fl k0 k1 kd wh ns) 0 S (p0 fl)).2.2.2.2.2.2 (wkS (sf fl k0 k1 kd wh ns) 0 S (p0 fl)).2.1 (wkS (sf fl k0 k1 kd wh ns) 0 S (p0 fl)).2.2.1), x.2) ⟨by simp only [Option.isNone_none, Bool.true_and], x3⟩
      revert hz
      cases lkS (wkS (sf fl k0 k1 kd wh ns) 0 S (p0 fl)).2.2.2.2.1 (wkS (sf fl k0 k1 kd wh ns) 0 S (p0 fl)).2.2.2.2.2.1 (wkS (sf fl k0 k1 kd wh ns) 0 S (p0 fl)).2.2.2.2.2.2 (wkS (sf fl k0 k1 kd wh ns) 0 S (p0 fl)).2.1 (wkS (sf fl k0 k1 kd wh ns) 0 S (p0 fl)).2.2.1
      · intro h; exact h
      · intro h; exact h
  | some i =>
    rw [hw] at x1 hQ
    have hi := wk_lt _ _ _ _ hw
    rw [if_neg (by rw [show x.1 = qN i from x1, q_eq (by omega) (by omega)]; omega)]
    exact hQ _ ⟨rfl, x3⟩
end
