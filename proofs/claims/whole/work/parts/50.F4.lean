set_option linter.unusedVariables false
set_option linter.unusedSimpArgs false
set_option maxRecDepth 16384
/-! other N in one dance -/
def fO (g : Nat → Option Nat) : Nat → Option Nat
  | 0 => none
  | n + 1 => match fO g n with
    | some x => some x
    | none => g n
theorem fO_s (g : Nat → Option Nat) (n : Nat) : fO g (n + 1) = match fO g n with
    | some x => some x
    | none => g n := rfl
theorem fO_none {g : Nat → Option Nat} {n : Nat} (h : fO g n = none) : fO g (n + 1) = g n := by rw [fO_s, h]
theorem fO_some {g : Nat → Option Nat} {n x : Nat} (h : fO g n = some x) : ∀ m, n ≤ m → fO g m = some x := by
  intro m
  induction m with
  | zero => intro hm; have : n = 0 := by omega
            subst this; exact h
  | succ m ih =>
    intro hm
    by_cases hn : n = m + 1
    · subst hn; exact h
    · rw [fO_s, ih (by omega)]
theorem fO_cg {g g' : Nat → Option Nat} : ∀ n, (∀ k, k < n → g k = g' k) → fO g n = fO g' n := by
  intro n
  induction n with
  | zero => intro _; rfl
  | succ n ih => intro h; rw [fO_s, fO_s, ih (fun k hk => h k (by omega)), h n (by omega)]
theorem fO_all {g : Nat → Option Nat} : ∀ n, (∀ k, k < n → g k = none) → fO g n = none := by
  intro n
  induction n with
  | zero => intro _; rfl
  | succ n ih => intro h; rw [fO_none (ih (fun k hk => h k (by omega)))]; exact h n (by omega)
theorem fO_ex {g : Nat → Option Nat} : ∀ {n x : Nat}, fO g n = some x → ∃ k, k < n ∧ g k = some x := by
  intro n
  induction n with
  | zero => intro x h; cases h
  | succ n ih =>
    intro x h
    cases hn : fO g n with
    | some y =>
      rw [fO_s, hn] at h
      obtain ⟨k, hk, e⟩ := ih hn
      exact ⟨k, by omega, by rw [e]; exact h⟩
    | none => rw [fO_none hn] at h; exact ⟨n, by omega, h⟩
theorem nO_m1 {o : Option Nat} (h : ∀ x, o = some x → x < 2147483648) : (nO o = -1) ↔ o = none := by
  rw [nO_eq h]; cases o <;> simp
theorem wiT {R : Type} {Q : R → Prop} {c : Prop} [Decidable c] {a b : R} (hc : c) (h : Q a) : Q (if c then a else b) := by rw [if_pos hc]; exact h
theorem wiF {R : Type} {Q : R → Prop} {c : Prop} [Decidable c] {a b : R} (hc : ¬ c) (h : Q b) : Q (if c then a else b) := by rw [if_neg hc]; exact h
def HE (σ u : St) : Prop := (∀ c, c < 66 → u c = σ c) ∧ u 66 = σ 66
theorem HE.rfl {σ : St} : HE σ σ := ⟨fun _ _ => Eq.refl _, Eq.refl _⟩
theorem HE.trans {a b c : St} (h : HE a b) (k : HE b c) : HE a c := ⟨fun x hx => (k.1 x hx).trans (h.1 x hx), k.2.trans h.2⟩
theorem ExC.he {a b : St} (h : ExC a b) : HE a b := ⟨fun c hc => h c (by omega) (by omega) (by omega), h 66 (by decide) (by decide) (by decide)⟩
theorem HE_up {σ : St} {c j : Nat} {x : Int32} (h : 67 ≤ c) : HE σ (up σ c j x) := ⟨fun a ha => up_ne _ _ _ (by omega), up_ne _ _ _ (by omega)⟩
theorem HE.ce {a b : St} (h : HE a b) : CE a b := fun c h1 _ => h.1 c h1
def cgK (kd : Nat → Int32) (i : Nat) : Bool := !(decide (kd i = 3) || decide (kd i = 4))
section
variable {F d S : Nat} {fl k0 k1 : Int32} {kd wh ns : Nat → Int32}
theorem CP.he {σ u : St} (h : CP σ d S fl k0 k1 kd wh ns) (e : HE σ u) {ns' : Nat → Int32} (hn : ∀ i, i < S → u 71 i = ns' i) : CP u d S fl k0 k1 kd wh ns' := by
  obtain ⟨h1, h2, h3, h4, h5, h6, h7⟩ := h
  refine ⟨h1, by rw [e.2]; exact h2, by rw [e.2]; exact h3, by rw [e.2]; exact h4, by rw [e.2]; exact h5, by rw [e.1 2 (by decide)]; exact h6, fun i hi => ?_⟩
  rw [e.1 8 (by decide), e.1 9 (by decide)]
  exact ⟨(h7 i hi).1, (h7 i hi).2.1, hn i hi⟩
theorem PB.upd (h : PB S k0 k1 kd wh ns) {i : Nat} {x : Int32} (hx : 0 ≤ x ∧ x ≤ 9) : PB S k0 k1 kd wh (upd ns i x) := by
  refine ⟨h.1, h.2.1, h.2.2.1, fun j hj => ?_⟩
  have := h.2.2.2 j hj
  refine ⟨this.1, this.2.1, ?_⟩
  by_cases hji : j = i
  · subst hji; rw [upd_same]; exact hx
  · rw [upd_ne _ _ hji]; exact this.2.2
theorem q09 {n : Nat} (h : n < 10) : 0 ≤ qN n ∧ qN n ≤ 9 := by
  rw [show (0 : Int32) = qN 0 from rfl, show (9 : Int32) = qN 9 from rfl, q_le (by omega) (by omega), q_le (by omega) (by omega)]; omega
theorem C_chg5 {σ : St} (hC : CP σ d S fl k0 k1 kd wh ns) (hS : S ≤ 10) {i : Nat} (hi : i < S) : fX5_changes F σ (qN i) = some (bI (cgK kd i)) := by
  unfold fX5_changes
  rw [hC.2.1, C_changes hC.1 (by omega), bd1_some]
  unfold chgS cgK
  rw [(hC.2.2.2.2.2.2 i hi).1]
  cases (!(decide (kd i = 3) || decide (kd i = 4))) <;> exact (by first | exact ckB0 _ | exact ckB1 _)
theorem M_chg {τ : St} (hM : MP F τ d S fl k0 k1 kd wh ns) (hS : S ≤ 10) {i : Nat} (hi : i < S) : fX11_isLimp F τ (qN d) (qN i) = some (bI (cgK kd i)) := by
  have hd := hM.1
  unfold fX11_isLimp cgK
  rw [pl_m, ck_ok (by omega) (by omega), q_clamp (by omega), (hM.2.2.2.2.2.2 i hi).1]
  simp only [nm]
  by_cases h3 : kd i = 3
  · rw [if_pos h3, h3]; rfl
  · rw [if_neg h3]
    by_cases h4 : kd i = 4
    · rw [if_pos h4, h4]; rfl
    · rw [if_neg h4, decide_eq_false h3, decide_eq_false h4]; rfl
theorem stiff_13 {τ τ' : St} (h : ∀ c, c ≠ 13 → τ' c = τ c) (a b : Int32) : fX11_stiff F τ' a b = fX11_stiff F τ a b := by
  unfold fX11_stiff
  rw [h 7 (by decide), h 8 (by decide), h 6 (by decide), h 0 (by decide), h 18 (by decide)]
theorem MP.set {τ : St} (hM : MP F τ d S fl k0 k1 kd wh ns) (hS : S ≤ 10) {i : Nat} (hi : i < S) (x : Int32) : MP F (up τ 13 (10 * d + i) x) d S fl k0 k1 kd wh (upd ns i x) := by
  obtain ⟨m1, m2, m3, m4, m5, m6, m7⟩ := hM
  have hst : ∀ τ', ExM (up τ 13 (10 * d + i) x) τ' → ∃ τ'', ExM τ τ'' ∧ ∀ a b, fX11_stiff F τ' a b = fX11_stiff F τ'' a b := by
    intro τ' e
    refine ⟨fun c => if c = 13 then τ 13 else τ' c, fun c h1 h2 h3 => ?_, fun a b => (stiff_13 (fun c hc => by show (if c = 13 then _ else _) = _; rw [if_neg hc]) a b).symm⟩
    by_cases hc : c = 13
    · subst hc; show (if (13 : Nat) = 13 then _ else _) = _; rw [if_pos rfl]
    · show (if c = 13 then _ else _) = _
      rw [if_neg hc, e c h1 h2 h3, up_ne _ _ _ hc]
  refine ⟨m1, ?_, ?_, ?_, ?_, ?_, ?_⟩
  · intro a ha; rw [up_ne _ _ _ (by decide), up_ne _ _ _ (by decide)]; exact m2 a ha
  · rw [up_ne _ _ _ (by decide)]; exact m3
  · rw [up_ne _ _ _ (by decide)]; exact m4
  · intro τ' e; obtain ⟨τ'', e'', hs⟩ := hst τ' e; rw [hs]; exact m5 _ e''
  · intro τ' e; obtain ⟨τ'', e'', hs⟩ := hst τ' e; rw [hs]; exact m6 _ e''
  · intro j hj
    have := m7 j hj
    rw [up_ne _ _ _ (by decide), up_ne _ _ _ (by decide), up_same]
    refine ⟨this.1, this.2.1, ?_⟩
    by_cases hji : j = i
    · subst hji; rw [upd_same, upd_same]
    · rw [upd_ne _ _ hji, upd_ne _ _ (by omega)]; exact this.2.2
def efN (fl k0 k1 : Int32) (kd wh : Nat → Int32) (S : Nat) (ns : Nat → Int32) : Bool := efS fl (sf fl k0 k1 kd wh ns) S
theorem M_endsBy (hF : 20 ≤ F) (hB : PB S k0 k1 kd wh ns) {τ : St} (hM : MP F τ d S fl k0 k1 kd wh ns) {i : Nat} (hi : i < S) {x : Int32} (hx : 0 ≤ x ∧ x ≤ 9) :
    ∃ w, fX11_endsWellBy F τ (qN d) (qN i) x = some (bI (efN fl k0 k1 kd wh S (upd ns i x)), w) ∧ ExM τ w := by
  have hd := hM.1
  have hS := hB.1
  unfold fX11_endsWellBy
  simp only [nm]
  rw [pl_m, ck_ok (by omega) (by omega), ck_ok (by omega) (by omega), q_clamp (by omega)]
  obtain ⟨y, hy, y1, y2⟩ := M_endsWell hF (hB.upd (i := i) hx) (hM.set hS hi x)
  have hy' : fX11_endsWell F (up τ 13 (10 * d + i) x) (qN d) = some (bI (efN fl k0 k1 kd wh S (upd ns i x)), y.2) := by rw [hy]; show some (y.1, y.2) = _; rw [y1]; rfl
  rw [hy', bd2_some, ck_ok (by omega) (by omega)]
  refine ⟨up y.2 13 (10 * d + i) (τ 13 (10 * d + i)), ?_, ?_⟩
  · cases efN fl k0 k1 kd wh S (upd ns i x)
    · exact ckB0 _
    · exact ckB1 _
  · intro c h1 h2 h3
    by_cases hc : c = 13
    · subst hc
      rw [up_same, y2 13 (by decide) (by decide) (by decide), up_same]
      funext j
      by_cases hj : j = 10 * d + i
      · subst hj; rw [upd_same]
      · rw [upd_ne _ _ hj, upd_ne _ _ hj]
    · rw [up_ne _ _ _ hc, y2 c h1 h2 h3, up_ne _ _ _ hc]
/-! mend by one -/
def ffN (fl k0 k1 : Int32) (kd wh : Nat → Int32) (S : Nat) (ns : Nat → Int32) (i n : Nat) : Option Nat := if qN n = ns i then none else if efN fl k0 k1 kd wh S (upd ns i (qN n)) then some (10 * i + n) else none
def m1N (fl k0 k1 : Int32) (kd wh : Nat → Int32) (S : Nat) (ns : Nat → Int32) (i : Nat) : Option Nat := if cgK kd i then fO (ffN fl k0 k1 kd wh S ns i) 10 else none
theorem ff_lt {i n x : Nat} (h : ffN fl k0 k1 kd wh S ns i n = some x) : x = 10 * i + n := by
  unfold ffN at h
  by_cases h1 : qN n = ns i
  · rw [if_pos h1] at h; cases h
  · rw [if_neg h1] at h
    split at h
    · injection h with h; exact h.symm
    · cases h
theorem m1_lt {i x : Nat} (h : m1N fl k0 k1 kd wh S ns i = some x) : x < 10 * i + 10 := by
  unfold m1N at h
  split at h
  · obtain ⟨k, hk, e⟩ := fO_ex h
    have := ff_lt e
    omega
  · cases h
theorem C_firstFacing (hF : 20 ≤ F) (hB : PB S k0 k1 kd wh ns) {σ : St} (hC : CP σ d S fl k0 k1 kd wh ns) {i : Nat} (hi : i < S) :
    ∃ u, fX5_firstFacing F σ (qN i) = some (nO (fO (ffN fl k0 k1 kd wh S ns i) 10), u) ∧ HE σ u ∧ (∀ j, j < S → u 71 j = ns j) := by
  have hS := hB.1
  have hm : ∃ x, fX5_firstFacing F σ (qN i) = some x ∧ x.1 = nO (fO (ffN fl k0 k1 kd wh S ns i) 10) ∧ HE σ x.2 ∧ (∀ j, j < S → x.2 71 j = ns j) := by
    refine wpI fun Q hQ => ?_
    unfold fX5_firstFacing
    refine wk (k := i) rfl (by omega) (by omega) (wn fun x1 e1 => ?_)
    rw [q_clamp (by omega), (hC.2.2.2.2.2.2 i hi).2.2] at e1
    subst e1
    refine lp_up Q (fun n (v : St × Int32 × Int32) => HE σ v.1 ∧ (∀ j, j < S → j ≠ i → v.1 71 j = ns j) ∧ v.2.1 = qN n ∧ v.2.2 = nO (fO (ffN fl k0 k1 kd wh S ns i) n)) 10 ?_ F 0 _ (by omega) (by omega) ⟨HE.rfl, fun j hj _ => (hC.2.2.2.2.2.2 j hj).2.2, rfl, rfl⟩
    rintro n ⟨v, c, f⟩ K hn ⟨hE, h71, hc, hf⟩ hK
    dsimp only at hE h71 hc hf
    subst hc hf
    dsimp only
    refine wj fun J hJ => ?_
    have hJQ : fO (ffN fl k0 k1 kd wh S ns i) n = fO (ffN fl k0 k1 kd wh S ns i) 10 → Q (J ()) := by
      intro he
      rw [hJ]
      refine wk (k := i) rfl (by omega) (by omega) (wn fun u8 e8 => hQ _ ⟨by rw [he], ?_, fun j hj => ?_⟩)
      · show HE σ u8; rw [e8]; exact hE.trans (HE_up (by decide))
      · show u8 71 j = _
        rw [e8, q_clamp (by omega), up_same]
        by_cases hji : j = i
        · subst hji; rw [upd_same]
        · rw [upd_ne _ _ hji]; exact h71 j hj hji
    have hlt : ∀ x, fO (ffN fl k0 k1 kd wh S ns i) n = some x → x < 2147483648 := by
      intro x hx
      obtain ⟨k, hk, e⟩ := fO_ex hx
      have := ff_lt e
      omega
    by_cases h10 : n = 10
    · subst h10
      rw [if_pos (by decide)]; exact hJQ rfl
    · rw [if_neg (by rw [show (9 : Int32) = qN 9 from rfl, q_lt (by omega) (by omega)]; omega)]
      cases hfo : fO (ffN fl k0 k1 kd wh S ns i) n with
      | some x =>
        rw [hfo] at hlt
        rw [if_neg (by rw [nO_m1 hlt]; intro h; cases h)]
        exact hJQ (by rw [hfo]; exact (fO_some hfo 10 (by omega)).symm)
      | none =>
        rw [if_pos (show nO none = -1 from rfl)]
        refine wk (k := i) rfl (by omega) (by omega) (wn fun u9 e9 => ?_)
        rw [q_clamp (by omega)] at e9
        have hE9 : HE σ u9 := by rw [e9]; exact hE.trans (HE_up (by decide))
        have h9 : ∀ j, j < S → u9 71 j = upd ns i (qN n) j := fun j hj => by
          rw [e9, up_same]
          by_cases hji : j = i
          · subst hji; rw [upd_same, upd_same]
          · rw [upd_ne _ _ hji, upd_ne _ _ hji]; exact h71 j hj hji
        refine wi (fun hni => ?_) fun hni => ?_
        · refine hK _ (by omega) ⟨hE9, fun j hj hji => by show u9 71 j = _; rw [h9 j hj, upd_ne _ _ hji], q_add n 1, ?_⟩
          show nO none = nO (fO _ (n + 1))
          rw [fO_none hfo]; unfold ffN; rw [if_pos hni]
        · obtain ⟨y, hy, y1, y2⟩ := C_endsFacing hF (hB.upd (i := i) (q09 (n := n) (by omega))) (hC.he hE9 h9)
          refine wb2 (r := y.1) (u := y.2) hy ?_
          have hEy := hE9.trans y2.he
          have h7y : ∀ j, j < S → j ≠ i → y.2 71 j = ns j := fun j hj hji => by rw [y2 71 (by decide) (by decide) (by decide), h9 j hj, upd_ne _ _ hji]
          rw [y1]
          have hg : ffN fl k0 k1 kd wh S ns i n = if efN fl k0 k1 kd wh S (upd ns i (qN n)) then some (10 * i + n) else none := by unfold ffN; rw [if_neg hni]
          show Q (if bI (efN fl k0 k1 kd wh S (upd ns i (qN n))) = 0 then _ else _)
          cases hef : efN fl k0 k1 kd wh S (upd ns i (qN n)) with
          | false =>
            rw [if_pos (show bI false = 0 from rfl)]
            refine hK _ (by omega) ⟨hEy, h7y, q_add n 1, ?_⟩
            show nO none = nO (fO _ (n + 1))
            rw [fO_none hfo, hg, hef]; rfl
          | true =>
            rw [if_neg (show ¬ bI true = 0 by decide)]
            refine wn fun x12 e12 => hK _ (by omega) ⟨hEy, h7y, q_add n 1, ?_⟩
            show x12 = nO (fO _ (n + 1))
            rw [fO_none hfo, hg, hef, e12, pl_m]; rfl
  obtain ⟨x, hx, x1, x2, x3⟩ := hm
  exact ⟨x.2, by rw [hx, ← x1], x2, x3⟩
theorem C_mendByOne (hF : 20 ≤ F) (hB : PB S k0 k1 kd wh ns) {σ : St} (hC : CP σ d S fl k0 k1 kd wh ns) :
    ∃ u, fX5_mendByOne F σ = some (nO (fO (m1N fl k0 k1 kd wh S ns) S), u) ∧ HE σ u ∧ (∀ j, j < S → u 71 j = ns j) := by
  have hS := hB.1
  have hm : ∃ x, fX5_mendByOne F σ = some x ∧ x.1 = nO (fO (m1N fl k0 k1 kd wh S ns) S) ∧ HE σ x.2 ∧ (∀ j, j < S → x.2 71 j = ns j) := by
    refine wpI fun Q hQ => ?_
    unfold fX5_mendByOne
    refine lp_up Q (fun i (v : St × Int32 × Int32) => HE σ v.1 ∧ (∀ j, j < S → v.1 71 j = ns j) ∧ v.2.1 = qN i ∧ v.2.2 = nO (fO (m1N fl k0 k1 kd wh S ns) i)) S ?_ F 0 _ (by omega) (by omega) ⟨HE.rfl, fun j hj => (hC.2.2.2.2.2.2 j hj).2.2, rfl, rfl⟩
    rintro i ⟨v, c, f⟩ K hi ⟨hE, h71, hc, hf⟩ hK
    dsimp only at hE h71 hc hf
    subst hc hf
    dsimp only
    have hCv := hC.he hE h71
    have hlt : ∀ x, fO (m1N fl k0 k1 kd wh S ns) i = some x → x < 2147483648 := by
      intro x hx
      obtain ⟨k, hk, e⟩ := fO_ex hx
      have := m1_lt e
      omega
    by_cases hiS : i = S
    · refine wiT (by rw [hCv.2.2.1, hiS]; exact Int32.le_refl _) ?_
      subst hiS
      exact hQ _ ⟨rfl, hE, h71⟩
    · refine wiF (by rw [hCv.2.2.1, q_le (by omega) (by omega)]; omega) ?_
      cases hfo : fO (m1N fl k0 k1 kd wh S ns) i with
      | some x =>
        rw [hfo] at hlt
        rw [if_neg (by rw [nO_m1 hlt]; intro h; cases h)]
        exact hQ _ ⟨by show nO (some x) = _; rw [fO_some hfo S (by omega)], hE, h71⟩
      | none =>
        rw [if_pos (show nO none = -1 from rfl)]
        refine wb1 (C_chg5 hCv hS (by omega)) ?_
        have hg : m1N fl k0 k1 kd wh S ns i = if cgK kd i then fO (ffN fl k0 k1 kd wh S ns i) 10 else none := rfl
        cases hcg : cgK kd i with
        | false =>
          rw [if_pos (show bI false = 0 from rfl)]
          refine hK _ (by omega) ⟨hE, h71, q_add i 1, ?_⟩
          show nO none = nO (fO _ (i + 1))
          rw [fO_none hfo, hg, hcg]; rfl
        | true =>
          rw [if_neg (show ¬ bI true = 0 by decide)]
          obtain ⟨u, hu, u1, u2⟩ := C_firstFacing hF hB hCv (i := i) (by omega)
          refine wb2 hu (hK _ (by omega) ⟨hE.trans u1, u2, q_add i 1, ?_⟩)
          show nO _ = nO (fO _ (i + 1))
          rw [fO_none hfo, hg, hcg]; rfl
  obtain ⟨x, hx, x1, x2, x3⟩ := hm
  exact ⟨x.2, by rw [hx, ← x1], x2, x3⟩
theorem M_mendFrom (hF : 20 ≤ F) (hB : PB S k0 k1 kd wh ns) {τ : St} (hM : MP F τ d S fl k0 k1 kd wh ns) :
    ∃ w, fX11_mendFrom F τ (qN d) 0 = some (nO (fO (m1N fl k0 k1 kd wh S ns) S), w) ∧ ExM τ w := by
  have hS := hB.1
  have hd := hM.1
  have hm : ∃ x, fX11_mendFrom F τ (qN d) 0 = some x ∧ x.1 = nO (fO (m1N fl k0 k1 kd wh S ns) S) ∧ ExM τ x.2 := by
    refine wpI fun Q hQ => ?_
    unfold fX11_mendFrom
    refine lp_up Q (fun i (v : St × Int32) => ExM τ v.1 ∧ v.2 = qN i ∧ fO (m1N fl k0 k1 kd wh S ns) i = none) S ?_ F 0 _ (by omega) (by omega) ⟨ExM.rfl, rfl, rfl⟩
    rintro i ⟨v, c⟩ K hi ⟨hE, hc, hf⟩ hK
    dsimp only at hE hc
    subst hc
    dsimp only
    refine wk (k := d) rfl (by omega) (by omega) ?_
    have hg : m1N fl k0 k1 kd wh S ns i = if cgK kd i then fO (ffN fl k0 k1 kd wh S ns i) 10 else none := rfl
    by_cases hiS : i = S
    · refine wiT (by rw [q_clamp (by omega), hE 10 (by decide) (by decide) (by decide), hM.2.2.2.1, hiS]; exact Int32.le_refl _) ?_
      subst hiS
      exact hQ _ ⟨by rw [hf]; rfl, hE⟩
    · have hiS' : i < S := by omega
      refine wiF (by rw [q_clamp (by omega), hE 10 (by decide) (by decide) (by decide), hM.2.2.2.1, q_le (by omega) (by omega)]; omega) ?_
      refine lp_up Q (fun n (v : St × Int32) => ExM τ v.1 ∧ v.2 = qN n ∧ fO (ffN fl k0 k1 kd wh S ns i) n = none) 10 ?_ F 0 _ (by omega) (by omega) ⟨hE, rfl, rfl⟩
      rintro n ⟨w, c⟩ K2 hn ⟨hw, hc, hfo⟩ hK2
      dsimp only at hw hc
      subst hc
      dsimp only
      by_cases h10 : n = 10
      · subst h10
        rw [if_pos (by decide)]
        refine hK _ hiS' ⟨hw, q_add i 1, ?_⟩
        rw [fO_none hf, hg, hfo]; simp
      · rw [if_neg (by rw [show (10 : Int32) = qN 10 from rfl, q_le (by omega) (by omega)]; omega)]
        have hMw := hM.ex hw
        refine wb1 (M_chg hMw hS hiS') ?_
        cases hcg : cgK kd i with
        | false =>
          rw [if_pos (show bI false = 0 from rfl)]
          refine hK _ hiS' ⟨hw, q_add i 1, ?_⟩
          rw [fO_none hf, hg, hcg]; rfl
        | true =>
          rw [if_neg (show ¬ bI true = 0 by decide), pl_m]
          refine wk (k := 10 * d + i) rfl (by omega) (by omega) ?_
          refine wi (fun hni => ?_) fun hni => ?_ <;> rw [q_clamp (by omega), (hMw.2.2.2.2.2.2 i hiS').2.2] at hni
          · refine hK2 _ (by omega) ⟨hw, q_add n 1, ?_⟩
            rw [fO_none hfo]; unfold ffN; rw [if_pos hni]
          · obtain ⟨z, hz, z1⟩ := M_endsBy hF hB hMw hiS' (q09 (n := n) (by omega))
            refine wb2 hz ?_
            have hgg : ffN fl k0 k1 kd wh S ns i n = if efN fl k0 k1 kd wh S (upd ns i (qN n)) then some (10 * i + n) else none := by unfold ffN; rw [if_neg hni]
            cases hef : efN fl k0 k1 kd wh S (upd ns i (qN n)) with
            | false =>
              rw [if_pos (show bI false = 0 from rfl)]
              refine hK2 _ (by omega) ⟨hw.trans z1, q_add n 1, ?_⟩
              rw [fO_none hfo, hgg, hef]; rfl
            | true =>
              rw [if_neg (show ¬ bI true = 0 by decide), pl_m]
              refine hQ _ ⟨?_, hw.trans z1⟩
              have h1 : fO (ffN fl k0 k1 kd wh S ns i) (n + 1) = some (10 * i + n) := by rw [fO_none hfo, hgg, hef]; rfl
              have h2 : fO (m1N fl k0 k1 kd wh S ns) (i + 1) = some (10 * i + n) := by rw [fO_none hf, hg, hcg, if_pos rfl]; exact fO_some h1 10 (by omega)
              rw [fO_some h2 S (by omega)]; rfl
  obtain ⟨x, hx, x1, x2⟩ := hm
  exact ⟨x.2, by rw [hx, ← x1], x2⟩
end
