set_option linter.unusedVariables false
set_option linter.unusedSimpArgs false
set_option maxRecDepth 16384
/-! which limp was seen -/
def allN (f : Nat → Bool) : Nat → Bool
  | 0 => true
  | n + 1 => allN f n && f n
theorem allN_t {f : Nat → Bool} : ∀ {n : Nat}, (∀ k, k < n → f k = true) → allN f n = true := by
  intro n
  induction n with
  | zero => intro _; rfl
  | succ n ih => intro h; rw [allN, ih (fun k hk => h k (by omega)), h n (by omega)]; rfl
theorem allN_f {f : Nat → Bool} : ∀ {n k : Nat}, k < n → f k = false → allN f n = false := by
  intro n
  induction n with
  | zero => intro k h; omega
  | succ n ih =>
    intro k hk hf
    rw [allN]
    by_cases h : k = n
    · subst h; rw [hf, Bool.and_false]
    · rw [ih (by omega) hf, Bool.false_and]
theorem allN_cg {f g : Nat → Bool} : ∀ n, (∀ k, k < n → f k = g k) → allN f n = allN g n := by
  intro n
  induction n with
  | zero => intro _; rfl
  | succ n ih => intro h; rw [allN, allN, ih (fun k hk => h k (by omega)), h n (by omega)]
theorem cn_cg {f g : Nat → Bool} : ∀ n, (∀ k, k < n → f k = g k) → cnN f n = cnN g n := by
  intro n
  induction n with
  | zero => intro _; rfl
  | succ n ih => intro h; rw [cnN, cnN, ih (fun k hk => h k (by omega)), h n (by omega)]
theorem cn_add {f g h : Nat → Bool} : ∀ n, (∀ k, k < n → (if f k then 1 else 0) = (if g k then 1 else 0) + (if h k then (1 : Nat) else 0)) → cnN f n = cnN g n + cnN h n := by
  intro n
  induction n with
  | zero => intro _; rfl
  | succ n ih => intro e; rw [cnN, cnN, cnN, ih (fun k hk => e k (by omega)), e n (by omega)]; omega
theorem cn_0 {f : Nat → Bool} : ∀ {n : Nat}, cnN f n = 0 → ∀ k, k < n → f k = false := by
  intro n
  induction n with
  | zero => intro _ k h; omega
  | succ n ih =>
    intro h k hk
    rw [cnN] at h
    by_cases hkn : k = n
    · subst hkn
      cases hf : f k with
      | false => rfl
      | true => rw [hf, if_pos rfl] at h; omega
    · exact ih (by omega) k (by omega)
theorem cn_pos {f : Nat → Bool} : ∀ {n : Nat}, 0 < cnN f n → ∃ k, k < n ∧ f k = true := by
  intro n
  induction n with
  | zero => intro h; exact absurd h (Nat.lt_irrefl 0)
  | succ n ih =>
    intro h
    rw [cnN] at h
    cases hf : f n with
    | true => exact ⟨n, by omega, hf⟩
    | false =>
      rw [hf] at h
      obtain ⟨k, hk, e⟩ := ih (by simpa using h)
      exact ⟨k, by omega, e⟩
theorem cn_mono {f : Nat → Bool} {m n : Nat} (h : m ≤ n) : cnN f m ≤ cnN f n := by
  induction n with
  | zero => have : m = 0 := by omega
            subst this; exact Nat.le_refl _
  | succ n ih =>
    by_cases hmn : m = n + 1
    · subst hmn; exact Nat.le_refl _
    · have := ih (by omega)
      rw [cnN]; omega
theorem wk_snoc (f : Nat → Po → Option Po) (i : Nat) (p : Po) (h : (wkS f 0 i p).1 = none) : wkS f 0 (i + 1) p = match f i (wkS f 0 i p).2 with
    | none => (some i, (wkS f 0 i p).2)
    | some q => (none, q) := by
  have := wk_split f i 0 1 p
  rw [h, Nat.zero_add] at this
  rw [this]
  show wkS f i (0 + 1) (wkS f 0 i p).2 = _
  rw [wkS_s]
  cases f i (wkS f 0 i p).2 <;> rfl
def posX (p : Po) (w : Int32) : Int32 := if w = 0 then p.1 else p.2.2.2.1
def posY (p : Po) (w : Int32) : Int32 := if w = 0 then p.2.1 else p.2.2.2.2.1
def okK (fl : Int32) (f : Nat → Po → Option Po) (σ : St) (d k : Nat) : Bool := !decide (σ 36 k = qN d) || ((wkS f 0 ((σ 37 k).toNatClampNeg + 1) (p0 fl)).1.isNone && (decide (posX (wkS f 0 ((σ 37 k).toNatClampNeg + 1) (p0 fl)).2 (σ 38 k) = σ 39 k) && decide (posY (wkS f 0 ((σ 37 k).toNatClampNeg + 1) (p0 fl)).2 (σ 38 k) = σ 40 k)))
def SeC (σ : St) (d S n : Nat) : Prop := n ≤ 8 ∧ ∀ k, k < n → (σ 38 k = 0 ∨ σ 38 k = 1) ∧ (∃ i, σ 37 k = qN i ∧ i < 10 ∧ (σ 36 k = qN d → i < S))
def SeM (σ τ : St) (n : Nat) : Prop := τ 0 34 = qN n ∧ ∀ k, k < n → τ 28 k = σ 36 k ∧ τ 29 k = σ 37 k ∧ τ 30 k = σ 38 k ∧ τ 31 k = σ 39 k ∧ τ 32 k = σ 40 k
section
variable {F d S : Nat} {fl k0 k1 : Int32} {kd wh ns : Nat → Int32}
theorem M_isAsSeen (hF : 20 ≤ F) (hB : PB S k0 k1 kd wh ns) {σ τ : St} (hM : MP F τ d S fl k0 k1 kd wh ns) {n : Nat} (hC : SeC σ d S n) (hE : SeM σ τ n) :
    ∃ w, fX11_isAsSeen F τ (qN d) = some (bI (allN (okK fl (sf fl k0 k1 kd wh ns) σ d) n), w) ∧ ExM τ w := by
  have hS := hB.1
  have hd := hM.1
  have hm : ∃ x, fX11_isAsSeen F τ (qN d) = some x ∧ x.1 = bI (allN (okK fl (sf fl k0 k1 kd wh ns) σ d) n) ∧ ExM τ x.2 := by
    refine wpI fun Q hQ => ?_
    unfold fX11_isAsSeen
    refine lp_up Q (fun k (v : St × Int32) => ExM τ v.1 ∧ v.2 = qN k ∧ allN (okK fl (sf fl k0 k1 kd wh ns) σ d) k = true) n ?_ F 0 _ (by omega) (by have := hC.1; omega) ⟨ExM.rfl, rfl, rfl⟩
    rintro k ⟨v, c⟩ K hk ⟨hv, hc, hall⟩ hK
    dsimp only at hv hc
    subst hc
    dsimp only
    have hn8 := hC.1
    by_cases hkn : k = n
    · refine wiT (by rw [hv 0 (by decide) (by decide) (by decide), hE.1, hkn]; exact Int32.le_refl _) ?_
      exact hQ _ ⟨by rw [← hkn, hall]; rfl, hv⟩
    · refine wiF (by rw [hv 0 (by decide) (by decide) (by decide), hE.1, q_le (by omega) (by omega)]; omega) ?_
      have hk' : k < n := by omega
      obtain ⟨e1, e2, e3, e4, e5⟩ := hE.2 k hk'
      obtain ⟨hw, i, hi, hi10, hiS⟩ := hC.2 k hk'
      refine wk (k := k) rfl (by omega) (by omega) ?_
      have hcl : (qN k).toNatClampNeg = k := q_clamp (by omega)
      rw [hcl]
      have hok : okK fl (sf fl k0 k1 kd wh ns) σ d k = (!decide (σ 36 k = qN d) || ((wkS (sf fl k0 k1 kd wh ns) 0 (i + 1) (p0 fl)).1.isNone && (decide (posX (wkS (sf fl k0 k1 kd wh ns) 0 (i + 1) (p0 fl)).2 (σ 38 k) = σ 39 k) && decide (posY (wkS (sf fl k0 k1 kd wh ns) 0 (i + 1) (p0 fl)).2 (σ 38 k) = σ 40 k)))) := by
        unfold okK; rw [hi, q_clamp (by omega)]
      have hno : okK fl (sf fl k0 k1 kd wh ns) σ d k = false → ∀ w : St, ExM τ w → Q (some (0, w)) := fun hh w hw' => hQ _ ⟨by rw [allN_f hk' hh]; rfl, hw'⟩
      refine wi (fun hsd => ?_) fun hsd => ?_ <;> rw [hv 28 (by decide) (by decide) (by decide), e1] at hsd
      · rw [decide_eq_true hsd] at hok
        have hiS' := hiS hsd
        refine wk (k := k) rfl (by omega) (by omega) (wn fun x4 ex4 => ?_)
        rw [hv 29 (by decide) (by decide) (by decide), e2, hi] at ex4
        rw [show x4 = qN (i + 1) from ex4.trans (q_add i 1)]
        obtain ⟨y, hy, y1, y2, y3⟩ := M_danceTo hF hB (hM.ex hv) (b := i + 1) (by omega)
        refine wb2 (r := y.1) (u := y.2) hy ?_
        have hvy := hv.trans y3
        cases hw1 : (wkS (sf fl k0 k1 kd wh ns) 0 (i + 1) (p0 fl)).1 with
        | some j =>
          have hj := wk_lt _ _ _ _ hw1
          rw [hw1] at y1 hok
          refine wiF (by rw [show y.1 = qN j from y1, q_eq (by omega) (by omega)]; omega) (hno (by rw [hok]; rfl) _ hvy)
        | none =>
          rw [hw1] at y1 hok
          refine wiT (show y.1 = qN (i + 1) from y1) ?_
          generalize (wkS (sf fl k0 k1 kd wh ns) 0 (i + 1) (p0 fl)).2 = p at *
          have h30 : y.2 30 k = σ 38 k := by rw [hvy 30 (by decide) (by decide) (by decide), e3]
          have h31 : y.2 31 k = σ 39 k := by rw [hvy 31 (by decide) (by decide) (by decide), e4]
          have h32 : y.2 32 k = σ 40 k := by rw [hvy 32 (by decide) (by decide) (by decide), e5]
          obtain ⟨a1, a2, a3, a4, a5, a6⟩ := y2
          refine wk (k := k) rfl (by omega) (by omega) ?_
          have hfin : ∀ (w : Nat), w < 2 → σ 38 k = qN w → y.2 21 w = posX p (σ 38 k) → y.2 22 w = posY p (σ 38 k) → Q (ckI (y.2 30 k) 2 (ckI (qN k) 8 (if (y.2 21 (Int32.toNatClampNeg (y.2 30 k))) = (y.2 31 k) then (ckI (qN k) 8 (ckI (y.2 30 k) 2 (ckI (qN k) 8 (if (y.2 22 (Int32.toNatClampNeg (y.2 30 k))) = (y.2 32 k) then (K ((y.2, qN k + 1))) else some (0, y.2))))) else some (0, y.2)))) := by
            intro w hw2 hww hx hy'
            rw [h30, hww, ck_ok hw2 (by omega), ck_ok (by omega) (by omega), ck_ok hw2 (by omega), q_clamp (by omega), h31, h32, hx, hy', ck_ok (by omega) (by omega), ck_ok (by omega) (by omega)]
            by_cases hX : posX p (σ 38 k) = σ 39 k
            · rw [if_pos hX]
              by_cases hY : posY p (σ 38 k) = σ 40 k
              · rw [if_pos hY]
                refine hK _ hk' ⟨hvy, q_add k 1, ?_⟩
                rw [allN, hall, hok, decide_eq_true hX, decide_eq_true hY]; rfl
              · rw [if_neg hY]
                exact hno (by rw [hok, decide_eq_true hX, decide_eq_false hY]; rfl) _ hvy
            · rw [if_neg hX]
              exact hno (by rw [hok, decide_eq_false hX]; rfl) _ hvy
          rcases hw with hw | hw
          · refine hfin 0 (by decide) hw ?_ ?_
            · rw [a1, hw]; unfold posX; rw [if_pos rfl]
            · rw [a2, hw]; unfold posY; rw [if_pos rfl]
          · refine hfin 1 (by decide) hw ?_ ?_
            · rw [a4, hw]; unfold posX; rw [if_neg i10n]
            · rw [a5, hw]; unfold posY; rw [if_neg i10n]
      · rw [decide_eq_false hsd] at hok
        refine hK _ hk' ⟨hv, q_add k 1, ?_⟩
        rw [allN, hall, hok]; rfl
  obtain ⟨x, hx, x1, x2⟩ := hm
  exact ⟨x.2, by rw [hx, ← x1], x2⟩
theorem C_isThere {σ u : St} {p : Po} (hA : AtC u p) {k : Nat} (hk : k < 8) (h8 : u 38 = σ 38) (h9 : u 39 = σ 39) (h0 : u 40 = σ 40) (hw : σ 38 k = 0 ∨ σ 38 k = 1) : fX5_isThere F u (qN k) = some (bI (decide (posX p (σ 38 k) = σ 39 k) && decide (posY p (σ 38 k) = σ 40 k))) := by
  obtain ⟨a1, a2, a3, a4, a5, a6⟩ := hA
  have hfin : ∀ (w : Nat), w < 2 → σ 38 k = qN w → u 68 w = posX p (σ 38 k) → u 69 w = posY p (σ 38 k) → fX5_isThere F u (qN k) = some (bI (decide (posX p (σ 38 k) = σ 39 k) && decide (posY p (σ 38 k) = σ 40 k))) := by
    intro w hw2 hww hx hy
    unfold fX5_isThere
    simp only [nm]
    rw [ck_ok hk (by omega), q_clamp (by omega), h8, h9, h0, hww, ck_ok hw2 (by omega), ck_ok hk (by omega), q_clamp (by omega), ck_ok hw2 (by omega), ck_ok hk (by omega), hx, hy, ← hww]
    by_cases hX : posX p (σ 38 k) = σ 39 k
    · rw [if_pos hX, decide_eq_true hX]
      by_cases hY : posY p (σ 38 k) = σ 40 k
      · rw [if_pos hY, decide_eq_true hY]; rfl
      · rw [if_neg hY, decide_eq_false hY]; rfl
    · rw [if_neg hX, decide_eq_false hX]; rfl
  rcases hw with hw | hw
  · refine hfin 0 (by decide) hw ?_ ?_
    · rw [a1, hw]; unfold posX; rw [if_pos rfl]
    · rw [a2, hw]; unfold posY; rw [if_pos rfl]
  · refine hfin 1 (by decide) hw ?_ ?_
    · rw [a4, hw]; unfold posX; rw [if_neg i10n]
    · rw [a5, hw]; unfold posY; rw [if_neg i10n]
def duS (σ : St) (d i k : Nat) : Bool := decide (σ 36 k = qN d) && decide (i ≤ (σ 37 k).toNatClampNeg)
def nwS (σ : St) (d i k : Nat) : Bool := decide (σ 36 k = qN d) && decide ((σ 37 k).toNatClampNeg = i)
theorem C_isAsSeen (hF : 20 ≤ F) (hB : PB S k0 k1 kd wh ns) {σ : St} (hCP : CP σ d S fl k0 k1 kd wh ns) {n : Nat} (hn : σ 30 2 = qN n) (hC : SeC σ d S n) :
    ∃ u, fX5_isAsSeen F σ = some (bI (allN (okK fl (sf fl k0 k1 kd wh ns) σ d) n), u) ∧ ExC σ u := by
  have hS := hB.1
  have hd := hCP.1
  have hn8 := hC.1
  have hm : ∃ x, fX5_isAsSeen F σ = some x ∧ x.1 = bI (allN (okK fl (sf fl k0 k1 kd wh ns) σ d) n) ∧ ExC σ x.2 := by
    refine wpI fun Q hQ => ?_
    unfold fX5_isAsSeen
    rw [hCP.2.2.2.2.2.1]
    obtain ⟨b, hb, bA, bE⟩ := C_begin (F := F) σ fl
    refine wb1 hb ?_
    refine lp_up Q (fun k (v : Int32 × Int32) => v.1 = qN k ∧ v.2 = qN (cnN (duS σ d 0) k)) n ?_ F 0 _ (by omega) (by omega) ⟨rfl, rfl⟩
    rintro k ⟨c, acc⟩ K hk ⟨hc, hacc⟩ hK
    dsimp only at hc hacc
    subst hc hacc
    dsimp only
    by_cases hkn : k = n
    · refine wiT (by rw [bE 30 (by decide) (by decide) (by decide), hn, hkn]; exact Int32.le_refl _) ?_
      rw [hkn]
      clear hK K hkn hk k
      refine lp_up Q (fun i (v : St × Int32 × Int32) => ExC σ v.1 ∧ AtC v.1 (wkS (sf fl k0 k1 kd wh ns) 0 i (p0 fl)).2 ∧ (wkS (sf fl k0 k1 kd wh ns) 0 i (p0 fl)).1 = none ∧ v.2.1 = qN i ∧ v.2.2 = qN (cnN (duS σ d i) n) ∧ (∀ k, k < n → (σ 37 k).toNatClampNeg < i → okK fl (sf fl k0 k1 kd wh ns) σ d k = true)) S ?_ F 0 _ (by omega) (by omega) ⟨bE, bA, rfl, rfl, rfl, fun k _ h => absurd h (by omega)⟩
      rintro i ⟨v, c, du⟩ K hi ⟨hE, hA, hw, hc, hdu, hokk⟩ hK
      dsimp only at hE hA hc hdu
      subst hc hdu
      dsimp only
      have hCv := hCP.ex hE
      have hdn := cn_le (duS σ d i) n
      have hfin0 : cnN (duS σ d i) n = 0 → allN (okK fl (sf fl k0 k1 kd wh ns) σ d) n = true := by
        intro h0
        refine allN_t (fun k hk => ?_)
        have := cn_0 h0 k hk
        by_cases hsd : σ 36 k = qN d
        · unfold duS at this
          rw [decide_eq_true hsd, Bool.true_and] at this
          exact hokk k hk (by simpa using this)
        · unfold okK; rw [decide_eq_false hsd]; rfl
      refine wj fun J hJ => ?_
      have hJQ : cnN (duS σ d i) n = 0 → Q (J ()) := by
        intro h0
        rw [hJ, h0, if_pos (show qN 0 = 0 from rfl)]
        exact hQ _ ⟨by rw [hfin0 h0]; rfl, hE⟩
      by_cases hiS : i = S
      · refine wiT (by rw [hCv.2.2.1, hiS]; exact Int32.le_refl _) (hJQ ?_)
        cases hz : cnN (duS σ d i) n with
        | zero => rfl
        | succ m =>
          obtain ⟨k, hk, e⟩ := cn_pos (f := duS σ d i) (n := n) (by omega)
          obtain ⟨_, j, hj, hj10, hjS⟩ := hC.2 k hk
          unfold duS at e
          rw [hj, q_clamp (by omega)] at e
          simp only [Bool.and_eq_true, decide_eq_true_eq] at e
          have := hjS e.1
          omega
      · refine wiF (by rw [hCv.2.2.1, q_le (by omega) (by omega)]; omega) ?_
        have hi' : i < S := by omega
        by_cases h0 : cnN (duS σ d i) n = 0
        · refine wiT (by rw [h0]; exact Int32.le_refl _) (hJQ h0)
        · refine wiF (by rw [show (0 : Int32) = qN 0 from rfl, q_le (by omega) (by omega)]; omega) ?_
          have hPB := hB.2.2.2 i hi'
          have hCi := hCv.2.2.2.2.2.2 i hi'
          have hpok := wk_ok (fl := fl) hB i 0 (p0 fl) (by omega) (p0_ok fl)
          obtain ⟨y, hy, y1, y2, y3⟩ := C_takes (F := F) hF hCv.1 (i := i) (by omega) hCv.2.1 hCi.1 hCi.2.1 hCi.2.2 hCv.2.2.2.1 hCv.2.2.2.2.1 hCv.2.2.2.2.2.1 hPB.2.2 hB.2.1 hB.2.2.1 hPB.1 hPB.2.1 hA hpok
          refine wb2 (r := y.1) (u := y.2) hy ?_
          have hEy := hE.trans y3
          have hsn := wk_snoc (sf fl k0 k1 kd wh ns) i (p0 fl) hw
          have hst : sf fl k0 k1 kd wh ns i (wkS (sf fl k0 k1 kd wh ns) 0 i (p0 fl)).2 = stS fl (kd i) (wh i) (ns i) k0 k1 (wkS (sf fl k0 k1 kd wh ns) 0 i (p0 fl)).2 := rfl
          rw [hst] at hsn
          rw [y1]
          cases hs : stS fl (kd i) (wh i) (ns i) k0 k1 (wkS (sf fl k0 k1 kd wh ns) 0 i (p0 fl)).2 with
          | none =>
            rw [hs] at hsn
            refine wiT (show oN none = 0 from rfl) (hQ _ ⟨?_, hEy⟩)
            obtain ⟨k, hk, e⟩ := cn_pos (f := duS σ d i) (n := n) (by omega)
            unfold duS at e
            simp only [Bool.and_eq_true, decide_eq_true_eq] at e
            have hbad : okK fl (sf fl k0 k1 kd wh ns) σ d k = false := by
              unfold okK
              have h1 : (wkS (sf fl k0 k1 kd wh ns) 0 (i + 1) (p0 fl)).1 = some i := by rw [hsn]
              rw [wk_bad h1 (show i + 1 ≤ (σ 37 k).toNatClampNeg + 1 by omega), decide_eq_true e.1]; rfl
            rw [allN_f hk hbad]; rfl
          | some q =>
            rw [hs] at hsn y2
            refine wiF (show ¬ (1 : Int32) = 0 by decide) ?_
            have hA1 : AtC y.2 q := y2
            have hw1 : (wkS (sf fl k0 k1 kd wh ns) 0 (i + 1) (p0 fl)).1 = none := by rw [hsn]
            have hw2 : (wkS (sf fl k0 k1 kd wh ns) 0 (i + 1) (p0 fl)).2 = q := by rw [hsn]
            have hsplit : cnN (duS σ d i) n = cnN (duS σ d (i + 1)) n + cnN (nwS σ d i) n := by
              refine cn_add n (fun k hk => ?_)
              unfold duS nwS
              by_cases hsd : σ 36 k = qN d
              · rw [decide_eq_true hsd]
                simp only [Bool.true_and, decide_eq_true_eq]
                by_cases h1 : i ≤ (σ 37 k).toNatClampNeg
                · by_cases h2 : (σ 37 k).toNatClampNeg = i
                  · rw [if_pos h1, if_neg (by omega), if_pos h2]
                  · rw [if_pos h1, if_pos (by omega), if_neg h2]
                · rw [if_neg h1, if_neg (by omega), if_neg (by omega)]
              · rw [decide_eq_false hsd]; rfl
            refine lp_up Q (fun k (v : Int32 × Int32) => v.1 = qN k ∧ v.2 = qN (cnN (duS σ d i) n - cnN (nwS σ d i) k) ∧ (∀ j, j < k → (σ 37 j).toNatClampNeg = i → okK fl (sf fl k0 k1 kd wh ns) σ d j = true)) n ?_ F 0 _ (by omega) (by omega) ⟨rfl, rfl, fun j h => absurd h (by omega)⟩
            rintro k ⟨c, acc⟩ K2 hk ⟨hc, hacc, hprev⟩ hK2
            dsimp only at hc hacc
            subst hc hacc
            dsimp only
            by_cases hkn : k = n
            · refine wiT (by rw [hEy 30 (by decide) (by decide) (by decide), hn, hkn]; exact Int32.le_refl _) ?_
              refine hK _ hi' ⟨hEy, by rw [hw2]; exact hA1, hw1, q_add i 1, ?_, fun j hj hji => ?_⟩
              · show qN _ = qN _
                congr 1; rw [hkn]; omega
              · by_cases hji' : (σ 37 j).toNatClampNeg = i
                · exact hprev j (by omega) hji'
                · exact hokk j hj (by omega)
            · have hk' : k < n := by omega
              refine wiF (by rw [hEy 30 (by decide) (by decide) (by decide), hn, q_le (by omega) (by omega)]; omega) ?_
              have hcl : (qN k).toNatClampNeg = k := q_clamp (by omega)
              obtain ⟨hww, j, hj, hj10, hjS⟩ := hC.2 k hk'
              refine wk (k := k) rfl (by omega) (by omega) ?_
              have hnext : nwS σ d i k = false → ((σ 37 k).toNatClampNeg = i → okK fl (sf fl k0 k1 kd wh ns) σ d k = true) → Q (K2 (qN k + 1, qN (cnN (duS σ d i) n - cnN (nwS σ d i) k))) := by
                intro hh ho
                refine hK2 _ hk' ⟨q_add k 1, ?_, fun j hj hji => ?_⟩
                · show qN _ = qN _
                  rw [cnN, hh]; rfl
                · by_cases hjk : j = k
                  · subst hjk; exact ho hji
                  · exact hprev j (by omega) hji
              refine wi (fun hsd => ?_) fun hsd => ?_ <;> rw [hcl, hEy 36 (by decide) (by decide) (by decide), hEy 66 (by decide) (by decide) (by decide), hCP.2.1] at hsd
              · refine wk (k := k) rfl (by omega) (by omega) ?_
                refine wi (fun hst' => ?_) fun hst' => ?_ <;> rw [hcl, hEy 37 (by decide) (by decide) (by decide), hj, q_eq (by omega) (by omega)] at hst'
                · have hji : (σ 37 k).toNatClampNeg = i := by rw [hj, q_clamp (by omega)]; exact hst'
                  refine wb1 (C_isThere (σ := σ) hA1 (by omega) (hEy 38 (by decide) (by decide) (by decide)) (hEy 39 (by decide) (by decide) (by decide)) (hEy 40 (by decide) (by decide) (by decide)) hww) ?_
                  have hok : okK fl (sf fl k0 k1 kd wh ns) σ d k = (decide (posX q (σ 38 k) = σ 39 k) && decide (posY q (σ 38 k) = σ 40 k)) := by
                    unfold okK; rw [hji, hw1, hw2, decide_eq_true hsd]; rfl
                  cases hth : (decide (posX q (σ 38 k) = σ 39 k) && decide (posY q (σ 38 k) = σ 40 k)) with
                  | false =>
                    refine wiT (show bI false = 0 from rfl) (hQ _ ⟨by rw [allN_f hk' (hok.trans hth)]; rfl, hEy⟩)
                  | true =>
                    refine wiF (show ¬ bI true = 0 by decide) (hK2 _ hk' ⟨q_add k 1, ?_, fun j' hj' hji' => ?_⟩)
                    · have hnw : nwS σ d i k = true := by unfold nwS; rw [decide_eq_true hsd, decide_eq_true hji]; rfl
                      have hle : cnN (nwS σ d i) (k + 1) ≤ cnN (duS σ d i) n := by
                        have := cn_mono (f := nwS σ d i) (show k + 1 ≤ n by omega)
                        omega
                      rw [cnN, hnw, if_pos rfl] at hle
                      show qN _ + Int32.ofInt (-1) = qN (cnN (duS σ d i) n - cnN (nwS σ d i) (k + 1))
                      rw [cnN, hnw, if_pos rfl, q_ofInt, show cnN (duS σ d i) n - (cnN (nwS σ d i) k + 1) = cnN (duS σ d i) n - cnN (nwS σ d i) k - 1 by omega, ← q_sub (show 1 ≤ cnN (duS σ d i) n - cnN (nwS σ d i) k by omega)]
                      grind
                    · by_cases hjk : j' = k
                      · subst hjk; exact hok.trans hth
                      · exact hprev j' (by omega) hji'
                · have hne : (σ 37 k).toNatClampNeg ≠ i := by rw [hj, q_clamp (by omega)]; exact hst'
                  exact hnext (by unfold nwS; rw [decide_eq_false hne, Bool.and_false]) (fun h => absurd h hne)
              · exact hnext (by unfold nwS; rw [decide_eq_false hsd, Bool.false_and]) (fun _ => by unfold okK; rw [decide_eq_false hsd]; rfl)
    · refine wiF (by rw [bE 30 (by decide) (by decide) (by decide), hn, q_le (by omega) (by omega)]; omega) ?_
      have hcl : (qN k).toNatClampNeg = k := q_clamp (by omega)
      refine wk (k := k) rfl (by omega) (by omega) ?_
      have hdu : duS σ d 0 k = decide (σ 36 k = qN d) := by unfold duS; rw [decide_eq_true (Nat.zero_le _), Bool.and_true]
      refine wi (fun hsd => ?_) fun hsd => ?_ <;> rw [hcl, bE 36 (by decide) (by decide) (by decide), bE 66 (by decide) (by decide) (by decide), hCP.2.1] at hsd
      · refine wn fun x ex => hK _ (by omega) ⟨q_add k 1, ?_⟩
        show x = _
        rw [ex, cnN, hdu, decide_eq_true hsd]; exact q_add _ 1
      · refine wn fun x ex => hK _ (by omega) ⟨q_add k 1, ?_⟩
        show x = _
        rw [ex, cnN, hdu, decide_eq_false hsd]; exact q_add _ 0
  obtain ⟨x, hx, x1, x2⟩ := hm
  exact ⟨x.2, by rw [hx, ← x1], x2⟩
end
