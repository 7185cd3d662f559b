set_option linter.unusedVariables false
set_option linter.unusedSimpArgs false
set_option maxRecDepth 16384
/-! all of both sides -/
def okQ (c : Nat) : Bool := !([21, 22, 23, 24, 25, 26].contains c)
def MqE (τ τ' : St) : Prop := ∀ c, okQ c = true → τ' c = τ c
theorem MqE.rfl {σ : St} : MqE σ σ := fun _ _ => Eq.refl _
theorem MqE.trans {a b c : St} (h : MqE a b) (k : MqE b c) : MqE a c := fun x h1 => (k x h1).trans (h x h1)
theorem okQ_ne {c : Nat} (h : okQ c = true) : c ≠ 21 ∧ c ≠ 22 ∧ c ≠ 23 ∧ c ≠ 24 ∧ c ≠ 25 ∧ c ≠ 26 := by
  simp [okQ] at h; exact h
theorem MqE.me {a b : St} (h : MqE a b) : ME a b := ⟨fun c hc => h c (by have := okM_ne hc; simp [okQ]; omega), fun j _ _ => by rw [h 0 (by decide)]⟩
theorem ExM.mq {a b : St} (h : ExM a b) : MqE a b := fun c hc => by have := okQ_ne hc; exact h c (by omega) (by omega) (by omega)
theorem MqE_up {σ : St} {c j : Nat} {x : Int32} (h : okQ c = false) : MqE σ (up σ c j x) := fun a h1 => up_ne _ _ _ (by intro hh; subst hh; rw [h1] at h; cases h)
abbrev Q5 : Type := Int32 × (Nat → Int32) × (Nat → Int32) × (Nat → Int32) × (Nat → Int32)
def RowR (D : Nat) (S : Nat → Nat) (q : Q5) (row : Nat → Int32) : Prop :=
  (0 ≤ q.1 ∧ q.1 ≤ 999) ∧ row 0 = q.1 ∧ (∀ d, d < 8 → row (2 + d) = q.2.1 d ∧ (0 ≤ q.2.1 d ∧ q.2.1 d ≤ q.1) ∧ q.2.2.1 d = bI (bt (row 1) d)) ∧ (∀ d i, d < D → i < S d → row (10 + (10 * d + i)) = q.2.2.2.1 (10 * d + i) ∧ 0 ≤ q.2.2.2.1 (10 * d + i) ∧ q.2.2.2.1 (10 * d + i) ≤ 9) ∧ (∀ k, k < 48 → row (90 + k) = q.2.2.2.2 k ∧ 0 ≤ q.2.2.2.2 k ∧ q.2.2.2.2 k ≤ 9999)
def unS (rows : Nat → Int32) (A : Nat) (q : Q5) : Q5 :=
  if rows (4 * A) = 0 then (q.1 - rows (4 * A + 1), q.2)
  else if rows (4 * A) = 1 then (q.1, upd q.2.1 (rows (4 * A + 1)).toNatClampNeg (rows (4 * A + 3)), upd q.2.2.1 (rows (4 * A + 1)).toNatClampNeg (rows (4 * A + 2)), q.2.2.2)
  else if rows (4 * A) = 2 then (q.1, q.2.1, upd q.2.2.1 (rows (4 * A + 1)).toNatClampNeg 0, q.2.2.2)
  else if rows (4 * A) = 3 then (q.1, q.2.1, q.2.2.1, upd q.2.2.2.1 (10 * (rows (4 * A + 1)).toNatClampNeg + (rows (4 * A + 2)).toNatClampNeg) (rows (4 * A + 3)), q.2.2.2.2)
  else (q.1, q.2.1, q.2.2.1, q.2.2.2.1, upd q.2.2.2.2 (rows (4 * A + 1)).toNatClampNeg (q.2.2.2.2 (rows (4 * A + 1)).toNatClampNeg - rows (4 * A + 2)))
def rvS (D : Nat) (S : Nat → Nat) (rows : Nat → Int32) (A : Nat) : Prop :=
  rows (4 * A) = 0 ∨ (rows (4 * A) = 1 ∧ ∃ d, rows (4 * A + 1) = qN d ∧ d < 8) ∨ (rows (4 * A) = 2 ∧ ∃ d, rows (4 * A + 1) = qN d ∧ d < 8) ∨ (rows (4 * A) = 3 ∧ ∃ d i, rows (4 * A + 1) = qN d ∧ rows (4 * A + 2) = qN i ∧ d < D ∧ i < S d) ∨ (rows (4 * A) = 4 ∧ ∃ p, rows (4 * A + 1) = qN p ∧ p < 48)
def ChS (D : Nat) (S : Nat → Nat) (rows past : Nat → Int32) : Nat → Q5 → Prop
  | 0, _ => True
  | A + 1, q => rvS D S rows A ∧ RowR D S (unS rows A q) (fun j => past (138 * A + j)) ∧ ChS D S rows past A (unS rows A q)
def SnR (D : Nat) (S : Nat → Nat) (sd ss sw sx sy sd' ss' sw' sx' sy' : Nat → Int32) (k : Nat) : Prop := sd' k = sd k ∧ ss' k = ss k ∧ sw' k = sw k ∧ sx' k = sx k ∧ sy' k = sy k ∧ (∃ d i, sd k = qN d ∧ d < D ∧ ss k = qN i ∧ i < S d) ∧ (sw k = 0 ∨ sw k = 1)
def StR (D : Nat) (S : Nat → Nat) (q : Q5) (row rows past : Nat → Int32) (acts seen acts' seen' : Int32) (sd ss sw sx sy sd' ss' sw' sx' sy' rf rf' : Nat → Int32) : Prop :=
  RowR D S q row ∧ (∃ A, A ≤ 40 ∧ acts = qN A ∧ acts' = qN A ∧ ChS D S rows past A q) ∧ (∃ n, n ≤ 8 ∧ seen = qN n ∧ seen' = qN n ∧ ∀ k, k < n → SnR D S sd ss sw sx sy sd' ss' sw' sx' sy' k) ∧ (∀ k, k < 3 → rf' k = rf k)
def rowM (τ : St) (j : Nat) : Int32 := if j = 0 then τ 0 31 else if j = 1 then τ 0 32 else if j < 10 then τ 18 (j - 2) else if j < 90 then τ 13 (j - 10) else τ 19 (j - 90)
def NowR (σ τ : St) : Prop := StR (nD σ) (nS σ) (σ 30 0, σ 31, σ 32, σ 33, σ 34) (rowM τ) (σ 35) (τ 20) (σ 30 1) (σ 30 2) (τ 0 33) (τ 0 34) (σ 36) (σ 37) (σ 38) (σ 39) (σ 40) (τ 28) (τ 29) (τ 30) (τ 31) (τ 32) (σ 41) (τ 16)
def ImgR (σ τ : St) : Prop := StR (nD σ) (nS σ) (σ 42 0, σ 43, σ 44, σ 45, σ 46) (τ 34) (σ 47) (τ 35) (σ 42 1) (σ 42 2) (τ 0 51) (τ 0 52) (σ 48) (σ 49) (σ 50) (σ 51) (σ 52) (τ 36) (τ 37) (τ 38) (τ 39) (τ 40) (σ 53) (τ 41)
def TapR (σ τ : St) : Prop := τ 17 = σ 1 ∧ (∀ k, 0 ≤ σ 1 k ∧ σ 1 k ≤ 255) ∧ τ 0 18 = σ 0 1 ∧ (0 ≤ σ 0 1 ∧ σ 0 1 ≤ 700) ∧ τ 0 27 = σ 0 2
def Rl (σ τ : St) : Prop := TapR σ τ ∧ Told σ τ ∧ NowR σ τ ∧ ((σ 0 3 = 0 ∧ τ 0 50 = 0) ∨ (σ 0 3 = 1 ∧ τ 0 50 = 1 ∧ ImgR σ τ)) ∧ τ 0 38 = 0 ∧ ∀ k, k < 8 → τ 27 k = 0
theorem Rl.nw {σ τ : St} (h : Rl σ τ) : Nw 30 31 32 33 σ τ := by
  obtain ⟨⟨r1, r2, r3, r4, r5⟩, _⟩ := h.2.2.1
  refine ⟨by dsimp only at r1; grind, r2, ?_, ?_⟩
  · intro d hd
    have := r3 d hd
    refine ⟨?_, this.2.1, this.2.2⟩
    refine Eq.trans ?_ this.1
    show _ = rowM τ _
    unfold rowM
    rw [if_neg (by omega), if_neg (by omega), if_pos (by omega)]; congr 1; omega
  · intro d i hd hi
    have := r4 d i hd hi
    refine ⟨?_, this.2⟩
    refine Eq.trans ?_ this.1
    have hi2 : nS σ d ≤ 10 := (h.2.1.2.2.2.2.2.2.2.2.2.1 d hd).2.2.2.2.2.2.2.2.2
    have hd2 := h.2.1.2.2.2.2.1
    show _ = rowM τ _
    unfold rowM
    rw [if_neg (by omega), if_neg (by omega), if_neg (by omega), if_pos (by omega)]; congr 1; omega
theorem Rl.fr {σ τ σ' τ' : St} (h : Rl σ τ) (e : CE σ σ') (m : ME τ τ') : Rl σ' τ' := by
  obtain ⟨h1, h2, h3, h4, h5⟩ := h
  refine ⟨?_, h2.fr e m, ?_, ?_, ?_⟩
  · unfold TapR at h1 ⊢
    rw [m.1 17 rfl, e 1 (by decide) (by decide), e 0 (by decide) (by decide), m.2 18 (by decide) (by decide), m.2 27 (by decide) (by decide)]; exact h1
  · have hr : rowM τ' = rowM τ := by
      funext j; unfold rowM
      rw [m.1 18 rfl, m.1 13 rfl, m.1 19 rfl, m.2 31 (by decide) (by decide), m.2 32 (by decide) (by decide)]
    have hs : nS σ' = nS σ := by funext d; exact CE_nS e d
    unfold NowR at h3 ⊢
    rw [hr, hs, CE_nD e, e 30 (by decide) (by decide), e 31 (by decide) (by decide), e 32 (by decide) (by decide), e 33 (by decide) (by decide), e 34 (by decide) (by decide), e 35 (by decide) (by decide), e 36 (by decide) (by decide), e 37 (by decide) (by decide), e 38 (by decide) (by decide), e 39 (by decide) (by decide), e 40 (by decide) (by decide), e 41 (by decide) (by decide), m.1 20 rfl, m.1 28 rfl, m.1 29 rfl, m.1 30 rfl, m.1 31 rfl, m.1 32 rfl, m.1 16 rfl, m.2 33 (by decide) (by decide), m.2 34 (by decide) (by decide)]
    exact h3
  · have hs : nS σ' = nS σ := by funext d; exact CE_nS e d
    unfold ImgR at h4 ⊢
    rw [hs, CE_nD e, e 42 (by decide) (by decide), e 43 (by decide) (by decide), e 44 (by decide) (by decide), e 45 (by decide) (by decide), e 46 (by decide) (by decide), e 47 (by decide) (by decide), e 48 (by decide) (by decide), e 49 (by decide) (by decide), e 50 (by decide) (by decide), e 51 (by decide) (by decide), e 52 (by decide) (by decide), e 53 (by decide) (by decide), e 0 (by decide) (by decide), m.1 34 rfl, m.1 35 rfl, m.1 36 rfl, m.1 37 rfl, m.1 38 rfl, m.1 39 rfl, m.1 40 rfl, m.1 41 rfl, m.2 51 (by decide) (by decide), m.2 52 (by decide) (by decide), m.2 50 (by decide) (by decide)]
    exact h4
  · rw [m.2 38 (by decide) (by decide), m.1 27 rfl]; exact h5
/-! what is asked first -/
theorem C_chkD {F : Nat} {σ : St} {a : Int32} : fX10_checkDance F σ a = some (if 0 ≤ a ∧ a < σ 2 1 then 0 else 1) := by
  unfold fX10_checkDance
  simp only [jn]
  by_cases h1 : a < 0
  · rw [if_pos h1, if_neg (by grind)]
  · rw [if_neg h1]
    by_cases h2 : a < σ 2 1
    · rw [if_pos h2, if_pos (by grind)]
    · rw [if_neg h2, if_neg (by grind)]
theorem C_chkV {F : Nat} {σ : St} {a : Int32} : fX10_checkValley F σ a = some (if 0 ≤ a ∧ a < σ 2 0 then 0 else 1) := by
  unfold fX10_checkValley
  simp only [jn]
  by_cases h1 : a < 0
  · rw [if_pos h1, if_neg (by grind)]
  · rw [if_neg h1]
    by_cases h2 : a < σ 2 0
    · rw [if_pos h2, if_pos (by grind)]
    · rw [if_neg h2, if_neg (by grind)]
theorem C_chkB {F : Nat} {σ : St} {a b : Int32} : fX10_checkBelow F σ a b = some (if 0 ≤ a ∧ a < b then 0 else 1) := by
  unfold fX10_checkBelow
  simp only [jn]
  by_cases h1 : a < 0
  · rw [if_pos h1, if_neg (by grind)]
  · rw [if_neg h1]
    by_cases h2 : a < b
    · rw [if_pos h2, if_pos (by grind)]
    · rw [if_neg h2, if_neg (by grind)]
theorem lg_lt (a b : Int32) : (lg_cmp a.toInt64 b.toInt64 < 0) ↔ a < b := by
  have h : (a.toInt64 > b.toInt64) ↔ b < a := by
    show b.toInt64 < a.toInt64 ↔ _
    rw [Int64.lt_iff_toInt_lt, Int32.lt_iff_toInt_lt, Int32.toInt_toInt64, Int32.toInt_toInt64]
  have h2 : (a.toInt64 = b.toInt64) ↔ a = b := by
    rw [← Int64.toInt_inj, ← Int32.toInt_inj, Int32.toInt_toInt64, Int32.toInt_toInt64]
  unfold lg_cmp
  by_cases c1 : b < a
  · rw [if_pos (h.2 c1)]
    constructor
    · intro hh; exact absurd hh (by decide)
    · intro hh; grind
  · rw [if_neg (fun hh => c1 (h.1 hh))]
    by_cases c2 : a = b
    · rw [if_pos (h2.2 c2)]
      constructor
      · intro hh; exact absurd hh (by decide)
      · intro hh; grind
    · rw [if_neg (fun hh => c2 (h2.1 hh))]
      constructor
      · intro hh; grind
      · intro hh; decide
theorem lg_gt (a b : Int32) : (0 < lg_cmp a.toInt64 b.toInt64) ↔ b < a := by
  have h : (a.toInt64 > b.toInt64) ↔ b < a := by
    show b.toInt64 < a.toInt64 ↔ _
    rw [Int64.lt_iff_toInt_lt, Int32.lt_iff_toInt_lt, Int32.toInt_toInt64, Int32.toInt_toInt64]
  unfold lg_cmp
  by_cases c1 : b < a
  · rw [if_pos (h.2 c1)]
    constructor
    · intro hh; exact c1
    · intro hh; decide
  · rw [if_neg (fun hh => c1 (h.1 hh))]
    constructor
    · intro hh; split at hh <;> exact absurd hh (by decide)
    · intro hh; exact absurd hh c1
theorem M_isIn {F : Nat} {τ : St} (x lo hi : Int32) : fX11_isIn F τ x.toInt64 lo.toInt64 hi.toInt64 = some (if lo ≤ x ∧ x ≤ hi then 1 else 0) := by
  unfold fX11_isIn
  by_cases h1 : x < lo
  · rw [if_pos ((lg_lt x lo).2 h1), if_neg (by grind)]
  · rw [if_neg (fun h => h1 ((lg_lt x lo).1 h))]
    by_cases h2 : hi < x
    · rw [if_pos ((lg_gt x hi).2 h2), if_neg (by grind)]
    · rw [if_neg (fun h => h2 ((lg_gt x hi).1 h)), if_pos (by grind)]
theorem ckB_if {α : Type} {c : Prop} [Decidable c] (x : Option α) : ckB (if c then 1 else 0) x = x := by
  split
  · exact ckB1 x
  · exact ckB0 x
theorem M_isDance {F : Nat} {σ τ : St} (T : Told σ τ) (a : Int32) : fX11_isDance F τ a = some (if 0 ≤ a ∧ a < σ 2 1 then 1 else 0) := by
  unfold fX11_isDance
  have := M_isIn (F := F) (τ := τ) a 0 (τ 5 1 - 1)
  rw [show (0 : Int64) = Int32.toInt64 0 from rfl, this, bd1_some, ckB_if]
  congr 1
  have h1 := T.2.2.2.2.2.1
  have h2 := T.2.2.2.1
  have h3 := T.2.2.2.2.1
  have h4 : (0 : Int32) ≤ qN (nD σ) ∧ qN (nD σ) ≤ 8 := ⟨by rw [show (0 : Int32) = qN 0 from rfl, q_le (by omega) (by omega)]; omega, by rw [show (8 : Int32) = qN 8 from rfl, q_le (by omega) (by omega)]; omega⟩
  rw [← h2] at h4
  rw [h1]
  by_cases hc : 0 ≤ a ∧ a < σ 2 1
  · rw [if_pos hc, if_pos (by grind)]
  · rw [if_neg hc, if_neg (by grind)]
theorem M_isValley {F : Nat} {σ τ : St} (T : Told σ τ) (a : Int32) : fX11_isValley F τ a = some (if 0 ≤ a ∧ a < σ 2 0 then 1 else 0) := by
  unfold fX11_isValley
  have := M_isIn (F := F) (τ := τ) a 0 (τ 5 0 - 1)
  rw [show (0 : Int64) = Int32.toInt64 0 from rfl, this, bd1_some, ckB_if]
  congr 1
  have h1 := T.2.2.1
  have h2 := T.1
  have h3 := T.2.1
  have h4 : (0 : Int32) ≤ qN (nV σ) ∧ qN (nV σ) ≤ 8 := ⟨by rw [show (0 : Int32) = qN 0 from rfl, q_le (by omega) (by omega)]; omega, by rw [show (8 : Int32) = qN 8 from rfl, q_le (by omega) (by omega)]; omega⟩
  rw [← h2] at h4
  rw [h1]
  by_cases hc : 0 ≤ a ∧ a < σ 2 0
  · rw [if_pos hc, if_pos (by grind)]
  · rw [if_neg hc, if_neg (by grind)]
theorem M_isAbout {F : Nat} {τ : St} (a : Int32) : fX11_isAbout F τ a = some (if 0 ≤ a ∧ a < 8 then 1 else 0) := by
  unfold fX11_isAbout
  have := M_isIn (F := F) (τ := τ) a 0 7
  rw [show (0 : Int64) = Int32.toInt64 0 from rfl, show (7 : Int64) = Int32.toInt64 7 from rfl, this, bd1_some, ckB_if]
  congr 1
  by_cases hc : 0 ≤ a ∧ a < 8
  · rw [if_pos hc, if_pos (by grind)]
  · rw [if_neg hc, if_neg (by grind)]
