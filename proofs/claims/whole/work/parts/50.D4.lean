set_option linter.unusedVariables false
set_option linter.unusedSimpArgs false
set_option maxRecDepth 16384
/-! what both sides have told and now -/
theorem q_div {a b : Nat} (ha : a < 2147483648) (hb : b < 2147483648) (hb0 : 0 < b) : qN a / qN b = qN (a / b) := by
  have h1 : a / b < 2147483648 := Nat.lt_of_le_of_lt (Nat.div_le_self a b) ha
  have h2 : ((a : Int).tdiv (b : Int)) = ((a / b : Nat) : Int) := by
    rw [Int.tdiv_eq_ediv_of_nonneg (by omega)]; rfl
  rw [← Int32.toInt_inj, Int32.toInt_div, q_toInt ha, q_toInt hb, q_toInt h1, h2]
  generalize a / b = q at h1
  have : ((q : Nat) : Int).bmod (2 ^ 32) = q := Int.bmod_eq_of_le (by omega) (by omega)
  exact this
theorem div10 {x : Int32} (h0 : 0 ≤ x) (h1 : x ≤ 2000) : 0 ≤ x / 10 ∧ x / 10 ≤ 1000 := by
  obtain ⟨k, rfl, hk⟩ := q_get (x := x) (n := 2001) (by grind) (by show x < 2001; grind) (by decide)
  have : (10 : Int32) = qN 10 := rfl
  rw [this, q_div (by omega) (by decide) (by decide)]
  constructor
  · rw [show (0 : Int32) = qN 0 from rfl, q_le (by omega) (by omega)]; omega
  · rw [show (1000 : Int32) = qN 1000 from rfl, q_le (by omega) (by omega)]; omega
def nV (σ : St) : Nat := (σ 2 0).toNatClampNeg
def nD (σ : St) : Nat := (σ 2 1).toNatClampNeg
def nS (σ : St) (d : Nat) : Nat := (σ 7 d).toNatClampNeg
def TDn (σ τ : St) (d : Nat) : Prop := τ 7 d = σ 4 d ∧ τ 8 d = σ 5 d ∧ τ 9 d = σ 6 d ∧ τ 10 d = σ 7 d ∧ (∃ a, σ 4 d = qN a ∧ a < nV σ) ∧ (∃ b, σ 5 d = qN b ∧ b < nV σ) ∧ σ 4 d ≠ σ 5 d ∧ (1 ≤ σ 6 d ∧ σ 6 d ≤ 4) ∧ σ 7 d = qN (nS σ d) ∧ nS σ d ≤ 10
def TSt (σ τ : St) (p : Nat) : Prop := τ 11 p = σ 8 p ∧ τ 12 p = σ 9 p ∧ τ 14 p = σ 11 p ∧ (0 ≤ σ 8 p ∧ σ 8 p ≤ 4) ∧ (0 ≤ σ 9 p ∧ σ 9 p ≤ 2) ∧ (∃ a, σ 11 p = qN a ∧ a < 8)
/-- a code of the class beside one of the reference -/
def cRel (c r : Int32) : Prop := (c = r ∧ (0 ≤ c ∨ (-6 ≤ c ∧ c ≤ -1))) ∨ (c = -11 ∧ r = -28) ∨ (c = -12 ∧ r = -27) ∨ (c = -13 ∧ r = -26) ∨ (c = -14 ∧ r = -24) ∨ (c = -15 ∧ r = -25) ∨ (c = -16 ∧ r = -20) ∨ (c = -17 ∧ r = -21) ∨ (c = -18 ∧ r = -22) ∨ (c = -19 ∧ r = -23)
def st1 (x : Int32) (h : Nat) : Option Nat := if -11 < x then (if h < 40 then some (h + 1) else none) else if x = -11 then (if 1 ≤ h then some h else none) else if 2 ≤ h then some (h - 1) else none
def Ht (c : Nat → Int32) : Nat → Option Nat
  | 0 => some 0
  | k + 1 => (Ht c k).bind (st1 (c k))
def LimR (σ τ : St) : Prop := (σ 2 4 = 0 ∧ τ 5 3 = 0) ∨ (σ 2 4 = 1 ∧ ∃ L : Nat, 1 ≤ L ∧ L ≤ 700 ∧ σ 12 0 = qN L ∧ τ 5 3 = qN L ∧ (∀ k, k < L → cRel (σ 13 k) (τ 15 k)) ∧ Ht (σ 13) L = some 1)
def Told (σ τ : St) : Prop := σ 2 0 = qN (nV σ) ∧ nV σ ≤ 6 ∧ τ 5 0 = σ 2 0 ∧ σ 2 1 = qN (nD σ) ∧ nD σ ≤ 8 ∧ τ 5 1 = σ 2 1 ∧ τ 5 2 = σ 2 2 ∧ (4 ≤ σ 2 2 ∧ σ 2 2 ≤ 20) ∧ (∀ v, v < nV σ → τ 6 v = σ 3 v ∧ 0 ≤ σ 3 v ∧ σ 3 v ≤ 9) ∧ (∀ d, d < nD σ → TDn σ τ d) ∧ (∀ d i, d < nD σ → i < nS σ d → TSt σ τ (10 * d + i)) ∧ LimR σ τ ∧ DXY τ
def Nw (cy cd cb cn : Nat) (σ τ : St) : Prop := (0 ≤ σ cy 0 ∧ σ cy 0 ≤ 1100) ∧ τ 0 31 = σ cy 0 ∧ (∀ d, d < 8 → τ 18 d = σ cd d ∧ (0 ≤ σ cd d ∧ σ cd d ≤ σ cy 0) ∧ σ cb d = bI (bt (τ 0 32) d)) ∧ (∀ d i, d < nD σ → i < nS σ d → τ 13 (10 * d + i) = σ cn (10 * d + i) ∧ 0 ≤ σ cn (10 * d + i) ∧ σ cn (10 * d + i) ≤ 9)
def CE (σ σ' : St) : Prop := ∀ c, c < 66 → c ≠ 14 → σ' c = σ c
def okM (c : Nat) : Bool := !([0, 21, 22, 23, 24, 25, 26, 33].contains c)
def ME (τ τ' : St) : Prop := (∀ c, okM c = true → τ' c = τ c) ∧ ∀ j, j ≠ 4 → j ≠ 48 → τ' 0 j = τ 0 j
theorem CE.rfl {σ : St} : CE σ σ := fun _ _ _ => Eq.refl _
theorem CE.trans {a b c : St} (h : CE a b) (k : CE b c) : CE a c := fun x h1 h2 => (k x h1 h2).trans (h x h1 h2)
theorem ME.rfl {σ : St} : ME σ σ := ⟨fun _ _ => Eq.refl _, fun _ _ _ => Eq.refl _⟩
theorem ME.trans {a b c : St} (h : ME a b) (k : ME b c) : ME a c := ⟨fun x h1 => (k.1 x h1).trans (h.1 x h1), fun j h1 h2 => (k.2 j h1 h2).trans (h.2 j h1 h2)⟩
theorem ExC.ce {a b : St} (h : ExC a b) : CE a b := fun c h1 h2 => h c (by omega) (by omega) (by omega)
theorem okM_ne {c : Nat} (h : okM c = true) : c ≠ 0 ∧ c ≠ 21 ∧ c ≠ 22 ∧ c ≠ 23 ∧ c ≠ 24 ∧ c ≠ 25 ∧ c ≠ 26 ∧ c ≠ 33 := by
  simp [okM] at h; exact h
theorem ExM.me {a b : St} (h : ExM a b) : ME a b := ⟨fun c hc => by have := okM_ne hc; exact h c (by omega) (by omega) (by omega), fun j _ _ => by rw [h 0 (by decide) (by decide) (by decide)]⟩
theorem CE_up {σ : St} {c j : Nat} {x : Int32} (h : 66 ≤ c ∨ c = 14) : CE σ (up σ c j x) := fun a h1 h2 => up_ne _ _ _ (by omega)
theorem ME_up {σ : St} {c j : Nat} {x : Int32} (h : okM c = false) (h0 : c ≠ 0) : ME σ (up σ c j x) := ⟨fun a h1 => up_ne _ _ _ (by intro hh; subst hh; rw [h1] at h; cases h), fun j _ _ => by rw [up_ne _ _ _ (Ne.symm h0)]⟩
theorem ME_up0 {σ : St} {j : Nat} {x : Int32} (h : j = 4 ∨ j = 48) : ME σ (up σ 0 j x) := ⟨fun a h1 => up_ne _ _ _ (okM_ne h1).1, fun i h1 h2 => by rw [up_same, upd_ne _ _ (by omega)]⟩
theorem Told.fr {σ τ σ' τ' : St} (h : Told σ τ) (e : CE σ σ') (m : ME τ τ') : Told σ' τ' := by
  simp only [Told, TDn, TSt, LimR, DXY, nV, nD, nS] at h ⊢
  rw [e 2 (by decide) (by decide), e 3 (by decide) (by decide), e 4 (by decide) (by decide), e 5 (by decide) (by decide), e 6 (by decide) (by decide), e 7 (by decide) (by decide), e 8 (by decide) (by decide), e 9 (by decide) (by decide), e 11 (by decide) (by decide), e 12 (by decide) (by decide), e 13 (by decide) (by decide),
    m.1 3 rfl, m.1 4 rfl, m.1 5 rfl, m.1 6 rfl, m.1 7 rfl, m.1 8 rfl, m.1 9 rfl, m.1 10 rfl, m.1 11 rfl, m.1 12 rfl, m.1 14 rfl, m.1 15 rfl]
  exact h
theorem CE_nD {σ σ' : St} (e : CE σ σ') : nD σ' = nD σ := by unfold nD; rw [e 2 (by decide) (by decide)]
theorem CE_nV {σ σ' : St} (e : CE σ σ') : nV σ' = nV σ := by unfold nV; rw [e 2 (by decide) (by decide)]
theorem CE_nS {σ σ' : St} (e : CE σ σ') (d : Nat) : nS σ' d = nS σ d := by unfold nS; rw [e 7 (by decide) (by decide)]
theorem Nw.fr {cy cd cb cn : Nat} {σ τ σ' τ' : St} (h : Nw cy cd cb cn σ τ) (hc : (cy < 66 ∧ cy ≠ 14) ∧ (cd < 66 ∧ cd ≠ 14) ∧ (cb < 66 ∧ cb ≠ 14) ∧ (cn < 66 ∧ cn ≠ 14)) (e : CE σ σ') (m : ME τ τ') : Nw cy cd cb cn σ' τ' := by
  unfold Nw at h ⊢
  simp only [CE_nD e, CE_nS e]
  rw [e cy hc.1.1 hc.1.2, e cd hc.2.1.1 hc.2.1.2, e cb hc.2.2.1.1 hc.2.2.1.2, e cn hc.2.2.2.1 hc.2.2.2.2, m.1 18 rfl, m.1 13 rfl, m.2 31 (by decide) (by decide), m.2 32 (by decide) (by decide)]
  exact h
/-! the dance made ready -/
def kdF (σ : St) (d i : Nat) : Int32 := σ 8 (10 * d + i)
def whF (σ : St) (d i : Nat) : Int32 := σ 9 (10 * d + i)
def nsF (cn : Nat) (σ : St) (d i : Nat) : Int32 := σ cn (10 * d + i)
def kn0 (cy cd : Nat) (σ : St) (more : Int32) (d : Nat) : Int32 := (σ 3 (σ 4 d).toNatClampNeg + ((σ cy 0 - σ cd d) + more)) / 10
def kn1 (cy cd : Nat) (σ : St) (more : Int32) (d : Nat) : Int32 := (σ 3 (σ 5 d).toNatClampNeg + ((σ cy 0 - σ cd d) + more)) / 10
theorem PB_of {cy cd cb cn : Nat} {σ τ : St} (T : Told σ τ) (N : Nw cy cd cb cn σ τ) {d : Nat} (hd : d < nD σ) {more : Int32} (hm : 0 ≤ more ∧ more ≤ 99) : PB (nS σ d) (kn0 cy cd σ more d) (kn1 cy cd σ more d) (kdF σ d) (whF σ d) (nsF cn σ d) := by
  obtain ⟨t1, t2, t3, t4, t5, t6, t7, t8, t9, t10, t11, t12, t13⟩ := T
  obtain ⟨n1, n2, n3, n4⟩ := N
  have hD := t10 d hd
  obtain ⟨d1, d2, d3, d4, ⟨a, ha, hav⟩, ⟨b, hb, hbv⟩, d7, d8, d9, d10⟩ := hD
  have h3 := n3 d (by omega)
  refine ⟨d10, div10 ?_ ?_, div10 ?_ ?_, ?_⟩
  · rw [ha, q_clamp (by omega)]; have := t9 a hav; grind
  · rw [ha, q_clamp (by omega)]; have := t9 a hav; grind
  · rw [hb, q_clamp (by omega)]; have := t9 b hbv; grind
  · rw [hb, q_clamp (by omega)]; have := t9 b hbv; grind
  · intro i hi
    have h1 := t11 d i hd hi
    have h2 := n4 d i hd hi
    exact ⟨h1.2.2.2.1, h1.2.2.2.2.1, h2.2⟩
theorem MP_of {F cy cd cb cn : Nat} {σ τ : St} (T : Told σ τ) (N : Nw cy cd cb cn σ τ) {d : Nat} (hd : d < nD σ) {more : Int32} (hm : τ 0 38 = more) : MP F τ d (nS σ d) (σ 2 2) (kn0 cy cd σ more d) (kn1 cy cd σ more d) (kdF σ d) (whF σ d) (nsF cn σ d) := by
  obtain ⟨t1, t2, t3, t4, t5, t6, t7, t8, t9, t10, t11, t12, t13⟩ := T
  obtain ⟨n1, n2, n3, n4⟩ := N
  have hD := t10 d hd
  obtain ⟨d1, d2, d3, d4, ⟨a, ha, hav⟩, ⟨b, hb, hbv⟩, d7, d8, d9, d10⟩ := hD
  have h3 := n3 d (by omega)
  have hcl : (qN d).toNatClampNeg = d := q_clamp (by omega)
  refine ⟨by omega, t13, t7, d4.trans d9, ?_, ?_, ?_⟩
  · intro τ' e
    refine wpE fun Q hQ => ?_
    unfold fX11_stiff
    refine wj fun J hJ => ?_
    rw [if_pos rfl]
    refine wk (k := d) rfl (by omega) (by omega) ?_
    rw [hJ, hcl, e 7 (by decide) (by decide) (by decide), e 6 (by decide) (by decide) (by decide), e 0 (by decide) (by decide) (by decide), e 18 (by decide) (by decide) (by decide)]
    rw [d1, ha, q_clamp (by omega), n2, hm, h3.1, (t9 a hav).1]
    refine wk (k := a) rfl (by omega) (by omega) (wk (k := d) rfl (by omega) (by omega) ?_)
    have : kn0 cy cd σ more d = (σ 3 a + σ cy 0 - σ cd d + more) / 10 := by
      unfold kn0; rw [ha, q_clamp (by omega)]; congr 1; grind
    rw [this] at hQ; exact hQ
  · intro τ' e
    refine wpE fun Q hQ => ?_
    unfold fX11_stiff
    refine wj fun J hJ => ?_
    rw [if_neg (by decide)]
    refine wk (k := d) rfl (by omega) (by omega) ?_
    rw [hJ, hcl, e 8 (by decide) (by decide) (by decide), e 6 (by decide) (by decide) (by decide), e 0 (by decide) (by decide) (by decide), e 18 (by decide) (by decide) (by decide)]
    rw [d2, hb, q_clamp (by omega), n2, hm, h3.1, (t9 b hbv).1]
    refine wk (k := b) rfl (by omega) (by omega) (wk (k := d) rfl (by omega) (by omega) ?_)
    have : kn1 cy cd σ more d = (σ 3 b + σ cy 0 - σ cd d + more) / 10 := by
      unfold kn1; rw [hb, q_clamp (by omega)]; congr 1; grind
    rw [this] at hQ; exact hQ
  · intro i hi
    have h1 := t11 d i hd hi
    have h2 := n4 d i hd hi
    exact ⟨h1.1, h1.2.1, h2.1⟩
