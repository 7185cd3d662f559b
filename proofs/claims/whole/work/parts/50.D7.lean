set_option linter.unusedVariables false
set_option linter.unusedSimpArgs false
set_option maxRecDepth 16384
/-! clauses -/
theorem pl_c {F : Nat} {σ : St} (d i : Nat) : fX10_placeOf F σ (qN d) (qN i) = some (qN (10 * d + i)) := by
  unfold fX10_placeOf; simp only [q_lit]; rw [q_mul, q_add, Nat.mul_comm]
theorem pl_m (d i : Nat) : (10 : Int32) * qN d + qN i = qN (10 * d + i) := by
  simp only [q_lit]; rw [q_mul, q_add]
theorem bI_if {c : Prop} [Decidable c] : (if c then some (1 : Int32) else some 0) = some (bI (decide c)) := by
  by_cases h : c
  · rw [if_pos h, decide_eq_true h]; rfl
  · rw [if_neg h, decide_eq_false h]; rfl
theorem bI_0 (b : Bool) : (bI b = 0) ↔ b = false := by cases b <;> decide
theorem bI_1 (b : Bool) : (bI b = 1) ↔ b = true := by cases b <;> decide
def clS (σ : St) (d i : Nat) : Bool := (decide (σ 8 (10 * d + i) = 0) || decide (σ 8 (10 * d + i) = 2)) && !decide (σ 33 (10 * d + i) = 0)
def ofS (σ : St) (d i s : Nat) : Bool := decide (σ 9 (10 * d + i) = 2) || decide (σ 9 (10 * d + i) = qN s)
def anyN (f : Nat → Bool) : Nat → Bool
  | 0 => false
  | n + 1 => anyN f n || f n
def glS (σ : St) (d s : Nat) (a : Int32) : Bool := anyN (fun i => decide (σ 8 (10 * d + i) = 3) && decide (σ 11 (10 * d + i) = a) && ofS σ d i s) (nS σ d)
def bdS (σ : St) (d i s : Nat) : Bool := clS σ d i && ofS σ d i s && !glS σ d s (σ 11 (10 * d + i))
theorem anyN_true {f : Nat → Bool} : ∀ {n i : Nat}, i < n → f i = true → anyN f n = true := by
  intro n
  induction n with
  | zero => intro i h; omega
  | succ n ih =>
    intro i h hf
    rw [anyN]
    by_cases hi : i = n
    · subst hi; rw [hf, Bool.or_true]
    · rw [ih (by omega) hf]; rfl
theorem Told.dd {σ τ : St} (T : Told σ τ) {d : Nat} (hd : d < nD σ) : d < 8 ∧ nS σ d ≤ 10 := ⟨by have := T.2.2.2.2.1; omega, (T.2.2.2.2.2.2.2.2.2.1 d hd).2.2.2.2.2.2.2.2.2⟩
theorem Told.st {σ τ : St} (T : Told σ τ) {d i : Nat} (hd : d < nD σ) (hi : i < nS σ d) : TSt σ τ (10 * d + i) := T.2.2.2.2.2.2.2.2.2.2.1 d i hd hi
theorem Told.dn {σ τ : St} (T : Told σ τ) {d : Nat} (hd : d < nD σ) : TDn σ τ d := T.2.2.2.2.2.2.2.2.2.1 d hd
section
variable {F : Nat} {σ τ : St}
theorem C_isClause {d i : Nat} (hd : d < 8) (hi : i < 10) : fX6_isClause F σ (qN d) (qN i) = some (bI (clS σ d i)) := by
  have hcl : (qN (10 * d + i)).toNatClampNeg = 10 * d + i := q_clamp (by omega)
  unfold fX6_isClause fX0_goes clS
  rw [pl_c, bd1_some, bd1_some, ck_ok (by omega) (by omega), ck_ok (by omega) (by omega), hcl]
  simp only [nm]
  generalize σ 8 (10 * d + i) = k
  generalize σ 33 (10 * d + i) = n
  by_cases h0 : k = 0
  · subst h0
    by_cases h1 : n = 0
    · subst h1; rfl
    · rw [if_pos rfl, bd1_some, if_neg (by decide), if_neg h1, decide_eq_false h1]; rfl
  · by_cases h2 : k = 2
    · subst h2
      by_cases h1 : n = 0
      · subst h1; rfl
      · rw [if_neg h0, if_pos rfl, bd1_some, if_neg (by decide), if_neg h1, decide_eq_false h1]; rfl
    · rw [if_neg h0, if_neg h2, decide_eq_false h0, decide_eq_false h2]; rfl
theorem M_isClause (T : Told σ τ) (N : Nw 30 31 32 33 σ τ) {d i : Nat} (hd : d < nD σ) (hi : i < nS σ d) : fX11_isClause F τ (qN d) (qN i) = some (bI (clS σ d i)) := by
  have hb := T.dd hd
  have hs := T.st hd hi
  have hn := N.2.2.2 d i hd hi
  have hcl : (qN (10 * d + i)).toNatClampNeg = 10 * d + i := q_clamp (by omega)
  unfold fX11_isClause clS
  rw [pl_m]
  simp only [nm, jn, ck_ok (show 10 * d + i < 160 by omega) (show 10 * d + i < 2147483648 by omega), hcl, hs.1, hn.1]
  generalize σ 8 (10 * d + i) = k
  generalize σ 33 (10 * d + i) = n
  by_cases h0 : k = 0
  · subst h0
    by_cases h1 : n = 0
    · subst h1; rfl
    · rw [if_pos rfl, if_neg h1, decide_eq_false h1]; rfl
  · by_cases h2 : k = 2
    · subst h2
      by_cases h1 : n = 0
      · subst h1; rfl
      · rw [if_neg h0, if_pos rfl, if_neg h1, decide_eq_false h1]; rfl
    · rw [if_neg h0, if_neg h2, decide_eq_false h0, decide_eq_false h2]; rfl
theorem C_isOf {d i s : Nat} (hd : d < 8) (hi : i < 10) : fX0_isOf F σ (qN d) (qN i) (qN s) = some (bI (ofS σ d i s)) := by
  have hcl : (qN (10 * d + i)).toNatClampNeg = 10 * d + i := q_clamp (by omega)
  unfold fX0_isOf ofS
  rw [pl_c, bd1_some, ck_ok (by omega) (by omega), hcl]
  simp only [nm]
  generalize σ 9 (10 * d + i) = k
  by_cases h0 : k = 2
  · rw [if_pos h0, decide_eq_true h0]; rfl
  · rw [if_neg h0, decide_eq_false h0, bI_if]; rfl
theorem M_isOfHim (T : Told σ τ) {d i s : Nat} (hd : d < nD σ) (hi : i < nS σ d) : fX11_isOfHim F τ (qN d) (qN i) (qN s) = some (bI (ofS σ d i s)) := by
  have hb := T.dd hd
  have hs := T.st hd hi
  have hcl : (qN (10 * d + i)).toNatClampNeg = 10 * d + i := q_clamp (by omega)
  unfold fX11_isOfHim ofS
  rw [pl_m]
  simp only [nm, ck_ok (show 10 * d + i < 160 by omega) (show 10 * d + i < 2147483648 by omega), hcl, hs.2.1]
  generalize σ 9 (10 * d + i) = k
  by_cases h0 : k = 2
  · rw [if_pos h0, decide_eq_true h0]; rfl
  · rw [if_neg h0, decide_eq_false h0, bI_if]; rfl
theorem C_isGloved (hF : 20 ≤ F) (T : Told σ τ) {d s : Nat} (hd : d < nD σ) (a : Int32) : fX6_isGloved F σ (qN d) (qN s) a = some (bI (glS σ d s a)) := by
  refine wpE fun Q hQ => ?_
  have hb := T.dd hd
  have hn := (T.dn hd).2.2.2.2.2.2.2.2.1
  have hcd : (qN d).toNatClampNeg = d := q_clamp (by omega)
  unfold fX6_isGloved
  refine lp_up Q (fun i (v : Int32) => v = qN i ∧ anyN (fun i => decide (σ 8 (10 * d + i) = 3) && decide (σ 11 (10 * d + i) = a) && ofS σ d i s) i = false) (nS σ d) ?_ F 0 _ (by omega) (by omega) ⟨rfl, rfl⟩
  rintro i v K hi ⟨rfl, hv⟩ hK
  refine wk (k := d) rfl (by omega) (by omega) ?_
  rw [hcd]
  refine wi (fun h => ?_) fun h => ?_
  · rw [hn, q_le (by omega) (by omega)] at h
    have : i = nS σ d := by omega
    subst this
    unfold glS at hQ; rw [hv] at hQ; exact hQ
  · rw [hn, q_le (by omega) (by omega)] at h
    have hcl : (qN (10 * d + i)).toNatClampNeg = 10 * d + i := q_clamp (by omega)
    refine wb1 (pl_c d i) (wk (k := 10 * d + i) rfl (by omega) (by omega) ?_)
    rw [hcl]
    have hno : (decide (σ 8 (10 * d + i) = 3) && decide (σ 11 (10 * d + i) = a) && ofS σ d i s) = false → Q (K (qN i + 1)) := fun hh => hK _ (by omega) ⟨q_add i 1, by rw [anyN, hv, hh]; rfl⟩
    refine wi (fun c1 => ?_) fun c1 => hno (by rw [decide_eq_false c1]; rfl)
    refine wk (k := 10 * d + i) rfl (by omega) (by omega) ?_
    refine wi (fun c2 => ?_) fun c2 => hno (by rw [decide_eq_false c2, Bool.and_false]; rfl)
    refine wb1 (C_isOf (by omega) (by omega)) ?_
    refine wi (fun c3 => hno (by rw [(bI_0 _).1 c3, Bool.and_false])) fun c3 => ?_
    have c3' : ofS σ d i s = true := by
      cases hh : ofS σ d i s
      · exact absurd ((bI_0 _).2 hh) c3
      · rfl
    have : glS σ d s a = true := anyN_true (i := i) (by omega) (by rw [decide_eq_true c1, decide_eq_true c2, c3']; rfl)
    rw [this] at hQ; exact hQ
theorem M_hasGlove (hF : 20 ≤ F) (T : Told σ τ) {d s : Nat} (hd : d < nD σ) (a : Int32) : fX11_hasGlove F τ (qN d) (qN s) a = some (bI (glS σ d s a)) := by
  refine wpE fun Q hQ => ?_
  have hb := T.dd hd
  have hn := (T.dn hd).2.2.2.2.2.2.2.2.1
  have hn4 := (T.dn hd).2.2.2.1
  have hcd : (qN d).toNatClampNeg = d := q_clamp (by omega)
  unfold fX11_hasGlove
  refine lp_up Q (fun i (v : Int32) => v = qN i ∧ anyN (fun i => decide (σ 8 (10 * d + i) = 3) && decide (σ 11 (10 * d + i) = a) && ofS σ d i s) i = false) (nS σ d) ?_ F 0 _ (by omega) (by omega) ⟨rfl, rfl⟩
  rintro i v K hi ⟨rfl, hv⟩ hK
  refine wk (k := d) rfl (by omega) (by omega) ?_
  rw [hcd]
  refine wi (fun h => ?_) fun h => ?_
  · rw [hn4, hn, q_le (by omega) (by omega)] at h
    have : i = nS σ d := by omega
    subst this
    unfold glS at hQ; rw [hv] at hQ; exact hQ
  · rw [hn4, hn, q_le (by omega) (by omega)] at h
    have hs := T.st hd (show i < nS σ d by omega)
    have hcl : (qN (10 * d + i)).toNatClampNeg = 10 * d + i := q_clamp (by omega)
    rw [pl_m]
    refine wk (k := 10 * d + i) rfl (by omega) (by omega) ?_
    rw [hcl]
    have hno : (decide (σ 8 (10 * d + i) = 3) && decide (σ 11 (10 * d + i) = a) && ofS σ d i s) = false → Q (K (qN i + 1)) := fun hh => hK _ (by omega) ⟨q_add i 1, by rw [anyN, hv, hh]; rfl⟩
    refine wi (fun c1 => ?_) fun c1 => hno (by rw [hs.1] at c1; rw [decide_eq_false c1]; rfl)
    rw [hs.1] at c1
    refine wk (k := 10 * d + i) rfl (by omega) (by omega) ?_
    refine wi (fun c2 => ?_) fun c2 => hno (by rw [hs.2.2.1] at c2; rw [decide_eq_false c2, Bool.and_false]; rfl)
    rw [hs.2.2.1] at c2
    refine wb1 (M_isOfHim T hd (by omega)) ?_
    refine wi (fun c3 => hno (by rw [(bI_0 _).1 c3, Bool.and_false])) fun c3 => ?_
    have c3' : ofS σ d i s = true := by
      cases hh : ofS σ d i s
      · exact absurd ((bI_0 _).2 hh) c3
      · rfl
    have : glS σ d s a = true := anyN_true (i := i) (by omega) (by rw [decide_eq_true c1, decide_eq_true c2, c3']; rfl)
    rw [this] at hQ; exact hQ
theorem C_isBoundBy (hF : 20 ≤ F) (T : Told σ τ) {d i s : Nat} (hd : d < nD σ) (hi : i < nS σ d) : fX6_isBoundBy F σ (qN d) (qN i) (qN s) = some (bI (bdS σ d i s)) := by
  have hb := T.dd hd
  have hcl : (qN (10 * d + i)).toNatClampNeg = 10 * d + i := q_clamp (by omega)
  unfold fX6_isBoundBy bdS
  rw [C_isClause (by omega) (by omega), bd1_some, C_isOf (by omega) (by omega), bd1_some, pl_c, bd1_some, ck_ok (by omega) (by omega), hcl, C_isGloved hF T hd, bd1_some]
  cases clS σ d i <;> cases ofS σ d i s <;> cases glS σ d s (σ 11 (10 * d + i)) <;> rfl
theorem M_binds (hF : 20 ≤ F) (T : Told σ τ) (N : Nw 30 31 32 33 σ τ) {d i s : Nat} (hd : d < nD σ) (hi : i < nS σ d) : fX11_binds F τ (qN d) (qN i) (qN s) = some (bI (bdS σ d i s)) := by
  have hb := T.dd hd
  have hs := T.st hd hi
  have hcl : (qN (10 * d + i)).toNatClampNeg = 10 * d + i := q_clamp (by omega)
  unfold fX11_binds bdS
  rw [M_isClause T N hd hi, bd1_some, M_isOfHim T hd hi, bd1_some, pl_m, ck_ok (by omega) (by omega), hcl, hs.2.2.1, M_hasGlove hF T hd, bd1_some]
  cases clS σ d i <;> cases ofS σ d i s <;> cases glS σ d s (σ 11 (10 * d + i)) <;> rfl
end
