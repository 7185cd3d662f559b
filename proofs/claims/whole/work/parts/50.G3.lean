set_option linter.unusedVariables false
set_option linter.unusedSimpArgs false
set_option maxRecDepth 16384
/-! evenings: colours of sets of dances -/
section
variable (bo : Nat → Int32) (D : Nat)
def NC (m : Nat) : Prop := ∀ e e', e < e' → e' < D → m.testBit e = true → m.testBit e' = true → bo e &&& bo e' = 0
def Col (m n : Nat) : Prop := ∃ c : Nat → Nat, (∀ e, e < D → m.testBit e = true → c e < n) ∧ ∀ e e', e < e' → e' < D → m.testBit e = true → m.testBit e' = true → c e = c e' → bo e &&& bo e' = 0
def mkS (m : Nat) : Nat → Option Int32
  | 0 => some 0
  | d + 1 => match mkS m d with
    | none => none
    | some b => if m.testBit d then (if b &&& bo d = 0 then some (b ||| bo d) else none) else some b
def oneB (m : Nat) : Bool := (mkS bo m D).isSome
end
section
variable {bo : Nat → Int32} {D : Nat}
theorem and_or0 {a b c : Int32} : ((a ||| b) &&& c = 0) ↔ (a &&& c = 0 ∧ b &&& c = 0) := by
  have hz : ∀ x : Int32, (x = 0) ↔ ∀ e, e < 32 → bt x e = false := fun x => by
    constructor
    · intro h e _; rw [h, bt_zero]
    · intro h; exact bt_ext (fun e he => by rw [h e he, bt_zero])
  rw [hz, hz, hz]
  constructor
  · intro h
    refine ⟨fun e he => ?_, fun e he => ?_⟩
    · have := h e he; rw [bt_and, bt_or] at this; rw [bt_and]
      cases ha : bt a e <;> cases hb : bt b e <;> cases hc : bt c e <;> simp_all
    · have := h e he; rw [bt_and, bt_or] at this; rw [bt_and]
      cases ha : bt a e <;> cases hb : bt b e <;> cases hc : bt c e <;> simp_all
  · rintro ⟨h1, h2⟩ e he
    have g1 := h1 e he
    have g2 := h2 e he
    rw [bt_and] at g1 g2
    rw [bt_and, bt_or]
    cases ha : bt a e <;> cases hb : bt b e <;> cases hc : bt c e <;> simp_all
theorem or_andn {a b : Int32} (h : a &&& b = 0) : (a ||| b) &&& (b ^^^ -1) = a := by
  apply bt_ext
  intro e he
  have : bt (a &&& b) e = bt 0 e := by rw [h]
  rw [bt_and, bt_zero] at this
  rw [bt_and, bt_or, bt_xor, bt_neg1 he]
  cases ha : bt a e <;> cases hb : bt b e <;> simp_all
theorem mk_spec (m : Nat) : ∀ d, (∃ b, mkS bo m d = some b ∧ (∀ e e', e < e' → e' < d → m.testBit e = true → m.testBit e' = true → bo e &&& bo e' = 0) ∧ ∀ x, (b &&& x = 0) ↔ ∀ e, e < d → m.testBit e = true → bo e &&& x = 0) ∨ (mkS bo m d = none ∧ ∃ e e', e < e' ∧ e' < d ∧ m.testBit e = true ∧ m.testBit e' = true ∧ ¬ bo e &&& bo e' = 0) := by
  intro d
  induction d with
  | zero => exact .inl ⟨0, rfl, fun e e' _ h => absurd h (by omega), fun x => ⟨fun _ e h => absurd h (by omega), fun _ => by simp⟩⟩
  | succ d ih =>
    rcases ih with ⟨b, hb, h1, h2⟩ | ⟨hn, e, e', a1, a2, a3, a4, a5⟩
    · cases htb : m.testBit d with
      | false =>
        refine .inl ⟨b, by rw [mkS, hb]; show (if m.testBit d = true then _ else _) = _; rw [htb]; rfl, fun e e' hee he' t1 t2 => ?_, fun x => ?_⟩
        · by_cases hd : e' = d
          · subst hd; rw [htb] at t2; cases t2
          · exact h1 e e' hee (by omega) t1 t2
        · rw [h2 x]
          constructor
          · intro h e he te
            by_cases hd : e = d
            · subst hd; rw [htb] at te; cases te
            · exact h e (by omega) te
          · intro h e he te; exact h e (by omega) te
      | true =>
        by_cases hc : b &&& bo d = 0
        · refine .inl ⟨b ||| bo d, by rw [mkS, hb]; show (if m.testBit d = true then _ else _) = _; rw [htb, if_pos rfl, if_pos hc], fun e e' hee he' t1 t2 => ?_, fun x => ?_⟩
          · by_cases hd : e' = d
            · subst hd; exact (h2 _).1 hc e hee t1
            · exact h1 e e' hee (by omega) t1 t2
          · rw [and_or0, h2 x]
            constructor
            · rintro ⟨g1, g2⟩ e he te
              by_cases hd : e = d
              · subst hd; exact g2
              · exact g1 e (by omega) te
            · intro h; exact ⟨fun e he te => h e (by omega) te, h d (by omega) htb⟩
        · refine .inr ⟨by rw [mkS, hb]; show (if m.testBit d = true then _ else _) = _; rw [htb, if_pos rfl, if_neg hc], ?_⟩
          have : ∃ e, e < d ∧ m.testBit e = true ∧ ¬ bo e &&& bo d = 0 := by
            apply Classical.byContradiction
            intro hno
            apply hc
            rw [h2]
            intro e he te
            apply Classical.byContradiction
            intro hne
            exact hno ⟨e, he, te, hne⟩
          obtain ⟨e, he, te, hne⟩ := this
          exact ⟨e, d, he, by omega, te, htb, hne⟩
    · exact .inr ⟨by rw [mkS, hn], e, e', a1, by omega, a3, a4, a5⟩
theorem one_iff (m : Nat) : oneB bo D m = true ↔ NC bo D m := by
  unfold oneB NC
  rcases mk_spec (bo := bo) m D with ⟨b, hb, h1, _⟩ | ⟨hn, e, e', a1, a2, a3, a4, a5⟩
  · rw [hb]; exact ⟨fun _ => h1, fun _ => rfl⟩
  · rw [hn]; exact ⟨fun h => absurd h (by decide), fun h => absurd (h e e' a1 a2 a3 a4) a5⟩
theorem col_nc {m : Nat} (h : NC bo D m) : Col bo D m 1 := ⟨fun _ => 0, fun _ _ _ => Nat.zero_lt_one, fun e e' a b c d _ => h e e' a b c d⟩
theorem nc_col {m : Nat} (h : Col bo D m 1) : NC bo D m := by
  obtain ⟨c, h1, h2⟩ := h
  intro e e' a b t t'
  have x1 := h1 e (by omega) t
  have x2 := h1 e' b t'
  exact h2 e e' a b t t' (by omega)
theorem col_8 {m : Nat} (h : D ≤ 8) : Col bo D m 8 := ⟨fun e => e, fun e he _ => show e < 8 by omega, fun e e' a _ _ _ h => absurd (show e = e' from h) (by omega)⟩
theorem sub_le {a b : Nat} (h : ∀ e, a.testBit e = true → b.testBit e = true) : a ≤ b := by
  have : a &&& b = a := by
    apply Nat.eq_of_testBit_eq
    intro e
    rw [Nat.testBit_and]
    cases ha : a.testBit e with
    | false => rfl
    | true => rw [h e ha]; rfl
  rw [← this]; exact Nat.and_le_right
theorem bit_ex {m D : Nat} (h0 : m ≠ 0) (hm : m < 2 ^ D) : ∃ e, e < D ∧ m.testBit e = true := by
  apply Classical.byContradiction
  intro hno
  apply h0
  apply Nat.eq_of_testBit_eq
  intro e
  rw [Nat.zero_testBit]
  by_cases he : e < D
  · cases ht : m.testBit e with
    | false => rfl
    | true => exact absurd ⟨e, he, ht⟩ hno
  · exact Nat.testBit_lt_two_pow (Nat.lt_of_lt_of_le hm (Nat.pow_le_pow_right (by decide) (by omega)))
theorem bit_out {m D e : Nat} (hm : m < 2 ^ D) (he : D ≤ e) : m.testBit e = false := Nat.testBit_lt_two_pow (Nat.lt_of_lt_of_le hm (Nat.pow_le_pow_right (by decide) he))
theorem col_0 {m : Nat} (h0 : m ≠ 0) (hm : m < 2 ^ D) : ¬ Col bo D m 0 := by
  rintro ⟨c, h1, _⟩
  obtain ⟨e, he, ht⟩ := bit_ex h0 hm
  exact absurd (h1 e he ht) (by omega)
/-- the rest and a part of one evening -/
theorem col_join {m p n : Nat} (hp : NC bo D p) (hs : ∀ e, p.testBit e = true → m.testBit e = true) (hc : Col bo D (m ^^^ p) n) : Col bo D m (1 + n) := by
  obtain ⟨c, h1, h2⟩ := hc
  have hx : ∀ e, m.testBit e = true → p.testBit e = false → (m ^^^ p).testBit e = true := fun e t1 t2 => by rw [Nat.testBit_xor, t1, t2]; rfl
  refine ⟨fun e => if p.testBit e then n else c e, fun e he t => ?_, fun e e' hee he' t t' hcc => ?_⟩
  · show (if p.testBit e = true then n else c e) < 1 + n
    cases hp' : p.testBit e with
    | true => rw [if_pos rfl]; omega
    | false => rw [if_neg (by decide)]; have := h1 e he (hx e t hp'); omega
  · dsimp only at hcc
    cases hpe : p.testBit e with
    | true =>
      cases hpe' : p.testBit e' with
      | true => exact hp e e' hee he' hpe hpe'
      | false =>
        rw [hpe, hpe', if_pos rfl, if_neg (by decide)] at hcc
        have := h1 e' he' (hx e' t' hpe'); omega
    | false =>
      cases hpe' : p.testBit e' with
      | true =>
        rw [hpe, hpe', if_neg (by decide), if_pos rfl] at hcc
        have := h1 e (by omega) (hx e t hpe); omega
      | false =>
        rw [hpe, hpe', if_neg (by decide), if_neg (by decide)] at hcc
        exact h2 e e' hee he' (hx e t hpe) (hx e' t' hpe') hcc
/-- what a table of evenings must keep -/
def EvG (bo : Nat → Int32) (D : Nat) (g : Nat → Nat) (m : Nat) : Prop := Col bo D m (g m) ∧ ∀ n, Col bo D m n → g m ≤ n
theorem ev_one {g : Nat → Nat} {m : Nat} (h : EvG bo D g m) (h0 : m ≠ 0) (hm : m < 2 ^ D) : g m = 1 ↔ NC bo D m := by
  constructor
  · intro e; rw [EvG, e] at h; exact nc_col h.1
  · intro hn
    have h1 := h.2 1 (col_nc hn)
    have h2 : g m ≠ 0 := fun e => by rw [EvG, e] at h; exact col_0 h0 hm h.1
    omega
theorem ev_step {g : Nat → Nat} {m x : Nat} (h0 : m ≠ 0) (hm : m < 2 ^ D) (hg : ∀ k, k ≠ 0 → k < m → EvG bo D g k) (hx : Col bo D m x) (h1 : NC bo D m → x ≤ 1)
    (h2 : ∀ p, 1 ≤ p → p < m → (∀ e, p.testBit e = true → m.testBit e = true) → g p = 1 → x ≤ 1 + g (m ^^^ p)) : ∀ n, Col bo D m n → x ≤ n := by
  intro n
  induction n with
  | zero => intro hc; exact absurd hc (col_0 h0 hm)
  | succ n ih =>
    rintro ⟨c, c1, c2⟩
    let p := bsN (fun e => m.testBit e && decide (c e = n)) D
    have hpl : p < 2 ^ D := bsN_lt _ _
    have hpb : ∀ e, e < D → p.testBit e = (m.testBit e && decide (c e = n)) := fun e he => bsN_bit _ he
    have hps : ∀ e, p.testBit e = true → m.testBit e = true := by
      intro e he
      by_cases hD : e < D
      · rw [hpb e hD] at he; rw [Bool.and_eq_true] at he; exact he.1
      · rw [bit_out hpl (by omega)] at he; cases he
    by_cases hp0 : p = 0
    · have : Col bo D m n := by
        refine ⟨c, fun e he t => ?_, c2⟩
        have h3 := c1 e he t
        have h4 := hpb e he
        rw [hp0, Nat.zero_testBit, t, Bool.true_and] at h4
        have : c e ≠ n := by simpa using h4.symm
        omega
      have := ih this
      omega
    · by_cases hpm : p = m
      · have : NC bo D m := by
          intro e e' hee he' t t'
          refine c2 e e' hee he' t t' ?_
          have a1 := hpb e (by omega)
          have a2 := hpb e' he'
          rw [hpm, t, Bool.true_and] at a1
          rw [hpm, t', Bool.true_and] at a2
          have b1 : c e = n := by simpa using a1.symm
          have b2 : c e' = n := by simpa using a2.symm
          rw [b1, b2]
        have := h1 this
        omega
      · have hpm' : p < m := by have := sub_le hps; omega
        have hNCp : NC bo D p := by
          intro e e' hee he' t t'
          refine c2 e e' hee he' (hps e t) (hps e' t') ?_
          rw [hpb e (by omega), Bool.and_eq_true, decide_eq_true_eq] at t
          rw [hpb e' he', Bool.and_eq_true, decide_eq_true_eq] at t'
          rw [t.2, t'.2]
        have hgp : g p = 1 := (ev_one (hg p hp0 hpm') hp0 hpl).2 hNCp
        have hxs : ∀ e, (m ^^^ p).testBit e = true → m.testBit e = true := by
          intro e he
          rw [Nat.testBit_xor] at he
          cases ht : m.testBit e with
          | true => rfl
          | false =>
            cases hp' : p.testBit e with
            | true => rw [hps e hp'] at ht; cases ht
            | false => rw [ht, hp'] at he; cases he
        have hx0 : m ^^^ p ≠ 0 := by
          intro h
          apply hpm
          apply Nat.eq_of_testBit_eq
          intro e
          have : (m ^^^ p).testBit e = (0 : Nat).testBit e := by rw [h]
          rw [Nat.testBit_xor, Nat.zero_testBit] at this
          cases hm' : m.testBit e <;> cases hp' : p.testBit e <;> simp_all
        have hxm : m ^^^ p < m := by
          have := sub_le hxs
          have hne : m ^^^ p ≠ m := by
            intro h
            apply hp0
            apply Nat.eq_of_testBit_eq
            intro e
            have : (m ^^^ p).testBit e = m.testBit e := by rw [h]
            rw [Nat.testBit_xor] at this
            rw [Nat.zero_testBit]
            cases hm' : m.testBit e <;> cases hp' : p.testBit e <;> simp_all
          omega
        have hcol : Col bo D (m ^^^ p) n := by
          refine ⟨c, fun e he t => ?_, fun e e' hee he' t t' => c2 e e' hee he' (hxs e t) (hxs e' t')⟩
          have tm := hxs e t
          have h3 := c1 e he tm
          have h4 := hpb e he
          rw [Nat.testBit_xor, tm] at t
          have hpf : p.testBit e = false := by
            cases hq : p.testBit e with
            | false => rfl
            | true => rw [hq] at t; cases t
          rw [hpf, tm, Bool.true_and] at h4
          have : c e ≠ n := by simpa using h4.symm
          omega
        have h5 := h2 p (by omega) hpm' hps hgp
        have h6 := (hg (m ^^^ p) hx0 hxm).2 n hcol
        omega
end
