set_option linter.unusedVariables false
set_option linter.unusedSimpArgs false
set_option maxRecDepth 16384
/-! the lexer of both sides -/
def mkA (c : Int32) : Bool := decide (c = 59) || (decide (c = 40) || (decide (c = 41) || (decide (c = 43) || (decide (c = 45) || (decide (c = 42) || (decide (c = 47) || (decide (c = 60) || decide (c = 61))))))))
theorem mk_if {R : Type} (x : Int32) (a b : R) : (if x = 59 then a else if x = 40 then a else if x = 41 then a else if x = 43 then a else if x = 45 then a else if x = 42 then a else if x = 47 then a else if x = 60 then a else if x = 61 then a else b) = if mkA x then a else b := by
  unfold mkA
  by_cases h1 : x = 59
  · rw [if_pos h1, decide_eq_true h1]; rfl
  rw [if_neg h1, decide_eq_false h1, Bool.false_or]
  by_cases h2 : x = 40
  · rw [if_pos h2, decide_eq_true h2]; rfl
  rw [if_neg h2, decide_eq_false h2, Bool.false_or]
  by_cases h3 : x = 41
  · rw [if_pos h3, decide_eq_true h3]; rfl
  rw [if_neg h3, decide_eq_false h3, Bool.false_or]
  by_cases h4 : x = 43
  · rw [if_pos h4, decide_eq_true h4]; rfl
  rw [if_neg h4, decide_eq_false h4, Bool.false_or]
  by_cases h5 : x = 45
  · rw [if_pos h5, decide_eq_true h5]; rfl
  rw [if_neg h5, decide_eq_false h5, Bool.false_or]
  by_cases h6 : x = 42
  · rw [if_pos h6, decide_eq_true h6]; rfl
  rw [if_neg h6, decide_eq_false h6, Bool.false_or]
  by_cases h7 : x = 47
  · rw [if_pos h7, decide_eq_true h7]; rfl
  rw [if_neg h7, decide_eq_false h7, Bool.false_or]
  by_cases h8 : x = 60
  · rw [if_pos h8, decide_eq_true h8]; rfl
  rw [if_neg h8, decide_eq_false h8, Bool.false_or]
  by_cases h9 : x = 61
  · rw [if_pos h9, decide_eq_true h9]; rfl
  rw [if_neg h9, decide_eq_false h9]; rfl
section
variable (t : Nat → Int32) (n : Nat)
def kdA (p : Nat) : Nat := if n ≤ p then 0 else if t p = 32 then 4 else if t p = 10 then 4 else if 97 ≤ t p ∧ t p ≤ 122 then 1 else if 48 ≤ t p ∧ t p ≤ 57 then 2 else if mkA (t p) then 3 else 5
def skA : Nat → Nat → Nat
  | 0, p => p
  | f + 1, p => if kdA t n p = 4 then skA f (p + 1) else p
def ruA (k : Nat) : Nat → Nat → Nat
  | 0, p => p
  | f + 1, p => if kdA t n p = k then ruA k f (p + 1) else p
def teA (s : Nat) : Nat := if kdA t n s = 0 then s else if kdA t n s = 1 ∨ kdA t n s = 2 then ruA t n (kdA t n s) 700 (s + 1) else s + 1
def skp (p : Nat) : Nat := skA t n 700 p
def nxA (s : Nat) : Nat := skp t n (teA t n s)
def byA (p : Nat) : Int32 := if p < n then t p else -1
def nuM (s : Nat) : Nat → Nat
  | 0 => 0
  | k + 1 => min 100000 (10 * nuM s k + ((t (s + k)).toNatClampNeg - 48))
end
section
variable {t : Nat → Int32} {n : Nat}
theorem kd_lt (p : Nat) : kdA t n p < 6 := by
  unfold kdA
  repeat (first | (split) | omega)
theorem kd_0 {p : Nat} : kdA t n p = 0 ↔ n ≤ p := by
  unfold kdA
  constructor
  · intro h
    apply Classical.byContradiction
    intro hp
    rw [if_neg hp] at h
    repeat (first | (split at h) | omega)
  · intro h; rw [if_pos h]
theorem skA_eq {k : Nat} : ∀ (f p : Nat), k ≤ f → (∀ j, j < k → kdA t n (p + j) = 4) → kdA t n (p + k) ≠ 4 → skA t n f p = p + k := by
  induction k with
  | zero =>
    intro f p _ _ h
    cases f with
    | zero => rfl
    | succ f => rw [skA, if_neg (show ¬ kdA t n p = 4 from h)]; rfl
  | succ k ih =>
    intro f p hf ha h
    cases f with
    | zero => omega
    | succ f =>
      rw [skA, if_pos (show kdA t n p = 4 from ha 0 (by omega)), ih f (p + 1) (by omega) (fun j hj => by rw [show p + 1 + j = p + (j + 1) by omega]; exact ha (j + 1) (by omega)) (by rw [show p + 1 + k = p + (k + 1) by omega]; exact h)]
      omega
theorem ruA_eq {c k : Nat} : ∀ (f p : Nat), k ≤ f → (∀ j, j < k → kdA t n (p + j) = c) → kdA t n (p + k) ≠ c → ruA t n c f p = p + k := by
  induction k with
  | zero =>
    intro f p _ _ h
    cases f with
    | zero => rfl
    | succ f => rw [ruA, if_neg (show ¬ kdA t n p = c from h)]; rfl
  | succ k ih =>
    intro f p hf ha h
    cases f with
    | zero => omega
    | succ f =>
      rw [ruA, if_pos (show kdA t n p = c from ha 0 (by omega)), ih f (p + 1) (by omega) (fun j hj => by rw [show p + 1 + j = p + (j + 1) by omega]; exact ha (j + 1) (by omega)) (by rw [show p + 1 + k = p + (k + 1) by omega]; exact h)]
      omega
/-- where a run of a kind ends -/
theorem run_ex (c : Nat) (hc : c ≠ 0) : ∀ (m p : Nat), n ≤ p + m → ∃ k, k ≤ m ∧ (∀ j, j < k → kdA t n (p + j) = c) ∧ kdA t n (p + k) ≠ c := by
  intro m
  induction m with
  | zero => intro p h; exact ⟨0, by omega, fun j hj => absurd hj (by omega), by rw [kd_0.2 (by omega)]; exact Ne.symm hc⟩
  | succ m ih =>
    intro p h
    by_cases hk : kdA t n p = c
    · obtain ⟨k, h1, h2, h3⟩ := ih (p + 1) (by omega)
      refine ⟨k + 1, by omega, fun j hj => ?_, by rw [show p + (k + 1) = p + 1 + k by omega]; exact h3⟩
      cases j with
      | zero => exact hk
      | succ j => rw [show p + (j + 1) = p + 1 + j by omega]; exact h2 j (by omega)
    · exact ⟨0, by omega, fun j hj => absurd hj (by omega), hk⟩
theorem skp_ex (hn : n ≤ 700) {p : Nat} (hp : p ≤ n) : ∃ k, p + k ≤ n ∧ (∀ j, j < k → kdA t n (p + j) = 4) ∧ kdA t n (p + k) ≠ 4 ∧ skp t n p = p + k := by
  obtain ⟨k, h1, h2, h3⟩ := run_ex (t := t) (n := n) 4 (by decide) (n - p) p (by omega)
  exact ⟨k, by omega, h2, h3, skA_eq 700 p (by omega) h2 h3⟩
theorem te_ex (hn : n ≤ 700) {s : Nat} (hs : s < n) (h12 : kdA t n s = 1 ∨ kdA t n s = 2) : ∃ k, s + (k + 1) ≤ n ∧ (∀ j, j < k + 1 → kdA t n (s + j) = kdA t n s) ∧ kdA t n (s + (k + 1)) ≠ kdA t n s ∧ teA t n s = s + (k + 1) := by
  have hc : kdA t n s ≠ 0 := by omega
  obtain ⟨k, h1, h2, h3⟩ := run_ex (t := t) (n := n) (kdA t n s) hc (n - (s + 1)) (s + 1) (by omega)
  refine ⟨k, by omega, fun j hj => ?_, by rw [show s + (k + 1) = s + 1 + k by omega]; exact h3, ?_⟩
  · cases j with
    | zero => rfl
    | succ j => rw [show s + (j + 1) = s + 1 + j by omega]; exact h2 j (by omega)
  · unfold teA
    rw [if_neg hc, if_pos h12, ruA_eq 700 (s + 1) (by omega) h2 h3]; omega
theorem skp_le (hn : n ≤ 700) {p : Nat} (hp : p ≤ n) : p ≤ skp t n p ∧ skp t n p ≤ n ∧ kdA t n (skp t n p) ≠ 4 := by
  obtain ⟨k, h1, _, h3, h4⟩ := skp_ex (t := t) hn hp
  rw [h4]; exact ⟨by omega, h1, h3⟩
theorem te_le (hn : n ≤ 700) {s : Nat} (hs : s ≤ n) : s ≤ teA t n s ∧ teA t n s ≤ n ∧ (kdA t n s ≠ 0 → s < teA t n s) := by
  by_cases h0 : kdA t n s = 0
  · unfold teA; rw [if_pos h0]; exact ⟨Nat.le_refl _, hs, fun h => absurd h0 h⟩
  · have hsn : s < n := by
      apply Classical.byContradiction
      intro h; exact h0 (kd_0.2 (by omega))
    by_cases h12 : kdA t n s = 1 ∨ kdA t n s = 2
    · obtain ⟨k, h1, _, _, h4⟩ := te_ex (t := t) hn hsn h12
      rw [h4]; exact ⟨by omega, h1, fun _ => by omega⟩
    · unfold teA; rw [if_neg h0, if_neg h12]; exact ⟨by omega, by omega, fun _ => by omega⟩
theorem nx_le (hn : n ≤ 700) {s : Nat} (hs : s ≤ n) : s ≤ nxA t n s ∧ nxA t n s ≤ n ∧ (kdA t n s ≠ 0 → s < nxA t n s) ∧ kdA t n (nxA t n s) ≠ 4 := by
  obtain ⟨h1, h2, h3⟩ := te_le (t := t) hn hs
  obtain ⟨g1, g2, g3⟩ := skp_le (t := t) hn h2
  unfold nxA
  exact ⟨by omega, g2, fun h => by have := h3 h; omega, g3⟩
end
def LexC (t : Nat → Int32) (n : Nat) (σ : St) (s : Nat) : Prop := σ 28 1 = 1 ∧ σ 28 2 = qN n ∧ σ 1 = t ∧ σ 28 3 = qN (kdA t n s) ∧ σ 28 4 = qN s ∧ σ 28 5 = qN (teA t n s)
def mkT (k : Nat) : Nat := if k = 5 then 4 else k
def LexM (t : Nat → Int32) (n : Nat) (τ : St) (s : Nat) : Prop := τ 0 20 = qN n ∧ τ 17 = t ∧ τ 0 21 = qN (mkT (kdA t n s)) ∧ τ 0 23 = qN s ∧ τ 0 24 = qN (teA t n s) ∧ τ 0 19 = qN (teA t n s) ∧ (kdA t n s = 2 → τ 0 22 = qN (nuM t s (teA t n s - s)))
section
variable {F : Nat} {t : Nat → Int32} {n : Nat}
theorem C_kindAt (hn : n ≤ 700) {σ : St} (h1 : σ 28 1 = 1) (h2 : σ 28 2 = qN n) (ht : σ 1 = t) {p : Nat} (hp : p < 2147483648) : fX7_kindAt F σ (qN p) = some (qN (kdA t n p)) := by
  unfold fX7_kindAt kdA
  rw [if_neg (show ¬ qN p < 0 by rw [show (0 : Int32) = qN 0 from rfl, q_lt (by omega) (by omega)]; omega), h2, ht, h1]
  by_cases hpn : p < n
  · rw [if_pos (show qN p < qN n by rw [q_lt (by omega) (by omega)]; exact hpn), if_neg (show ¬ n ≤ p by omega)]
    unfold ckE
    rw [if_pos rfl, ck_ok (by omega) (by omega), q_clamp hp]
    simp only [nm, jn]
    by_cases c1 : t p = 32
    · rw [if_pos c1, if_pos c1]; rfl
    rw [if_neg c1, if_neg c1]
    by_cases c2 : t p = 10
    · rw [if_pos c2, if_pos c2]; rfl
    rw [if_neg c2, if_neg c2, mk_if]
    have hm : (if mkA (t p) = true then (if (1 : Int32) = 0 then some (5 : Int32) else some 3) else if True then some 5 else some 3) = some (qN (if mkA (t p) then 3 else 5)) := by
      cases mkA (t p) <;> rfl
    rw [hm]
    by_cases c3 : 97 ≤ t p ∧ t p ≤ 122
    · rw [if_pos c3, if_neg (show ¬ t p < 97 by grind), if_neg (show ¬ 122 < t p by grind)]; rfl
    · rw [if_neg c3]
      have hd : (if t p < 48 then some (qN (if mkA (t p) then 3 else 5)) else if 57 < t p then some (qN (if mkA (t p) then 3 else 5)) else some 2) = some (qN (if 48 ≤ t p ∧ t p ≤ 57 then 2 else if mkA (t p) then 3 else 5)) := by
        by_cases c4 : 48 ≤ t p ∧ t p ≤ 57
        · rw [if_pos c4, if_neg (show ¬ t p < 48 by grind), if_neg (show ¬ 57 < t p by grind)]; rfl
        · rw [if_neg c4]
          by_cases c5 : t p < 48
          · rw [if_pos c5]
          · rw [if_neg c5, if_pos (show 57 < t p by grind)]
      rw [hd]
      by_cases c6 : t p < 97
      · rw [if_pos c6]
      · rw [if_neg c6, if_pos (show 122 < t p by grind)]
  · rw [if_neg (show ¬ qN p < qN n by rw [q_lt (by omega) (by omega)]; exact hpn), if_pos (show n ≤ p by omega)]; rfl
theorem C_next (hF : 800 ≤ F) (hn : n ≤ 700) {σ : St} (h1 : σ 28 1 = 1) (h2 : σ 28 2 = qN n) (ht : σ 1 = t) {p : Nat} (hp : p ≤ n) (h5 : σ 28 5 = qN p) :
    ∃ u, fX7_nextToken F σ = some u ∧ LexC t n u (skp t n p) ∧ (∀ c, c ≠ 28 → u c = σ c) ∧ (∀ j, j ≠ 3 → j ≠ 4 → j ≠ 5 → u 28 j = σ 28 j) := by
  refine wpI fun Q hQ => ?_
  unfold fX7_nextToken
  refine wn fun u2 e2 => ?_
  obtain ⟨k0, hk0, hb, hne, hsk⟩ := skp_ex (t := t) hn hp
  have b2 : ∀ c, c ≠ 28 → u2 c = σ c := fun c hc => by rw [e2, up_ne _ _ _ hc]
  have c2 : ∀ j, j ≠ 4 → u2 28 j = σ 28 j := fun j hj => by rw [e2, up_same, upd_ne _ _ hj]
  have d2 : u2 28 4 = qN p := by rw [e2, up_same, upd_same, h5]
  refine lp_up Q (fun i (v : St × Int32) => (∀ c, c ≠ 28 → v.1 c = σ c) ∧ (∀ j, j ≠ 4 → v.1 28 j = σ 28 j) ∧ v.1 28 4 = qN (p + i) ∧ v.2 = qN i) k0 ?_ F 0 _ (by omega) (by omega) ⟨b2, c2, d2, rfl⟩
  rintro i ⟨v, c⟩ K hi ⟨hv, hv28, hv4, hc⟩ hK
  dsimp only at hv hv28 hv4 hc
  subst hc
  dsimp only
  refine wj fun J7 hJ7 => ?_
  have hkd := fun q (hq : q < 2147483648) => C_kindAt (F := F) hn (σ := v) (t := t) (by rw [hv28 1 (by decide)]; exact h1) (by rw [hv28 2 (by decide)]; exact h2) (by rw [hv 1 (by decide)]; exact ht) (p := q) hq
  have hJ : i = k0 → Q (J7 ()) := by
    intro hik
    rw [hJ7, hv4]
    refine wb1 (hkd _ (by omega)) (wn fun u11 e11 => wj fun J13 hJ13 => ?_)
    have hs : p + i = skp t n p := by rw [hsk, hik]
    rw [hs] at e11 hv4
    have hsn : skp t n p ≤ n := by rw [hsk]; exact hk0
    generalize hS : skp t n p = s at *
    have t3 : u11 28 3 = qN (kdA t n s) := by rw [e11, up_same, upd_same]
    have t4 : u11 28 4 = qN s := by rw [e11, up_same, upd_ne _ _ (by decide), hv4]
    have tj : ∀ j, j ≠ 3 → j ≠ 4 → u11 28 j = σ 28 j := fun j j3 j4 => by rw [e11, up_same, upd_ne _ _ j3, hv28 j j4]
    have tc : ∀ c, c ≠ 28 → u11 c = σ c := fun c hc => by rw [e11, up_ne _ _ _ hc, hv c hc]
    have hk6 := kd_lt (t := t) (n := n) s
    have hJ13Q : ∀ e : Nat, e ≤ n → (kdA t n s = 0 → e = s) → (kdA t n s ≠ 0 → e = s + 1) → Q (J13 (qN e)) := by
      intro e hen he0 he1
      rw [hJ13]
      refine wn fun u16 e16 => wj fun J18 hJ18 => wj fun J27 hJ27 => ?_
      have f3 : u16 28 3 = qN (kdA t n s) := by rw [e16, up_same, upd_ne _ _ (by decide), t3]
      have f5 : u16 28 5 = qN e := by rw [e16, up_same, upd_same]
      have f4 : u16 28 4 = qN s := by rw [e16, up_same, upd_ne _ _ (by decide), t4]
      have fj : ∀ j, j ≠ 3 → j ≠ 4 → j ≠ 5 → u16 28 j = σ 28 j := fun j j3 j4 j5 => by rw [e16, up_same, upd_ne _ _ j5, tj j j3 j4]
      have fc : ∀ c, c ≠ 28 → u16 c = σ c := fun c hc => by rw [e16, up_ne _ _ _ hc, tc c hc]
      have hfin : ∀ z : St, (∀ c, c ≠ 28 → z c = σ c) → (∀ j, j ≠ 3 → j ≠ 4 → j ≠ 5 → z 28 j = σ 28 j) → z 28 3 = qN (kdA t n s) → z 28 4 = qN s → z 28 5 = qN (teA t n s) → Q (some z) := fun z z1 z2 z3 z4 z5 => hQ _ ⟨⟨by rw [z2 1 (by decide) (by decide) (by decide)]; exact h1, by rw [z2 2 (by decide) (by decide) (by decide)]; exact h2, by rw [z1 1 (by decide)]; exact ht, z3, z4, z5⟩, z1, z2⟩
      have hrow : (kdA t n s = 1 ∨ kdA t n s = 2) → Q (J18 1) := by
        intro h12
        have hsn' : s < n := by
          apply Classical.byContradiction
          intro h
          have := kd_0 (t := t) (n := n) (p := s) |>.2 (by omega)
          omega
        obtain ⟨k, r1, r2, r3, r4⟩ := te_ex (t := t) hn hsn' h12
        have he : e = s + 1 := he1 (by omega)
        rw [hJ18]
        refine lp_up Q (fun i (v : St × Int32) => (∀ c, c ≠ 28 → v.1 c = σ c) ∧ (∀ j, j ≠ 3 → j ≠ 4 → j ≠ 5 → v.1 28 j = σ 28 j) ∧ v.1 28 3 = qN (kdA t n s) ∧ v.1 28 4 = qN s ∧ v.1 28 5 = qN (s + 1 + i) ∧ v.2 = qN i) k ?_ F 0 _ (by omega) (by omega) ⟨fc, fj, f3, f4, by show u16 28 5 = _; rw [f5, he], rfl⟩
        rintro i ⟨w, c⟩ K2 hi2 ⟨w1, w2, w3, w4, w5, hc⟩ hK2
        dsimp only at w1 w2 w3 w4 w5 hc
        subst hc
        dsimp only
        refine wiF (by rw [show (700 : Int32) = qN 700 from rfl, q_le (by omega) (by omega)]; omega) (wiF (show ¬ (1 : Int32) = 0 by decide) ?_)
        rw [w5]
        refine wb1 (C_kindAt (F := F) hn (t := t) (by rw [w2 1 (by decide) (by decide) (by decide)]; exact h1) (by rw [w2 2 (by decide) (by decide) (by decide)]; exact h2) (by rw [w1 1 (by decide)]; exact ht) (p := s + 1 + i) (by omega)) ?_
        have hk6' := kd_lt (t := t) (n := n) (s + 1 + i)
        by_cases hik2 : i = k
        · refine wiF (by rw [w3, q_eq (by omega) (by omega), hik2, show s + 1 + k = s + (k + 1) by omega]; exact r3) (hfin w w1 w2 w3 w4 ?_)
          rw [w5, r4, hik2]; congr 1; omega
        · refine wiT (by rw [w3, show s + 1 + i = s + (i + 1) by omega, r2 (i + 1) (by omega)]) (wn fun u25 e25 => hK2 _ (by omega) ⟨?_, ?_, ?_, ?_, ?_, q_add i 1⟩)
          · intro c hc; show u25 c = _; rw [e25, up_ne _ _ _ hc, w1 c hc]
          · intro j j3 j4 j5; show u25 28 j = _; rw [e25, up_same, upd_ne _ _ j5, w2 j j3 j4 j5]
          · show u25 28 3 = _; rw [e25, up_same, upd_ne _ _ (by decide), w3]
          · show u25 28 4 = _; rw [e25, up_same, upd_ne _ _ (by decide), w4]
          · show u25 28 5 = _; rw [e25, up_same, upd_same]; exact q_add _ 1
      refine wi (fun k1 => ?_) fun k1 => ?_ <;> rw [f3, show (1 : Int32) = qN 1 from rfl, q_eq (by omega) (by omega)] at k1
      · rw [hJ27]; exact hrow (.inl k1)
      · refine wi (fun k2 => ?_) fun k2 => ?_ <;> rw [f3, show (2 : Int32) = qN 2 from rfl, q_eq (by omega) (by omega)] at k2
        · rw [hJ27]; exact hrow (.inr k2)
        · rw [hJ18]
          refine lp_up Q (fun _ (v : St × Int32) => v = (u16, 0)) 0 ?_ F 0 _ (by omega) (by omega) rfl
          · rintro k' v' K2 _ rfl _
            dsimp only
            refine wiF (by decide) (wiT rfl (hfin u16 fc fj f3 f4 ?_))
            rw [f5]
            congr 1
            unfold teA
            by_cases hz : kdA t n s = 0
            · rw [if_pos hz]; exact he0 hz
            · rw [if_neg hz, if_neg (by omega)]; exact he1 hz
    rw [t4]
    refine wi (fun hz => ?_) fun hz => ?_ <;> rw [t3, show (0 : Int32) = qN 0 from rfl, q_eq (by omega) (by omega)] at hz
    · exact hJ13Q s hsn (fun _ => rfl) (fun h => absurd hz h)
    · rw [show qN s + 1 = qN (s + 1) from q_add s 1]
      have hsn' : s < n := by
        apply Classical.byContradiction
        intro h; exact hz (kd_0.2 (by omega))
      exact hJ13Q (s + 1) (by omega) (fun h => absurd h hz) (fun _ => rfl)
  by_cases h700 : i = 700
  · refine wiT (by rw [h700]; exact Int32.le_refl _) (hJ (by omega))
  · refine wiF (by rw [show (700 : Int32) = qN 700 from rfl, q_le (by omega) (by omega)]; omega) ?_
    rw [hv4]
    refine wb1 (hkd _ (by omega)) ?_
    have hk6 := kd_lt (t := t) (n := n) (p + i)
    by_cases hik : i = k0
    · refine wiF (by rw [show (4 : Int32) = qN 4 from rfl, q_eq (by omega) (by omega), hik]; exact hne) (hJ hik)
    · refine wiT (by rw [hb i (by omega)]; rfl) (wn fun u31 e31 => hK _ (by omega) ⟨?_, ?_, ?_, q_add i 1⟩)
      · intro c hc; show u31 c = _; rw [e31, up_ne _ _ _ hc, hv c hc]
      · intro j hj; show u31 28 j = _; rw [e31, up_same, upd_ne _ _ hj, hv28 j hj]
      · show u31 28 4 = _; rw [e31, up_same, upd_same]; exact q_add _ 1
end
