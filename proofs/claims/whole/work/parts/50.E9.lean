set_option linter.unusedVariables false
set_option linter.unusedSimpArgs false
set_option maxRecDepth 16384
/-! acts, kept by both -/
def qe (D : Nat) (S : Nat → Nat) (q q' : Q5) : Prop := q'.1 = q.1 ∧ (∀ d, d < 8 → q'.2.1 d = q.2.1 d) ∧ (∀ d, d < 8 → q'.2.2.1 d = q.2.2.1 d) ∧ (∀ d i, d < D → i < S d → q'.2.2.2.1 (10 * d + i) = q.2.2.2.1 (10 * d + i)) ∧ (∀ k, k < 48 → q'.2.2.2.2 k = q.2.2.2.2 k)
theorem qe.rfl {D : Nat} {S : Nat → Nat} {q : Q5} : qe D S q q := ⟨Eq.refl _, fun _ _ => Eq.refl _, fun _ _ => Eq.refl _, fun _ _ _ _ => Eq.refl _, fun _ _ => Eq.refl _⟩
theorem RowR.go {D : Nat} {S : Nat → Nat} {q q' : Q5} {row row' : Nat → Int32} (hD : D ≤ 8) (hS : ∀ d, d < D → S d ≤ 10) (h : RowR D S q row) (e : qe D S q q') (r : ∀ j, j < 138 → row' j = row j) : RowR D S q' row' := by
  obtain ⟨h1, h2, h3, h4, h5⟩ := h
  obtain ⟨e1, e2, e3, e4, e5⟩ := e
  refine ⟨by rw [e1]; exact h1, by rw [r 0 (by decide), e1]; exact h2, ?_, ?_, ?_⟩
  · intro d hd
    rw [r _ (by omega), r 1 (by decide), e2 d hd, e3 d hd, e1]
    exact h3 d hd
  · intro d i hd hi
    have := hS d hd
    rw [r _ (by omega), e4 d i hd hi]
    exact h4 d i hd hi
  · intro k hk
    rw [r _ (by omega), e5 k hk]
    exact h5 k hk
theorem upd_c {f g : Nat → Int32} {a j : Nat} {x y : Int32} (h : f j = g j) (hx : x = y) : upd f a x j = upd g a y j := by
  subst hx
  unfold upd
  by_cases hj : j = a
  · rw [if_pos hj, if_pos hj]
  · rw [if_neg hj, if_neg hj, h]
theorem unS_go {D : Nat} {S : Nat → Nat} {q q' : Q5} {rows rows' : Nat → Int32} {A B : Nat} (h : rvS D S rows A) (e : qe D S q q') (r : ∀ t, t < 4 → rows' (4 * B + t) = rows (4 * A + t)) : rvS D S rows' B ∧ qe D S (unS rows A q) (unS rows' B q') := by
  obtain ⟨e1, e2, e3, e4, e5⟩ := e
  have r0 : rows' (4 * B) = rows (4 * A) := r 0 (by decide)
  have r1 := r 1 (by decide)
  have r2 := r 2 (by decide)
  have r3 := r 3 (by decide)
  refine ⟨by unfold rvS; rw [r0, r1, r2]; exact h, ?_⟩
  unfold unS
  rw [r0, r1, r2, r3]
  split
  · exact ⟨by show q'.1 - _ = q.1 - _; rw [e1], e2, e3, e4, e5⟩
  split
  · exact ⟨e1, fun d hd => upd_c (e2 d hd) (Eq.refl _), fun d hd => upd_c (e3 d hd) (Eq.refl _), e4, e5⟩
  split
  · exact ⟨e1, e2, fun d hd => upd_c (e3 d hd) (Eq.refl _), e4, e5⟩
  split
  · exact ⟨e1, e2, e3, fun d i hd hi => upd_c (e4 d i hd hi) (Eq.refl _), e5⟩
  · next h0 h1 h2 h3 =>
    rcases h with h | ⟨h, _⟩ | ⟨h, _⟩ | ⟨h, _⟩ | ⟨h, p, hp, hp8⟩
    · exact absurd h h0
    · exact absurd h h1
    · exact absurd h h2
    · exact absurd h h3
    · refine ⟨e1, e2, e3, e4, fun k hk => upd_c (e5 k hk) ?_⟩
      rw [hp, q_clamp (by omega), e5 p hp8]
theorem ChS.go {D : Nat} {S : Nat → Nat} {rows past rows' past' : Nat → Int32} {s : Nat} (hD : D ≤ 8) (hS : ∀ d, d < D → S d ≤ 10) : ∀ (A : Nat) (q q' : Q5), ChS D S rows past (A + s) q → qe D S q q' → (∀ j, j < 4 * A → rows' j = rows (j + 4 * s)) → (∀ j, j < 138 * A → past' j = past (j + 138 * s)) → ChS D S rows' past' A q' := by
  intro A
  induction A with
  | zero => intro q q' _ _ _ _; exact trivial
  | succ A ih =>
    intro q q' h e hr hp
    rw [show A + 1 + s = (A + s) + 1 by omega] at h
    obtain ⟨h1, h2, h3⟩ := h
    obtain ⟨g1, g2⟩ := unS_go (rows' := rows') (B := A) h1 e (fun t ht => by rw [hr _ (by omega)]; congr 1; omega)
    refine ⟨g1, RowR.go hD hS h2 g2 (fun j hj => ?_), ih _ _ h3 g2 (fun j hj => hr j (by omega)) (fun j hj => hp j (by omega))⟩
    show past' (138 * A + j) = past (138 * (A + s) + j)
    rw [hp _ (by omega)]; congr 1; omega
def kS (A : Nat) : Nat := if A = 40 then 1 else 0
theorem kS_le (A : Nat) (h : A ≤ 40) : kS A ≤ A ∧ A - kS A < 40 ∧ A - kS A + kS A = A := by
  unfold kS; split <;> omega
section
variable {F : Nat}
theorem M_keep (hF : 6000 ≤ F) {τ : St} {A : Nat} (hA : τ 0 33 = qN A) (h40 : A ≤ 40) : ∃ u, fX11_keep F τ = some u ∧ (∀ c, c ≠ 0 → c ≠ 20 → u c = τ c) ∧ (∀ j, j ≠ 33 → u 0 j = τ 0 j) ∧ u 0 33 = qN (A - kS A + 1) ∧ (∀ j, j < 138 → u 20 (138 * (A - kS A) + j) = rowM τ j) ∧ (∀ j, j < 138 * (A - kS A) → u 20 j = τ 20 (j + 138 * kS A)) := by
  have fin : ∀ v : St, (∀ c, c ≠ 0 → c ≠ 20 → v c = τ c) → (∀ j, j ≠ 33 → v 0 j = τ 0 j) → v 0 33 = qN (A - kS A) → (∀ j, j < 138 * (A - kS A) → v 20 j = τ 20 (j + 138 * kS A)) →
      ∃ u, (bd1 (fX11_pack F v (138 * (v 0 33))) fun u4 => nm (up u4 0 33 ((u4 0 33) + 1)) fun u6 => some u6) = some u ∧ (∀ c, c ≠ 0 → c ≠ 20 → u c = τ c) ∧ (∀ j, j ≠ 33 → u 0 j = τ 0 j) ∧ u 0 33 = qN (A - kS A + 1) ∧ (∀ j, j < 138 → u 20 (138 * (A - kS A) + j) = rowM τ j) ∧ (∀ j, j < 138 * (A - kS A) → u 20 j = τ 20 (j + 138 * kS A)) := by
    intro v h1 h2 h3 h4
    have hk := kS_le A h40
    rw [h3, show (138 : Int32) = qN 138 from rfl, q_mul, pk_1, M_pkG (by decide) (by omega) v (by omega) (by decide), bd1_some]
    refine ⟨_, rfl, ?_, ?_, ?_, ?_, ?_⟩
    · intro c hc0 hc20
      rw [up_ne _ _ _ hc0, pk_ne _ _ _ hc20]; exact h1 c hc0 hc20
    · intro j hj
      rw [up_same, upd_ne _ _ hj, pk_ne _ _ _ (by decide)]; exact h2 j hj
    · rw [up_same, upd_same, pk_ne _ _ _ (by decide), h3]; exact q_add _ 1
    · intro j hj
      rw [up_ne _ _ _ (by decide), pk_at _ _ (by decide) hj]
      unfold rowM
      rw [h2 31 (by decide), h2 32 (by decide), h1 18 (by decide) (by decide), h1 13 (by decide) (by decide), h1 19 (by decide) (by decide)]
    · intro j hj
      rw [up_ne _ _ _ (by decide), pk_out _ _ _ (.inl hj)]; exact h4 j hj
  unfold fX11_keep
  simp only [jn]
  by_cases h : A = 40
  · have hk : kS A = 1 := by unfold kS; rw [if_pos h]
    rw [if_pos (show τ 0 33 = 40 by rw [hA, h]; rfl), show (138 : Int32) = qN 138 from rfl, cp_lp 138 5382 20 20 138 0 (.inr (by decide)) ?_ ?_ (by omega)]
    · dsimp only
      rw [if_pos (show (5520 : Int32) ≤ qN (138 + 5382) from Int32.le_refl (qN 5520))]
      refine fin (up (acp τ 20 138 20 0 5382) 0 33 (acp τ 20 138 20 0 5382 0 33 - 1)) ?_ ?_ ?_ ?_
      · intro c hc0 hc20
        rw [up_ne _ _ _ hc0, acp_ne _ _ _ _ _ _ hc20]
      · intro j hj
        rw [up_same, upd_ne _ _ hj, acp_ne _ _ _ _ _ _ (by decide)]
      · rw [up_same, upd_same, acp_ne _ _ _ _ _ _ (by decide), hA, hk]; exact q_sub (a := A) (b := 1) (by omega)
      · intro j hj
        rw [up_ne _ _ _ (by decide), hk]
        have := acp_in τ 20 138 20 0 5382 (i := j) (by omega)
        rw [Nat.zero_add] at this
        rw [this]; congr 1; omega
    · intro K u i hi
      dsimp only
      rw [if_neg (by rw [show (5520 : Int32) = qN 5520 from rfl, q_le (by omega) (by omega)]; omega), ck_ok (by omega) (by omega), q_sub (by omega), ck_ok (by omega) (by omega), q_clamp (by omega), q_clamp (by omega), show 138 + i - 138 = 0 + i by omega]
      show K (_, qN (138 + i) + qN 1) = _
      rw [q_add, Nat.add_assoc]
    · intro K K' u
      dsimp only
      rw [if_pos (show (5520 : Int32) ≤ qN (138 + 5382) from Int32.le_refl (qN 5520)), if_pos (show (5520 : Int32) ≤ qN (138 + 5382) from Int32.le_refl (qN 5520))]
  · have hk : kS A = 0 := by unfold kS; rw [if_neg h]
    rw [if_neg (show ¬ τ 0 33 = 40 by rw [hA, show (40 : Int32) = qN 40 from rfl, q_eq (by omega) (by omega)]; exact h)]
    refine fin _ (fun _ _ _ => rfl) (fun _ _ => rfl) ?_ ?_
    · rw [hA, hk, Nat.sub_zero]
    · intro j _; rw [hk]; rfl
theorem C_note {σ : St} {A : Nat} (hA : σ 30 1 = qN A) (h40 : A ≤ 40) (k a b c : Int32) : ∃ u, fX9_note F σ k a b c = some u ∧ (∀ x, x ≠ 30 → x ≠ 35 → u x = σ x) ∧ u 30 0 = σ 30 0 ∧ u 30 2 = σ 30 2 ∧ u 30 1 = qN (A - kS A + 1) ∧ (u 35 (4 * (A - kS A)) = k ∧ u 35 (4 * (A - kS A) + 1) = a ∧ u 35 (4 * (A - kS A) + 2) = b ∧ u 35 (4 * (A - kS A) + 3) = c) ∧ (∀ j, j < 4 * (A - kS A) → u 35 j = σ 35 (j + 4 * kS A)) := by
  have hk := kS_le A h40
  have fin : ∀ v : St, (∀ x, x ≠ 30 → x ≠ 35 → v x = σ x) → v 30 0 = σ 30 0 → v 30 2 = σ 30 2 → v 30 1 = qN (A - kS A) → (∀ j, j < 4 * (A - kS A) → v 35 j = σ 35 (j + 4 * kS A)) →
      ∃ u, (nm ((v 30 1) * 4) fun x4 => ckI (x4) 160 (nm (up v 35 (Int32.toNatClampNeg x4) k) fun u5 => ckI (x4 + 1) 160 (nm (up u5 35 (Int32.toNatClampNeg (x4 + 1)) a) fun u6 => ckI (x4 + 2) 160 (nm (up u6 35 (Int32.toNatClampNeg (x4 + 2)) b) fun u7 => ckI (x4 + 3) 160 (nm (up u7 35 (Int32.toNatClampNeg (x4 + 3)) c) fun u8 => nm (up u8 30 1 ((u8 30 1) + 1)) fun u10 => some u10))))) = some u ∧ (∀ x, x ≠ 30 → x ≠ 35 → u x = σ x) ∧ u 30 0 = σ 30 0 ∧ u 30 2 = σ 30 2 ∧ u 30 1 = qN (A - kS A + 1) ∧ (u 35 (4 * (A - kS A)) = k ∧ u 35 (4 * (A - kS A) + 1) = a ∧ u 35 (4 * (A - kS A) + 2) = b ∧ u 35 (4 * (A - kS A) + 3) = c) ∧ (∀ j, j < 4 * (A - kS A) → u 35 j = σ 35 (j + 4 * kS A)) := by
    intro v h1 h2 h3 h4 h5
    generalize A - kS A = B at *
    simp only [nm]
    rw [h4, show (4 : Int32) = qN 4 from rfl, q_mul, show (1 : Int32) = qN 1 from rfl, show (2 : Int32) = qN 2 from rfl, show (3 : Int32) = qN 3 from rfl]
    simp only [q_add]
    rw [ck_ok (by omega) (by omega), ck_ok (by omega) (by omega), ck_ok (by omega) (by omega), ck_ok (by omega) (by omega), q_clamp (by omega), q_clamp (by omega), q_clamp (by omega), q_clamp (by omega), Nat.mul_comm B 4]
    refine ⟨_, rfl, ?_, ?_, ?_, ?_, ⟨?_, ?_, ?_, ?_⟩, ?_⟩
    · intro x hx0 hx5
      rw [up_ne _ _ _ hx0, up_ne _ _ _ hx5, up_ne _ _ _ hx5, up_ne _ _ _ hx5, up_ne _ _ _ hx5]; exact h1 x hx0 hx5
    · rw [up_same, upd_ne _ _ (by decide), up_ne _ _ _ (by decide), up_ne _ _ _ (by decide), up_ne _ _ _ (by decide), up_ne _ _ _ (by decide)]; exact h2
    · rw [up_same, upd_ne _ _ (by decide), up_ne _ _ _ (by decide), up_ne _ _ _ (by decide), up_ne _ _ _ (by decide), up_ne _ _ _ (by decide)]; exact h3
    · rw [up_same, upd_same, up_ne _ _ _ (by decide), up_ne _ _ _ (by decide), up_ne _ _ _ (by decide), up_ne _ _ _ (by decide), h4]; exact q_add _ 1
    · rw [up_ne _ _ _ (by decide), up_same, upd_ne _ _ (by omega), up_same, upd_ne _ _ (by omega), up_same, upd_ne _ _ (by omega), up_same, upd_same]
    · rw [up_ne _ _ _ (by decide), up_same, upd_ne _ _ (by omega), up_same, upd_ne _ _ (by omega), up_same, upd_same]
    · rw [up_ne _ _ _ (by decide), up_same, upd_ne _ _ (by omega), up_same, upd_same]
    · rw [up_ne _ _ _ (by decide), up_same, upd_same]
    · intro j hj
      rw [up_ne _ _ _ (by decide), up_same, upd_ne _ _ (by omega), up_same, upd_ne _ _ (by omega), up_same, upd_ne _ _ (by omega), up_same, upd_ne _ _ (by omega)]
      exact h5 j hj
  unfold fX9_note
  simp only [jn]
  by_cases h : A = 40
  · have hk1 : kS A = 1 := by unfold kS; rw [if_pos h]
    rw [if_neg (show ¬ σ 30 1 < 40 by rw [hA, show (40 : Int32) = qN 40 from rfl, q_lt (by omega) (by omega)]; omega)]
    refine fin (up (acp σ 35 4 35 0 156) 30 1 39) ?_ ?_ ?_ ?_ ?_
    · intro x h0 h5; rw [up_ne _ _ _ h0, acp_ne _ _ _ _ _ _ h5]
    · rw [up_same, upd_ne _ _ (by decide), acp_ne _ _ _ _ _ _ (by decide)]
    · rw [up_same, upd_ne _ _ (by decide), acp_ne _ _ _ _ _ _ (by decide)]
    · rw [up_same, upd_same, hk1, h]; rfl
    · intro j hj
      rw [up_ne _ _ _ (by decide), hk1]
      have := acp_in σ 35 4 35 0 156 (i := j) (by omega)
      rw [Nat.zero_add] at this
      rw [this]; congr 1; omega
  · have hk0 : kS A = 0 := by unfold kS; rw [if_neg h]
    rw [if_pos (show σ 30 1 < 40 by rw [hA, show (40 : Int32) = qN 40 from rfl, q_lt (by omega) (by omega)]; omega)]
    refine fin σ (fun _ _ _ => rfl) rfl rfl ?_ ?_
    · rw [hA, hk0, Nat.sub_zero]
    · intro j _; rw [hk0]; rfl
end
/-- the relation behind an act -/
theorem Rl.act {σ τ σ' τ' : St} {A : Nat} (R : Rl σ τ) (hA : σ 30 1 = qN A) (h40 : A ≤ 40) (hch : ChS (nD σ) (nS σ) (σ 35) (τ 20) A (σ 30 0, σ 31, σ 32, σ 33, σ 34))
    (hc : ∀ x, x ≠ 30 → x ≠ 31 → x ≠ 32 → x ≠ 33 → x ≠ 34 → x ≠ 35 → σ' x = σ x) (h2 : σ' 30 2 = σ 30 2) (h1 : σ' 30 1 = qN (A - kS A + 1))
    (hro : ∀ j, j < 4 * (A - kS A) → σ' 35 j = σ 35 (j + 4 * kS A))
    (hm : ∀ c, c ≠ 0 → c ≠ 13 → c ≠ 18 → c ≠ 19 → c ≠ 20 → τ' c = τ c) (hm0 : ∀ j, j ≠ 4 → j ≠ 31 → j ≠ 32 → j ≠ 33 → τ' 0 j = τ 0 j) (hm1 : τ' 0 33 = qN (A - kS A + 1))
    (hp : ∀ j, j < 138 → τ' 20 (138 * (A - kS A) + j) = rowM τ j) (hp2 : ∀ j, j < 138 * (A - kS A) → τ' 20 j = τ 20 (j + 138 * kS A))
    (hrv : rvS (nD σ) (nS σ) (σ' 35) (A - kS A)) (hun : qe (nD σ) (nS σ) (σ 30 0, σ 31, σ 32, σ 33, σ 34) (unS (σ' 35) (A - kS A) (σ' 30 0, σ' 31, σ' 32, σ' 33, σ' 34)))
    (hrow : RowR (nD σ) (nS σ) (σ' 30 0, σ' 31, σ' 32, σ' 33, σ' 34) (rowM τ')) : Rl σ' τ' := by
  have T := R.2.1
  have hD := T.2.2.2.2.1
  have hS : ∀ d, d < nD σ → nS σ d ≤ 10 := fun d hd => (T.dd hd).2
  have nd : nD σ' = nD σ := by unfold nD; rw [hc 2 (by decide) (by decide) (by decide) (by decide) (by decide) (by decide)]
  have ns : nS σ' = nS σ := by funext d; unfold nS; rw [hc 7 (by decide) (by decide) (by decide) (by decide) (by decide) (by decide)]
  have hcc : ∀ x, x < 30 ∨ 36 ≤ x → σ' x = σ x := fun x hx => hc x (by omega) (by omega) (by omega) (by omega) (by omega) (by omega)
  have hmm : ∀ c, (c ≠ 0 ∧ c ≠ 13 ∧ c ≠ 18 ∧ c ≠ 19 ∧ c ≠ 20) → τ' c = τ c := fun c h => hm c h.1 h.2.1 h.2.2.1 h.2.2.2.1 h.2.2.2.2
  have hkk := kS_le A h40
  obtain ⟨r1, r2, ⟨n1, n2, n3, n4⟩, r4, r5⟩ := R
  refine ⟨?_, ?_, ?_, ?_, ?_⟩
  · unfold TapR at r1 ⊢
    rw [hcc 0 (by omega), hcc 1 (by omega), hmm 17 (by decide), hm0 18 (by decide) (by decide) (by decide) (by decide), hm0 27 (by decide) (by decide) (by decide) (by decide)]
    exact r1
  · simp only [Told, TDn, TSt, LimR, DXY, nV, nD, nS] at r2 ⊢
    rw [hcc 2 (by omega), hcc 3 (by omega), hcc 4 (by omega), hcc 5 (by omega), hcc 6 (by omega), hcc 7 (by omega), hcc 8 (by omega), hcc 9 (by omega), hcc 11 (by omega), hcc 12 (by omega), hcc 13 (by omega), hmm 3 (by decide), hmm 4 (by decide), hmm 5 (by decide), hmm 6 (by decide), hmm 7 (by decide), hmm 8 (by decide), hmm 9 (by decide), hmm 10 (by decide), hmm 11 (by decide), hmm 12 (by decide), hmm 14 (by decide), hmm 15 (by decide)]
    exact r2
  · unfold NowR
    rw [nd, ns]
    refine ⟨hrow, ⟨A - kS A + 1, by omega, h1, hm1, ?_⟩, ?_, ?_⟩
    · refine ⟨hrv, RowR.go hD hS n1 hun (fun j hj => hp j hj), ChS.go (s := kS A) hD hS _ _ _ (by rw [hkk.2.2]; exact hch) hun hro hp2⟩
    · rw [h2, hcc 36 (by omega), hcc 37 (by omega), hcc 38 (by omega), hcc 39 (by omega), hcc 40 (by omega), hm0 34 (by decide) (by decide) (by decide) (by decide), hmm 28 (by decide), hmm 29 (by decide), hmm 30 (by decide), hmm 31 (by decide), hmm 32 (by decide)]
      exact n3
    · rw [hcc 41 (by omega), hmm 16 (by decide)]
      exact n4
  · unfold ImgR
    rw [nd, ns]
    unfold ImgR at r4
    rw [hcc 0 (by omega), hcc 42 (by omega), hcc 43 (by omega), hcc 44 (by omega), hcc 45 (by omega), hcc 46 (by omega), hcc 47 (by omega), hcc 48 (by omega), hcc 49 (by omega), hcc 50 (by omega), hcc 51 (by omega), hcc 52 (by omega), hcc 53 (by omega), hmm 34 (by decide), hmm 35 (by decide), hmm 36 (by decide), hmm 37 (by decide), hmm 38 (by decide), hmm 39 (by decide), hmm 40 (by decide), hmm 41 (by decide), hm0 50 (by decide) (by decide) (by decide) (by decide), hm0 51 (by decide) (by decide) (by decide) (by decide), hm0 52 (by decide) (by decide) (by decide) (by decide)]
    exact r4
  · rw [hm0 38 (by decide) (by decide) (by decide) (by decide), hmm 27 (by decide)]; exact r5
