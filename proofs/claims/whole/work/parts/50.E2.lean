set_option linter.unusedVariables false
set_option linter.unusedSimpArgs false
set_option maxRecDepth 16384
/-! calls that only ask -/
def G1 (c : Nat) (fc : Option (Nat × Int32 × St)) (fm : Option (Int32 × St)) : Prop := ∃ (res : Nat × Int32 × St) (r : Int32) (τ' : St), fc = some res ∧ (res.1 = 0 ∨ res.1 = c) ∧ fm = some (r, τ') ∧ τ' 0 4 = (if res.1 = 0 then (0 : Int32) else 1) ∧ (res.1 = 0 → res.2.1 = r) ∧ Rl res.2.2 τ'
def G2 (fc : Option (Nat × Int32 × St)) (fm : Option (Int32 × St)) : Prop := ∃ (res : Nat × Int32 × St) (r : Int32) (τ' : St), fc = some res ∧ (res.1 = 0 ∨ res.1 = 1 ∨ res.1 = 2) ∧ fm = some (r, τ') ∧ τ' 0 4 = (if res.1 = 0 then (0 : Int32) else if res.1 = 1 then 1 else 2) ∧ (res.1 = 0 → res.2.1 = r) ∧ Rl res.2.2 τ'
theorem G1_ok {c : Nat} {fc : Option (Nat × Int32 × St)} {fm : Option (Int32 × St)} {σ τ σ' τ' : St} {v w : Int32} (R : Rl σ τ) (hc : fc = some (0, v, σ')) (hm : fm = some (w, τ')) (hvw : v = w) (e : CE σ σ') (m : ME τ τ') (h4 : τ' 0 4 = 0) : G1 c fc fm :=
  ⟨_, _, _, hc, .inl rfl, hm, h4, fun _ => hvw, R.fr e m⟩
theorem G1_no {c : Nat} (h0 : c ≠ 0) {fc : Option (Nat × Int32 × St)} {fm : Option (Int32 × St)} {σ τ σ' τ' : St} {v r : Int32} (R : Rl σ τ) (hc : fc = some (c, v, σ')) (hm : fm = some (r, τ')) (e : CE σ σ') (m : ME τ τ') (h4 : τ' 0 4 = 1) : G1 c fc fm :=
  ⟨_, _, _, hc, .inr rfl, hm, by rw [h4, if_neg h0], fun h => absurd h h0, R.fr e m⟩
theorem G2_ok {fc : Option (Nat × Int32 × St)} {fm : Option (Int32 × St)} {σ τ σ' τ' : St} {v w : Int32} (R : Rl σ τ) (hc : fc = some (0, v, σ')) (hm : fm = some (w, τ')) (hvw : v = w) (e : CE σ σ') (m : ME τ τ') (h4 : τ' 0 4 = 0) : G2 fc fm :=
  ⟨_, _, _, hc, .inl rfl, hm, h4, fun _ => hvw, R.fr e m⟩
theorem G2_no {fc : Option (Nat × Int32 × St)} {fm : Option (Int32 × St)} {σ τ σ' τ' : St} {v r : Int32} (R : Rl σ τ) (hc : fc = some (1, v, σ')) (hm : fm = some (r, τ')) (e : CE σ σ') (m : ME τ τ') (h4 : τ' 0 4 = 1) : G2 fc fm :=
  ⟨_, _, _, hc, .inr (.inl rfl), hm, h4, fun h => absurd (show (1 : Nat) = 0 from h) (by decide), R.fr e m⟩
theorem G2_no2 {fc : Option (Nat × Int32 × St)} {fm : Option (Int32 × St)} {σ τ σ' τ' : St} {v r : Int32} (R : Rl σ τ) (hc : fc = some (2, v, σ')) (hm : fm = some (r, τ')) (e : CE σ σ') (m : ME τ τ') (h4 : τ' 0 4 = 2) : G2 fc fm :=
  ⟨_, _, _, hc, .inr (.inr rfl), hm, h4, fun h => absurd (show (2 : Nat) = 0 from h) (by decide), R.fr e m⟩
theorem get_d {σ τ : St} (T : Told σ τ) {a : Int32} (h : 0 ≤ a ∧ a < σ 2 1) : ∃ d, a = qN d ∧ d < nD σ := by
  have h2 := h.2
  rw [T.2.2.2.1] at h2
  exact q_get (by have := h.1; grind) h2 (by have := T.2.2.2.2.1; omega)
theorem get_v {σ τ : St} (T : Told σ τ) {a : Int32} (h : 0 ≤ a ∧ a < σ 2 0) : ∃ v, a = qN v ∧ v < nV σ := by
  have h2 := h.2
  rw [T.1] at h2
  exact q_get (by have := h.1; grind) h2 (by have := T.2.1; omega)
theorem get_n {a : Int32} {n : Nat} (h : 0 ≤ a ∧ a < qN n) (hn : n < 2147483648) : ∃ k, a = qN k ∧ k < n := q_get (by have := h.1; grind) h.2 hn
theorem M_fail {F : Nat} {τ : St} {k : Int32} : fX11_fail F τ k = some (0, up τ 0 4 k) := rfl
theorem up4 {τ : St} {k : Int32} : up τ 0 4 k 0 4 = k := by rw [up_same, upd_same]
theorem ME4 {τ : St} {k : Int32} : ME τ (up τ 0 4 k) := ME_up0 (.inl rfl)
theorem mq4 {τ τ' : St} (m : MqE τ τ') : τ' 0 4 = τ 0 4 := by rw [m 0 rfl]
theorem if1_0 {c : Prop} [Decidable c] : ((if c then (1 : Int32) else 0) = 0) ↔ ¬ c := by
  by_cases h : c
  · rw [if_pos h]; exact ⟨fun h => absurd h (by decide), fun hh => absurd h hh⟩
  · rw [if_neg h]; exact ⟨fun _ => h, fun _ => rfl⟩
section
variable {F : Nat}
theorem sm_fault : Sm_fault F Rl := by
  intro σ τ R
  exact ⟨_, _, rfl, by show some (up τ 0 4 0 0 27, up τ 0 4 0) = _; rw [up_same, upd_ne _ _ (by decide), R.1.2.2.2.2], R.fr CE.rfl ME4⟩
theorem sm_knees : Sm_knees F Rl := by
  intro σ τ a R
  show G1 1 _ _
  unfold fX10_knees fX11_knees
  refine wn (Q := fun o => G1 1 _ o) fun τ0 h0 => ?_
  have R0 : Rl σ τ0 := by rw [h0]; exact R.fr CE.rfl ME4
  have h4 : τ0 0 4 = 0 := by rw [h0]; exact up4
  rw [C_chkV, M_isValley R0.2.1, bd1_some, bd1_some]
  by_cases hv : 0 ≤ a ∧ a < σ 2 0
  · rw [if_pos hv, if_pos hv, if_pos rfl, if_neg (by decide)]
    obtain ⟨v, rfl, hvn⟩ := get_v R.2.1 hv
    have := R.2.1.2.1
    rw [ck_ok (by omega) (by omega), ck_ok (by omega) (by omega), q_clamp (by omega)]
    exact G1_ok R0 rfl rfl ((R0.2.1.2.2.2.2.2.2.2.2.1 v hvn).1.symm) CE.rfl ME.rfl h4
  · rw [if_neg hv, if_neg hv, if_neg (by decide), if_pos rfl, M_fail]
    exact G1_no (by decide) R0 rfl rfl CE.rfl ME4 up4
theorem chkS {σ τ : St} (T : Told σ τ) (a b : Int32) : ∃ t m, fX10_checkStep F σ a b = some t ∧ fX11_isStep F τ a b = some m ∧ ((t = 0 ∧ m = 1 ∧ ∃ d i, a = qN d ∧ b = qN i ∧ d < nD σ ∧ i < nS σ d) ∨ (t = 1 ∧ m = 0)) := by
  unfold fX10_checkStep fX11_isStep
  rw [C_chkD, M_isDance T, bd1_some, bd1_some]
  by_cases hv : 0 ≤ a ∧ a < σ 2 1
  · rw [if_pos hv, if_pos hv, if_pos rfl, if_neg (by decide)]
    obtain ⟨d, rfl, hd⟩ := get_d T hv
    have hb := T.dd hd
    have hn := T.dn hd
    simp only [jn]
    rw [ck_ok (by omega) (by omega), ck_ok (by omega) (by omega), q_clamp (by omega)]
    have := M_isIn (F := F) (τ := τ) b 0 (τ 10 d - 1)
    rw [show (0 : Int64) = Int32.toInt64 0 from rfl, this, bd1_some]
    rw [hn.2.2.2.1]
    have hS0 : 0 ≤ σ 7 d ∧ σ 7 d ≤ 10 := by
      rw [hn.2.2.2.2.2.2.2.2.1]
      exact ⟨by rw [show (0 : Int32) = qN 0 from rfl, q_le (by omega) (by omega)]; omega, by rw [show (10 : Int32) = qN 10 from rfl, q_le (by omega) (by omega)]; omega⟩
    by_cases hb0 : b < 0
    · rw [if_pos hb0, if_neg (show ¬ (0 ≤ b ∧ b ≤ σ 7 d - 1) by grind), if_pos rfl]
      exact ⟨_, _, rfl, rfl, .inr ⟨rfl, rfl⟩⟩
    · rw [if_neg hb0]
      by_cases hbS : b < σ 7 d
      · rw [if_pos hbS, if_pos (show 0 ≤ b ∧ b ≤ σ 7 d - 1 by grind), if_neg (by decide)]
        have hbS' := hbS
        rw [hn.2.2.2.2.2.2.2.2.1] at hbS'
        obtain ⟨i, rfl, hi⟩ := q_get hb0 hbS' (by omega)
        exact ⟨_, _, rfl, rfl, .inl ⟨rfl, rfl, d, i, rfl, rfl, hd, hi⟩⟩
      · rw [if_neg hbS, if_neg (show ¬ (0 ≤ b ∧ b ≤ σ 7 d - 1) by grind), if_pos rfl]
        exact ⟨_, _, rfl, rfl, .inr ⟨rfl, rfl⟩⟩
  · rw [if_neg hv, if_neg hv, if_neg (by decide), if_pos rfl]
    exact ⟨_, _, rfl, rfl, .inr ⟨rfl, rfl⟩⟩
theorem sm_step : Sm_step F Rl := by
  intro σ τ a b w R
  show G1 1 _ _
  unfold fX10_step fX11_step
  refine wn (Q := fun o => G1 1 _ o) fun τ0 h0 => ?_
  have R0 : Rl σ τ0 := by rw [h0]; exact R.fr CE.rfl ME4
  have h4 : τ0 0 4 = 0 := by rw [h0]; exact up4
  obtain ⟨t, m, ht, hm, hor⟩ := chkS (F := F) R0.2.1 a b
  rw [ht, hm, bd1_some, bd1_some]
  rcases hor with ⟨rfl, rfl, d, i, rfl, rfl, hd, hi⟩ | ⟨rfl, rfl⟩
  · refine wj (Q := fun o => G1 1 _ o) fun J hJ => ?_
    have T := R0.2.1
    have hb := T.dd hd
    have hs := T.st hd hi
    have hn := R0.nw.2.2.2 d i hd hi
    have := M_isIn (F := F) (τ := τ0) w 0 3
    rw [if_pos rfl, if_neg (by decide), show (0 : Int64) = Int32.toInt64 0 from rfl, show (3 : Int64) = Int32.toInt64 3 from rfl, this, bd1_some, pl_c, bd1_some, pl_m]
    simp only [nm, ck_ok (show 10 * d + i < 80 by omega) (show 10 * d + i < 2147483648 by omega), ck_ok (show 10 * d + i < 160 by omega) (show 10 * d + i < 2147483648 by omega), q_clamp (show 10 * d + i < 2147483648 by omega)]
    by_cases w0 : w = 0
    · subst w0
      exact G1_ok R0 rfl rfl hs.1.symm CE.rfl ME.rfl h4
    by_cases w1 : w = 1
    · subst w1
      exact G1_ok R0 rfl rfl hs.2.1.symm CE.rfl ME.rfl h4
    by_cases w2 : w = 2
    · subst w2
      exact G1_ok R0 rfl rfl hn.1.symm CE.rfl ME.rfl h4
    by_cases w3 : w = 3
    · subst w3
      exact G1_ok R0 rfl rfl hs.2.2.1.symm CE.rfl ME.rfl h4
    rw [if_neg w0, if_neg w1, if_neg w2, if_neg w3, if_neg (show ¬ (0 ≤ w ∧ w ≤ 3) by grind), if_pos rfl, hJ, M_fail]
    exact G1_no (by decide) R0 rfl rfl CE.rfl ME4 up4
  · refine wj (Q := fun o => G1 1 _ o) fun J hJ => ?_
    rw [if_neg (by decide), if_pos rfl, hJ, M_fail]
    exact G1_no (by decide) R0 rfl rfl CE.rfl ME4 up4
end
