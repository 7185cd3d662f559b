set_option linter.unusedVariables false
set_option linter.unusedSimpArgs false
set_option maxRecDepth 16384
/-! the limit's expression, worked out by both -/
theorem Ht_pre {c : Nat → Int32} : ∀ {L : Nat}, (Ht c L).isSome = true → ∀ k, k ≤ L → ∃ h, Ht c k = some h ∧ h ≤ 40 := by
  intro L
  induction L with
  | zero => intro _ k hk; have : k = 0 := by omega
            subst this; exact ⟨0, rfl, by omega⟩
  | succ L ih =>
    intro h k hk
    rw [Ht] at h
    cases hL : Ht c L with
    | none => rw [hL] at h; cases h
    | some a =>
      have ih' := ih (by rw [hL]; rfl)
      by_cases hkl : k ≤ L
      · exact ih' k hkl
      · have : k = L + 1 := by omega
        subst this
        rw [hL] at h
        obtain ⟨a', ha', hle⟩ := ih' L (Nat.le_refl L)
        rw [hL] at ha'; injection ha' with ha'; subst ha'
        rw [Ht, hL]
        show ∃ h, st1 (c L) a = some h ∧ _
        change (st1 (c L) a).isSome = true at h
        unfold st1 at h ⊢
        split
        · split
          · exact ⟨_, rfl, by omega⟩
          · rw [if_pos (by assumption), if_neg (by assumption)] at h; cases h
        · split
          · split
            · exact ⟨_, rfl, hle⟩
            · rw [if_neg (by assumption), if_pos (by assumption), if_neg (by assumption)] at h; cases h
          · split
            · exact ⟨_, rfl, by omega⟩
            · rw [if_neg (by assumption), if_neg (by assumption), if_neg (by assumption)] at h; cases h
def opS (c a b : Int32) : Int32 :=
  if c = -18 then a * b else if c = -17 then a - b else if c = -16 then a + b else if c = -15 then (if a = b then 1 else 0) else if c = -14 then (if b ≤ a then 0 else 1) else if c = -13 then (if a = 0 then 0 else if b = 0 then 0 else 1) else if c = -12 then (if a = 0 then (if b = 0 then 0 else 1) else 1) else (if b = 0 then 0 else a / b)
theorem some_if {α : Type} {c : Prop} [Decidable c] (a b : α) : (if c then some a else some b) = some (if c then a else b) := by split <;> rfl
theorem C_joined {F : Nat} {σ : St} (c a b : Int32) : fX8_joined F σ c a b = some (opS c a b) := by
  unfold fX8_joined opS
  have hz : (if b = 0 then some (0 : Int32) else ckZ b (some (a / b))) = some (if b = 0 then 0 else a / b) := by
    split
    · rfl
    · unfold ckZ; rw [if_neg (by assumption)]
  rw [hz]
  simp only [some_if]
theorem M_reckon {F : Nat} {τ : St} {c r : Int32} (h : cRel c r) (hc : c ≤ -12) (a b : Int32) : fX11_reckon F τ r a b = some (opS c a b) := by
  have hz : (if b = 0 then some (0 : Int32) else ckZ b (some (a / b))) = some (if b = 0 then 0 else a / b) := by
    split
    · rfl
    · unfold ckZ; rw [if_neg (by assumption)]
  unfold fX11_reckon
  rw [hz]
  simp only [some_if]
  rcases h with ⟨rfl, h⟩ | ⟨rfl, rfl⟩ | ⟨rfl, rfl⟩ | ⟨rfl, rfl⟩ | ⟨rfl, rfl⟩ | ⟨rfl, rfl⟩ | ⟨rfl, rfl⟩ | ⟨rfl, rfl⟩ | ⟨rfl, rfl⟩ | ⟨rfl, rfl⟩
  · exfalso; grind
  · exact absurd hc (by decide)
  all_goals rfl
theorem neg_get {x : Int32} (h1 : -6 ≤ x) (h2 : x ≤ -1) : ∃ j, -1 - x = qN j ∧ j < 6 := by
  obtain ⟨k, hk, hk6⟩ := q_get (x := -1 - x) (n := 6) (by grind) (by show -1 - x < 6; grind) (by decide)
  exact ⟨k, hk, hk6⟩
theorem worth_eq {F : Nat} (hF : 800 ≤ F) {σ τ : St} {L : Nat} (hL : L ≤ 700) (hl : σ 12 0 = qN L) (hm : τ 5 3 = qN L) (hr : ∀ k, k < L → cRel (σ 13 k) (τ 15 k)) (hh : Ht (σ 13) L = some 1) (hv : ∀ j, j < 6 → τ 24 j = σ 82 j) :
    ∃ x y, fX8_worth F σ = some x ∧ fX11_valueNow F τ = some y ∧ x.1 = y.1 ∧ (∀ c, c ≠ 14 → x.2 c = σ c) ∧ (∀ c, c ≠ 25 → y.2 c = τ c) := by
  refine wpI2 (P := fun (x y : Int32 × St) => x.1 = y.1 ∧ (∀ c, c ≠ 14 → x.2 c = σ c) ∧ (∀ c, c ≠ 25 → y.2 c = τ c)) fun Q hQ => ?_
  unfold fX8_worth fX11_valueNow
  refine lp2_up Q (fun k (v w : St × Int32 × Int32) => (∀ c, c ≠ 14 → v.1 c = σ c) ∧ (∀ c, c ≠ 25 → w.1 c = τ c) ∧ v.2.1 = qN k ∧ w.2.1 = qN k ∧ ∃ h, Ht (σ 13) k = some h ∧ h ≤ 40 ∧ v.2.2 = qN h ∧ w.2.2 = qN h ∧ ∀ j, j < h → w.1 25 j = v.1 14 j) L ?_ F F 0 _ _ (by omega) (by omega) (by omega) ⟨fun _ _ => rfl, fun _ _ => rfl, rfl, rfl, 0, rfl, by omega, rfl, rfl, fun j h => by omega⟩
  rintro k ⟨v, vk, vh⟩ ⟨w, wk', wh⟩ K K' hk ⟨fv, fw, e1, e2, h, hht, h40, e3, e4, hst⟩ hK
  dsimp only at fv fw e1 e2 e3 e4 hst
  subst e1 e2 e3 e4
  dsimp only
  have v12 : v 12 0 = qN L := by rw [fv 12 (by decide)]; exact hl
  have w5 : w 5 3 = qN L := by rw [fw 5 (by decide)]; exact hm
  by_cases hkL : k = L
  · subst hkL
    rw [if_pos (show v 12 0 ≤ qN k by rw [v12, q_le (by omega) (by omega)]; omega), if_pos (show w 5 3 ≤ qN k by rw [w5, q_le (by omega) (by omega)]; omega)]
    rw [hh] at hht
    injection hht with hht
    subst hht
    rw [if_pos (show qN 1 = 1 from rfl)]
    exact hQ _ _ ⟨(hst 0 (by omega)).symm, fv, fw⟩
  · have hkl : k < L := by omega
    rw [if_neg (show ¬ v 12 0 ≤ qN k by rw [v12, q_le (by omega) (by omega)]; omega), if_neg (show ¬ w 5 3 ≤ qN k by rw [w5, q_le (by omega) (by omega)]; omega), ck_ok (by omega) (by omega), ck_ok (by omega) (by omega), q_clamp (show k < 2147483648 by omega), fv 13 (by decide), fw 15 (by decide)]
    simp only [nm]
    have hrel := hr k hkl
    obtain ⟨h', hh', hb'⟩ := Ht_pre (c := σ 13) (L := L) (by rw [hh]; rfl) (k + 1) (by omega)
    have hst1 : st1 (σ 13 k) h = some h' := by rw [← hh', Ht, hht]; rfl
    have hnx : ∀ (v' w' : St), (∀ c, c ≠ 14 → v' c = σ c) → (∀ c, c ≠ 25 → w' c = τ c) → (∀ j, j < h' → w' 25 j = v' 14 j) → Q (K (v', qN k + 1, qN h')) (K' (w', qN k + 1, qN h')) := fun v' w' a1 a2 a3 => hK (v', qN k + 1, qN h') (w', qN k + 1, qN h') hkl ⟨a1, a2, q_add k 1, q_add k 1, h', hh', hb', rfl, rfl, a3⟩
    clear hK
    have hch : (qN h).toNatClampNeg = h := q_clamp (by omega)
    generalize hx : σ 13 k = x at *
    generalize hrr : τ 15 k = r at *
    have hcase : (x = r ∧ (0 ≤ x ∨ (-6 ≤ x ∧ x ≤ -1))) ∨ (x = -11 ∧ r = -28) ∨ (x ≤ -12 ∧ r ≤ -20 ∧ r ≠ -28) := by
      rcases hrel with ⟨a, b⟩ | ⟨rfl, rfl⟩ | ⟨rfl, rfl⟩ | ⟨rfl, rfl⟩ | ⟨rfl, rfl⟩ | ⟨rfl, rfl⟩ | ⟨rfl, rfl⟩ | ⟨rfl, rfl⟩ | ⟨rfl, rfl⟩ | ⟨rfl, rfl⟩
      · exact .inl ⟨a, b⟩
      · exact .inr (.inl ⟨rfl, rfl⟩)
      all_goals exact .inr (.inr (by decide))
    rcases hcase with ⟨hxr, hc⟩ | ⟨rfl, rfl⟩ | ⟨hc1, hc2, hc3⟩
    · have h40' : h < 40 ∧ h' = h + 1 := by
        unfold st1 at hst1
        rw [if_pos (by grind)] at hst1
        split at hst1
        · injection hst1 with e; exact ⟨by assumption, e.symm⟩
        · cases hst1
      obtain ⟨h40', rfl⟩ := h40'
      rw [if_neg (show ¬ x ≤ -11 by grind), if_neg (show ¬ r ≤ -20 by grind), if_pos (show qN h < 40 by rw [show (40 : Int32) = qN 40 from rfl, q_lt (by omega) (by omega)]; omega)]
      have hadd : qN h + 1 = qN (h + 1) := q_add h 1
      by_cases hneg : x < 0
      · have hneg' : r < 0 := by rw [← hxr]; exact hneg
        obtain ⟨j, hj, hj6⟩ := neg_get (x := x) (by grind) (by grind)
        rw [if_pos hneg, if_pos hneg', ← hxr, hj, ck_ok (by omega) (by omega), ck_ok (k := h) (n := 64) (by omega) (by omega), hch, q_clamp (by omega), hadd]
        have hval : fX8_valueOf F v (qN j) = some (σ 82 j) := by
          unfold fX8_valueOf
          rw [if_neg (by rw [show (6 : Int32) = qN 6 from rfl, q_le (by omega) (by omega)]; omega), ck_ok (by omega) (by omega), q_clamp (by omega), fv 82 (by decide)]
        rw [hval, bd1_some, ck_ok (k := h) (n := 40) (by omega) (by omega)]
        refine hnx _ _ ?_ ?_ ?_
        · intro c hc; rw [up_ne _ _ _ hc, fv c hc]
        · intro c hc; rw [up_ne _ _ _ hc, fw c hc]
        · intro i hi
          rw [up_same, up_same]
          by_cases hih : i = h
          · subst hih; rw [upd_same, upd_same, fw 24 (by decide), hv j hj6]
          · rw [upd_ne _ _ hih, upd_ne _ _ hih]; exact hst i (by omega)
      · have hneg' : ¬ r < 0 := by rw [← hxr]; exact hneg
        rw [if_neg hneg, if_neg hneg', ck_ok (k := h) (n := 64) (by omega) (by omega), ck_ok (k := h) (n := 40) (by omega) (by omega), hch, hadd]
        refine hnx _ _ ?_ ?_ ?_
        · intro c hc; rw [up_ne _ _ _ hc, fv c hc]
        · intro c hc; rw [up_ne _ _ _ hc, fw c hc]
        · intro i hi
          rw [up_same, up_same]
          by_cases hih : i = h
          · subst hih; rw [upd_same, upd_same, hxr]
          · rw [upd_ne _ _ hih, upd_ne _ _ hih]; exact hst i (by omega)
    · have h1 : 1 ≤ h ∧ h' = h := by
        unfold st1 at hst1
        rw [if_neg (by decide), if_pos rfl] at hst1
        split at hst1
        · injection hst1 with e; exact ⟨by assumption, e.symm⟩
        · cases hst1
      obtain ⟨h1, rfl⟩ := h1
      have hsub : qN h' - 1 = qN (h' - 1) := q_sub (b := 1) h1
      have hcs : (qN (h' - 1)).toNatClampNeg = h' - 1 := q_clamp (by omega)
      rw [if_pos (show (-11 : Int32) ≤ -11 by decide), if_pos (show (-11 : Int32) = -11 from rfl), if_pos (show (-28 : Int32) ≤ -20 by decide), if_pos (show (-28 : Int32) = -28 from rfl), if_pos (show 1 ≤ qN h' by rw [show (1 : Int32) = qN 1 from rfl, q_le (by omega) (by omega)]; omega), hsub, hcs]
      simp only [ck_ok (show h' - 1 < 40 by omega) (show h' - 1 < 2147483648 by omega), ck_ok (show h' - 1 < 64 by omega) (show h' - 1 < 2147483648 by omega)]
      rw [hst (h' - 1) (by omega)]
      have hgo : ∀ z : Int32, Q (K (up v 14 (h' - 1) z, qN k + 1, qN h')) (K' (up w 25 (h' - 1) z, qN k + 1, qN h')) := by
        intro z
        refine hnx _ _ ?_ ?_ ?_
        · intro c hc; rw [up_ne _ _ _ hc, fv c hc]
        · intro c hc; rw [up_ne _ _ _ hc, fw c hc]
        · intro i hi
          rw [up_same, up_same]
          by_cases hih : i = h' - 1
          · subst hih; rw [upd_same, upd_same]
          · rw [upd_ne _ _ hih, upd_ne _ _ hih]; exact hst i (by omega)
      by_cases hz : v 14 (h' - 1) = 0
      · rw [if_pos hz, if_pos hz]; exact hgo 1
      · rw [if_neg hz, if_neg hz]; exact hgo 0
    · have h2 : 2 ≤ h ∧ h' = h - 1 := by
        unfold st1 at hst1
        rw [if_neg (by grind), if_neg (by grind)] at hst1
        split at hst1
        · injection hst1 with e; exact ⟨by assumption, e.symm⟩
        · cases hst1
      obtain ⟨h2, rfl⟩ := h2
      have hm1 : qN h + Int32.ofInt (-1) = qN (h - 1) := by
        rw [← q_sub (b := 1) (by omega)]; show qN h + (-1) = qN h - 1; grind
      have hm2 : qN (h - 1) - 1 = qN (h - 1 - 1) := q_sub (b := 1) (by omega)
      have hc1' : (qN (h - 1)).toNatClampNeg = h - 1 := q_clamp (by omega)
      have hc2' : (qN (h - 1 - 1)).toNatClampNeg = h - 1 - 1 := q_clamp (by omega)
      rw [if_pos (show x ≤ -11 by grind), if_neg (show ¬ x = -11 by grind), if_pos hc2, if_neg hc3, if_pos (show 2 ≤ qN h by rw [show (2 : Int32) = qN 2 from rfl, q_le (by omega) (by omega)]; omega), hm1, hm2, hc1', hc2']
      simp only [ck_ok (show h - 1 - 1 < 40 by omega) (show h - 1 - 1 < 2147483648 by omega), ck_ok (show h - 1 - 1 < 64 by omega) (show h - 1 - 1 < 2147483648 by omega), ck_ok (show h - 1 < 40 by omega) (show h - 1 < 2147483648 by omega), ck_ok (show h - 1 < 64 by omega) (show h - 1 < 2147483648 by omega), C_joined, M_reckon hrel hc1, bd1_some]
      rw [hst (h - 1 - 1) (by omega), hst (h - 1) (by omega)]
      refine hnx _ _ ?_ ?_ ?_
      · intro c hc; rw [up_ne _ _ _ hc, fv c hc]
      · intro c hc; rw [up_ne _ _ _ hc, fw c hc]
      · intro i hi
        rw [up_same, up_same]
        by_cases hih : i = h - 1 - 1
        · subst hih; rw [upd_same, upd_same]
        · rw [upd_ne _ _ hih, upd_ne _ _ hih]; exact hst i (by omega)
