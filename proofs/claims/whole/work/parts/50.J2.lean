set_option linter.unusedVariables false
set_option linter.unusedSimpArgs false
set_option maxRecDepth 16384
/-! the reference's world, its rows of words as the constructor leaves them -/
theorem arrV_cg {c : ClassId} {N : Nat} {f g : Nat → Value} (h : ∀ j, j < N → f j = g j) : arrV c N f = arrV c N g := by
  unfold arrV
  rw [show (fun j : Fin N => f j.val) = fun j => g j.val from funext fun j => h j.1 j.2]
section
variable {D : va_G} {cI cT : ClassId} {h0 : Nat} {u o : Nat → Nat} {H : Heap} {A : Nat → Prop}
theorem wW_len (G : GT) (σ : St) : (wW G σ).length = G.2.2.1 := by simp [wW]
theorem meS_1 : (meS D cI cT h0 u o)[1]? = some ((u 0), .inl (cT, 5, .inr (.inr (.inr (.inr (va_up (va_up (va_up (va_up (va_up (fun _ => none) 0 (some (o 1100))) 1 (some (o 1101))) 2 (some (o 1102))) 3 (some (o 1103))) 4 (some (o 1104)))))))) := by
  unfold meS
  rw [List.getElem?_set_ne (by decide), List.getElem?_set_self (by rw [wW_len]; show 1 < 42; decide)]
theorem meS_2 : (meS D cI cT h0 u o)[2]? = some ((u 1), .inl (cT, 6, .inr (.inr (.inr (.inr (va_up (va_up (va_up (va_up (va_up (va_up (fun _ => none) 0 (some (o 1108))) 1 (some (o 1109))) 2 (some (o 1110))) 3 (some (o 1102))) 4 (some (o 1111))) 5 (some (o 1112)))))))) := by
  unfold meS
  rw [List.getElem?_set_self (by rw [List.length_set, wW_len]; show 2 < 42; decide)]
theorem meS_o {k : Nat} (h1 : k ≠ 1) (h2 : k ≠ 2) : (meS D cI cT h0 u o)[k]? = (wW (gM D cI cT (adK h0 u o)) s0M)[k]? := by
  unfold meS
  rw [List.getElem?_set_ne (by omega), List.getElem?_set_ne (by omega)]
theorem P_meS (h : va_P D vwCl (meS D cI cT h0 u o) H) : va_P D vwCl (wW (gM D cI cT (adK h0 u o)) s0M) H := by
  intro k q hk
  by_cases k1 : k = 1
  · subst k1
    have e := wW_get (G := gM D cI cT (adK h0 u o)) (σ := s0M) (k := 1) (by show 1 < 42; decide) rfl
    rw [e] at hk
    cases hk
    have h1 := h 1 _ meS_1
    show va_at D vwCl (u 0, .inl (cT, 5, .inr (.inr (.inr (.inr (fun j => some (adK h0 u o (1100 + ([0, 1, 2, 3, 4] : List Nat).getD j 0)))))))) H
    show H[u 0]? = some (arrV cT 5 (fun j => va_rf ((fun j => some (adK h0 u o (1100 + ([0, 1, 2, 3, 4] : List Nat).getD j 0))) j)))
    refine Eq.trans h1 ?_
    rw [vp_cell_q]
    congr 1
  by_cases k2 : k = 2
  · subst k2
    have e := wW_get (G := gM D cI cT (adK h0 u o)) (σ := s0M) (k := 2) (by show 2 < 42; decide) rfl
    rw [e] at hk
    cases hk
    have h1 := h 2 _ meS_2
    show va_at D vwCl (u 1, .inl (cT, 6, .inr (.inr (.inr (.inr (fun j => some (adK h0 u o (1100 + ([8, 9, 10, 2, 11, 12] : List Nat).getD j 0)))))))) H
    show H[u 1]? = some (arrV cT 6 (fun j => va_rf ((fun j => some (adK h0 u o (1100 + ([8, 9, 10, 2, 11, 12] : List Nat).getD j 0))) j)))
    refine Eq.trans h1 ?_
    rw [vp_cell_q]
    congr 1
  · exact h k q (by rw [meS_o k1 k2]; exact hk)
theorem meS_at {k : Nat} (hk : k < 42) : ∃ e, (meS D cI cT h0 u o)[k]? = some (adK h0 u o k, e) := by
  by_cases k1 : k = 1
  · subst k1; exact ⟨_, meS_1⟩
  by_cases k2 : k = 2
  · subst k2; exact ⟨_, meS_2⟩
  · exact ⟨_, by rw [meS_o k1 k2]; exact wW_get (G := gM D cI cT (adK h0 u o)) hk rfl⟩
theorem D_meS (h : va_D A (meS D cI cT h0 u o)) : gAp (gM D cI cT (adK h0 u o)) ∧ ∀ k, k < 42 → A (adK h0 u o k) := by
  refine ⟨fun i j hi hj he => ?_, fun k hk => ?_⟩
  · obtain ⟨e1, g1⟩ := meS_at (D := D) (cI := cI) (cT := cT) (h0 := h0) (u := u) (o := o) (k := i) hi
    obtain ⟨e2, g2⟩ := meS_at (D := D) (cI := cI) (cT := cT) (h0 := h0) (u := u) (o := o) (k := j) hj
    exact h.1 i j _ _ g1 g2 he
  · obtain ⟨e1, g1⟩ := meS_at (D := D) (cI := cI) (cT := cT) (h0 := h0) (u := u) (o := o) (k := k) hk
    exact h.2 k _ g1
theorem D_wW {G : GT} {σ : St} (h : va_D A (wW G σ)) : gAp G ∧ ∀ k, k < G.2.2.1 → A (gad G k) :=
  ⟨fun i j hi hj he => h.1 i j _ _ (wW_get hi rfl) (wW_get hj rfl) he, fun k hk => h.2 k _ (wW_get hk rfl)⟩
end
