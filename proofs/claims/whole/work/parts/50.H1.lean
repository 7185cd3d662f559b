set_option linter.unusedVariables false
set_option linter.unusedSimpArgs false
set_option maxRecDepth 16384
/-! the reference's lexer; words, numbers, signs -/
section
variable {F : Nat} {t : Nat → Int32} {n : Nat}
theorem M_byteAt (hn : n ≤ 700) {τ : St} (h20 : τ 0 20 = qN n) (ht : τ 17 = t) {p : Nat} (hp : p < 2147483648) : fX11_byteAt F τ (qN p) = some (byA t n p) := by
  unfold fX11_byteAt byA
  rw [h20, ht]
  by_cases h : p < n
  · rw [if_neg (show ¬ qN n ≤ qN p by rw [q_le (by omega) (by omega)]; omega), if_pos h, ck_ok (by omega) hp, q_clamp hp]
  · rw [if_pos (show qN n ≤ qN p by rw [q_le (by omega) (by omega)]; omega), if_neg h]
theorem by_kd (hb : ∀ k, 0 ≤ t k ∧ t k ≤ 255) (p : Nat) : ((byA t n p = 32 ∨ byA t n p = 10) ↔ kdA t n p = 4) ∧ (byA t n p = -1 ↔ kdA t n p = 0) ∧ ((97 ≤ byA t n p ∧ byA t n p ≤ 122) ↔ kdA t n p = 1) ∧ ((48 ≤ byA t n p ∧ byA t n p ≤ 57) ↔ kdA t n p = 2) := by
  have h := hb p
  unfold byA kdA
  by_cases hp : n ≤ p
  · rw [if_neg (show ¬ p < n by omega), if_pos hp]
    refine ⟨?_, ?_, ?_, ?_⟩ <;> decide
  · rw [if_pos (show p < n by omega), if_neg hp]
    by_cases c1 : t p = 32
    · rw [if_pos c1, c1]
      refine ⟨?_, ?_, ?_, ?_⟩ <;> decide
    rw [if_neg c1]
    by_cases c2 : t p = 10
    · rw [if_pos c2, c2]
      refine ⟨?_, ?_, ?_, ?_⟩ <;> decide
    rw [if_neg c2]
    have hm1 : ¬ t p = -1 := by grind
    by_cases c3 : 97 ≤ t p ∧ t p ≤ 122
    · rw [if_pos c3]
      refine ⟨⟨fun h => absurd h (by grind), fun h => absurd h (by decide)⟩, ⟨fun h => absurd h hm1, fun h => absurd h (by decide)⟩, ⟨fun _ => rfl, fun _ => c3⟩, ⟨fun h => absurd h (by grind), fun h => absurd h (by decide)⟩⟩
    rw [if_neg c3]
    by_cases c4 : 48 ≤ t p ∧ t p ≤ 57
    · rw [if_pos c4]
      refine ⟨⟨fun h => absurd h (by grind), fun h => absurd h (by decide)⟩, ⟨fun h => absurd h hm1, fun h => absurd h (by decide)⟩, ⟨fun h => absurd h c3, fun h => absurd h (by decide)⟩, ⟨fun _ => rfl, fun _ => c4⟩⟩
    rw [if_neg c4]
    cases mkA (t p) with
    | true =>
      rw [if_pos rfl]
      exact ⟨⟨fun h => absurd h (by grind), fun h => absurd h (by decide)⟩, ⟨fun h => absurd h hm1, fun h => absurd h (by decide)⟩, ⟨fun h => absurd h c3, fun h => absurd h (by decide)⟩, ⟨fun h => absurd h c4, fun h => absurd h (by decide)⟩⟩
    | false =>
      rw [if_neg (by decide)]
      exact ⟨⟨fun h => absurd h (by grind), fun h => absurd h (by decide)⟩, ⟨fun h => absurd h hm1, fun h => absurd h (by decide)⟩, ⟨fun h => absurd h c3, fun h => absurd h (by decide)⟩, ⟨fun h => absurd h c4, fun h => absurd h (by decide)⟩⟩
theorem M_letter {τ : St} (x : Int32) : fX11_isLetter F τ x = some (bI (decide (97 ≤ x ∧ x ≤ 122))) := by
  unfold fX11_isLetter
  by_cases h : 97 ≤ x ∧ x ≤ 122
  · rw [decide_eq_true h, if_neg (show ¬ x < 97 by grind), if_neg (show ¬ 122 < x by grind)]; rfl
  · rw [decide_eq_false h]
    by_cases h1 : x < 97
    · rw [if_pos h1]; rfl
    · rw [if_neg h1, if_pos (show 122 < x by grind)]; rfl
theorem M_digit {τ : St} (x : Int32) : fX11_isDigit F τ x = some (bI (decide (48 ≤ x ∧ x ≤ 57))) := by
  unfold fX11_isDigit
  by_cases h : 48 ≤ x ∧ x ≤ 57
  · rw [decide_eq_true h, if_neg (show ¬ x < 48 by grind), if_neg (show ¬ 57 < x by grind)]; rfl
  · rw [decide_eq_false h]
    by_cases h1 : x < 48
    · rw [if_pos h1]; rfl
    · rw [if_neg h1, if_pos (show 57 < x by grind)]; rfl
theorem M_isMark {τ : St} (x : Int32) : fX11_isMark F τ x = some (bI (mkA x)) := by
  unfold fX11_isMark
  rw [mk_if]
  cases mkA x <;> rfl
theorem nuM_le (s k : Nat) : nuM t s k ≤ 100000 := by
  cases k with
  | zero => exact Nat.zero_le _
  | succ k => rw [nuM]; exact Nat.min_le_left _ _
theorem kd_35 {p : Nat} (h4 : kdA t n p ≠ 4) (h0 : kdA t n p ≠ 0) (h1 : kdA t n p ≠ 1) (h2 : kdA t n p ≠ 2) : p < n ∧ kdA t n p = if mkA (t p) then 3 else 5 := by
  unfold kdA at *
  by_cases hp : n ≤ p
  · rw [if_pos hp] at h0; exact absurd rfl h0
  · rw [if_neg hp] at *
    refine ⟨by omega, ?_⟩
    by_cases c1 : t p = 32
    · rw [if_pos c1] at h4; exact absurd rfl h4
    rw [if_neg c1] at *
    by_cases c2 : t p = 10
    · rw [if_pos c2] at h4; exact absurd rfl h4
    rw [if_neg c2] at *
    by_cases c3 : 97 ≤ t p ∧ t p ≤ 122
    · rw [if_pos c3] at h1; exact absurd rfl h1
    rw [if_neg c3] at *
    by_cases c4 : 48 ≤ t p ∧ t p ≤ 57
    · rw [if_pos c4] at h2; exact absurd rfl h2
    rw [if_neg c4]
theorem M_step (hF : 800 ≤ F) (hn : n ≤ 700) (hb : ∀ k, 0 ≤ t k ∧ t k ≤ 255) {τ : St} (h20 : τ 0 20 = qN n) (ht : τ 17 = t) {p : Nat} (hp : p ≤ n) (h19 : τ 0 19 = qN p) :
    ∃ w, fX11_stepOn F τ = some w ∧ LexM t n w (skp t n p) ∧ (∀ c, c ≠ 0 → w c = τ c) ∧ (∀ j, j ≠ 19 → j ≠ 21 → j ≠ 22 → j ≠ 23 → j ≠ 24 → w 0 j = τ 0 j) := by
  refine wpI fun Q hQ => ?_
  unfold fX11_stepOn
  obtain ⟨k0, hk0, hbl, hne, hsk⟩ := skp_ex (t := t) hn hp
  refine lp_up Q (fun i (v : St) => (∀ c, c ≠ 0 → v c = τ c) ∧ (∀ j, j ≠ 19 → v 0 j = τ 0 j) ∧ v 0 19 = qN (p + i)) k0 ?_ F 0 _ (by omega) (by omega) ⟨fun _ _ => rfl, fun _ _ => rfl, h19⟩
  rintro i v K hi ⟨hv, hv0, hv19⟩ hK
  have hby := fun q (hq : q < 2147483648) => M_byteAt (F := F) hn (τ := v) (t := t) (by rw [hv0 20 (by decide)]; exact h20) (by rw [hv 17 (by decide)]; exact ht) (p := q) hq
  obtain ⟨b4, b0, b1, b2⟩ := by_kd (n := n) hb (p + i)
  rw [hv19]
  refine wb1 (hby _ (by omega)) ?_
  have hcont : i < k0 → ∀ u, u = up v 0 19 (qN (p + i) + 1) → Q (K u) := by
    intro hik u eu
    refine hK _ hik ⟨fun c hc => by rw [eu, up_ne _ _ _ hc, hv c hc], fun j hj => by rw [eu, up_same, upd_ne _ _ hj, hv0 j hj], by rw [eu, up_same, upd_same]; exact q_add _ 1⟩
  have hik4 : i < k0 ↔ kdA t n (p + i) = 4 := ⟨fun h => hbl i h, fun h => by
    apply Classical.byContradiction
    intro hh
    have : i = k0 := by omega
    rw [this] at h; exact hne h⟩
  refine wi (fun c32 => ?_) fun c32 => ?_
  · exact wn fun u eu => hcont (hik4.2 (b4.1 (.inl c32))) u eu
  refine wb1 (hby _ (by omega)) (wi (fun c10 => ?_) fun c10 => ?_)
  · exact wn fun u eu => hcont (hik4.2 (b4.1 (.inr c10))) u eu
  have hk4 : kdA t n (p + i) ≠ 4 := fun h => by rcases b4.2 h with h | h <;> contradiction
  have hik : i = k0 := by
    have := fun h => hk4 (hik4.1 h)
    omega
  have hs : p + i = skp t n p := by rw [hsk, hik]
  rw [hs] at b4 b0 b1 b2 hk4 ⊢
  have hsn : skp t n p ≤ n := by rw [hsk]; exact hk0
  generalize hS : skp t n p = s at *
  refine wn fun u9 e9 => ?_
  have f23 : u9 0 23 = qN s := by rw [e9, up_same, upd_same]
  have f19 : u9 0 19 = qN s := by rw [e9, up_same, upd_ne _ _ (by decide), hv19, hs]
  have fj : ∀ j, j ≠ 19 → j ≠ 23 → u9 0 j = τ 0 j := fun j a b => by rw [e9, up_same, upd_ne _ _ b, hv0 j a]
  have fc : ∀ c, c ≠ 0 → u9 c = τ c := fun c hc => by rw [e9, up_ne _ _ _ hc, hv c hc]
  rw [f19]
  refine wb1 (M_byteAt (F := F) hn (t := t) (by rw [fj 20 (by decide) (by decide)]; exact h20) (by rw [fc 17 (by decide)]; exact ht) (by omega)) ?_
  have hfin : ∀ z : St, (∀ c, c ≠ 0 → z c = τ c) → (∀ j, j ≠ 19 → j ≠ 21 → j ≠ 22 → j ≠ 23 → j ≠ 24 → z 0 j = τ 0 j) → z 0 21 = qN (mkT (kdA t n s)) → z 0 23 = qN s → z 0 24 = qN (teA t n s) → z 0 19 = qN (teA t n s) → (kdA t n s = 2 → z 0 22 = qN (nuM t s (teA t n s - s))) → Q (some z) := fun z z1 z2 z3 z4 z5 z6 z7 => hQ _ ⟨⟨by rw [z2 20 (by decide) (by decide) (by decide) (by decide) (by decide)]; exact h20, by rw [z1 17 (by decide)]; exact ht, z3, z4, z5, z6, z7⟩, z1, z2⟩
  refine wi (fun cm1 => ?_) fun cm1 => ?_
  · have hk0' := b0.1 cm1
    refine wn fun u52 e52 => wn fun u54 e54 => hfin u54 ?_ ?_ ?_ ?_ ?_ ?_ (fun h => by omega)
    · intro c hc; rw [e54, up_ne _ _ _ hc, e52, up_ne _ _ _ hc, fc c hc]
    · intro j a b c d e; rw [e54, up_same, upd_ne _ _ e, e52, up_same, upd_ne _ _ b, fj j a d]
    · rw [e54, up_same, upd_ne _ _ (by decide), e52, up_same, upd_same, hk0']; rfl
    · rw [e54, up_same, upd_ne _ _ (by decide), e52, up_same, upd_ne _ _ (by decide), f23]
    · rw [e54, up_same, upd_same, e52, up_same, upd_ne _ _ (by decide), f19]; unfold teA; rw [if_pos hk0']
    · rw [e54, up_same, upd_ne _ _ (by decide), e52, up_same, upd_ne _ _ (by decide), f19]; unfold teA; rw [if_pos hk0']
  have hk0 : kdA t n s ≠ 0 := fun h => cm1 (b0.2 h)
  have hsn' : s < n := by
    apply Classical.byContradiction
    intro h; exact hk0 (kd_0.2 (by omega))
  refine wb1 (M_letter _) ?_
  cases hlet : decide (97 ≤ byA t n s ∧ byA t n s ≤ 122) with
  | true =>
    have hk1 := b1.1 (of_decide_eq_true hlet)
    refine wiF (show ¬ bI true = 0 by decide) ?_
    obtain ⟨k, r1, r2, r3, r4⟩ := te_ex (t := t) hn hsn' (.inl hk1)
    refine lp_up Q (fun i (v : St) => (∀ c, c ≠ 0 → v c = τ c) ∧ (∀ j, j ≠ 19 → j ≠ 23 → v 0 j = τ 0 j) ∧ v 0 23 = qN s ∧ v 0 19 = qN (s + i)) (k + 1) ?_ F 0 _ (by omega) (by omega) ⟨fc, fj, f23, f19⟩
    rintro i w K2 hi2 ⟨w1, w2, w3, w4⟩ hK2
    rw [w4]
    refine wb1 (M_byteAt (F := F) hn (t := t) (by rw [w2 20 (by decide) (by decide)]; exact h20) (by rw [w1 17 (by decide)]; exact ht) (by omega)) (wb1 (M_letter _) ?_)
    have hkk := (by_kd (n := n) hb (s + i)).2.2.1
    by_cases hik2 : i = k + 1
    · have hno : decide (97 ≤ byA t n (s + i) ∧ byA t n (s + i) ≤ 122) = false := decide_eq_false (fun h => r3 (by rw [← hik2, hk1]; exact hkk.1 h))
      rw [hno]
      refine wiT (show bI false = 0 from rfl) (wn fun u46 e46 => wn fun u48 e48 => hfin u48 ?_ ?_ ?_ ?_ ?_ ?_ (fun h => by omega))
      · intro c hc; rw [e48, up_ne _ _ _ hc, e46, up_ne _ _ _ hc, w1 c hc]
      · intro j a b c d e; rw [e48, up_same, upd_ne _ _ e, e46, up_same, upd_ne _ _ b, w2 j a d]
      · rw [e48, up_same, upd_ne _ _ (by decide), e46, up_same, upd_same, hk1]; rfl
      · rw [e48, up_same, upd_ne _ _ (by decide), e46, up_same, upd_ne _ _ (by decide), w3]
      · rw [e48, up_same, upd_same, e46, up_same, upd_ne _ _ (by decide), w4, r4, hik2]
      · rw [e48, up_same, upd_ne _ _ (by decide), e46, up_same, upd_ne _ _ (by decide), w4, r4, hik2]
    · have hyes : decide (97 ≤ byA t n (s + i) ∧ byA t n (s + i) ≤ 122) = true := decide_eq_true (hkk.2 (by rw [r2 i (by omega)]; exact hk1))
      rw [hyes]
      refine wiF (show ¬ bI true = 0 by decide) (wn fun u50 e50 => hK2 _ (by omega) ⟨?_, ?_, ?_, ?_⟩)
      · intro c hc; rw [e50, up_ne _ _ _ hc, w1 c hc]
      · intro j a b; rw [e50, up_same, upd_ne _ _ a, w2 j a b]
      · rw [e50, up_same, upd_ne _ _ (by decide), w3]
      · rw [e50, up_same, upd_same]; exact q_add _ 1
  | false =>
    have hk1 : kdA t n s ≠ 1 := fun h => by rw [decide_eq_true (b1.2 h)] at hlet; cases hlet
    refine wiT (show bI false = 0 from rfl) (wb1 (M_digit _) ?_)
    cases hdig : decide (48 ≤ byA t n s ∧ byA t n s ≤ 57) with
    | true =>
      have hk2 := b2.1 (of_decide_eq_true hdig)
      refine wiF (show ¬ bI true = 0 by decide) (wn fun u25 e25 => ?_)
      obtain ⟨k, r1, r2, r3, r4⟩ := te_ex (t := t) hn hsn' (.inr hk2)
      refine lp_up Q (fun i (v : St) => (∀ c, c ≠ 0 → v c = τ c) ∧ (∀ j, j ≠ 19 → j ≠ 22 → j ≠ 23 → v 0 j = τ 0 j) ∧ v 0 23 = qN s ∧ v 0 19 = qN (s + i) ∧ v 0 22 = qN (nuM t s i)) (k + 1) ?_ F 0 _ (by omega) (by omega) ⟨fun c hc => by rw [e25, up_ne _ _ _ hc, fc c hc], fun j a b c => by rw [e25, up_same, upd_ne _ _ b, fj j a c], by rw [e25, up_same, upd_ne _ _ (by decide), f23], by rw [e25, up_same, upd_ne _ _ (by decide), f19]; rfl, by rw [e25, up_same, upd_same]; rfl⟩
      rintro i w K2 hi2 ⟨w1, w2, w3, w4, w5⟩ hK2
      rw [w4]
      have hbw := M_byteAt (F := F) hn (τ := w) (t := t) (by rw [w2 20 (by decide) (by decide) (by decide)]; exact h20) (by rw [w1 17 (by decide)]; exact ht) (p := s + i) (by omega)
      refine wb1 hbw (wb1 (M_digit _) ?_)
      have hkk := (by_kd (n := n) hb (s + i)).2.2.2
      by_cases hik2 : i = k + 1
      · have hno : decide (48 ≤ byA t n (s + i) ∧ byA t n (s + i) ≤ 57) = false := decide_eq_false (fun h => r3 (by rw [← hik2, hk2]; exact hkk.1 h))
        rw [hno]
        refine wiT (show bI false = 0 from rfl) (wn fun u46 e46 => wn fun u48 e48 => hfin u48 ?_ ?_ ?_ ?_ ?_ ?_ (fun _ => ?_))
        · intro c hc; rw [e48, up_ne _ _ _ hc, e46, up_ne _ _ _ hc, w1 c hc]
        · intro j a b c d e; rw [e48, up_same, upd_ne _ _ e, e46, up_same, upd_ne _ _ b, w2 j a c d]
        · rw [e48, up_same, upd_ne _ _ (by decide), e46, up_same, upd_same, hk2]; rfl
        · rw [e48, up_same, upd_ne _ _ (by decide), e46, up_same, upd_ne _ _ (by decide), w3]
        · rw [e48, up_same, upd_same, e46, up_same, upd_ne _ _ (by decide), w4, r4, hik2]
        · rw [e48, up_same, upd_ne _ _ (by decide), e46, up_same, upd_ne _ _ (by decide), w4, r4, hik2]
        · rw [e48, up_same, upd_ne _ _ (by decide), e46, up_same, upd_ne _ _ (by decide), w5, r4, hik2, show s + (k + 1) - s = k + 1 by omega]
      · have hkd2 : kdA t n (s + i) = 2 := by rw [r2 i (by omega)]; exact hk2
        have hrg := hkk.2 hkd2
        rw [decide_eq_true hrg]
        refine wiF (show ¬ bI true = 0 by decide) (wb1 hbw (wn fun u37 e37 => wn fun u39 e39 => hK2 _ (by omega) ⟨?_, ?_, ?_, ?_, ?_⟩))
        · intro c hc; rw [e39, up_ne _ _ _ hc, e37, up_ne _ _ _ hc, w1 c hc]
        · intro j a b c; rw [e39, up_same, upd_ne _ _ a, e37, up_same, upd_ne _ _ b, w2 j a b c]
        · rw [e39, up_same, upd_ne _ _ (by decide), e37, up_same, upd_ne _ _ (by decide), w3]
        · rw [e39, up_same, upd_same, e37, up_same, upd_ne _ _ (by decide), w4]; exact q_add _ 1
        · rw [e39, up_same, upd_ne _ _ (by decide), e37, up_same, upd_same, w5]
          have hlt : s + i < n := by omega
          have hbt : byA t n (s + i) = t (s + i) := by unfold byA; rw [if_pos hlt]
          rw [hbt] at hrg ⊢
          obtain ⟨dgt, hd, hd2⟩ : ∃ dgt, t (s + i) = qN (48 + dgt) ∧ dgt < 10 := by
            obtain ⟨q, hq, hq2⟩ := q_get (x := t (s + i)) (n := 58) (by grind) (by show t (s + i) < 58; grind) (by decide)
            have : 48 ≤ q := by
              have h1 := hrg.1
              rw [hq, show (48 : Int32) = qN 48 from rfl, q_le (by omega) (by omega)] at h1
              exact h1
            exact ⟨q - 48, by rw [hq]; congr 1; omega, by omega⟩
          have hle := nuM_le (t := t) s i
          have hval : (10 * qN (nuM t s i) + qN (48 + dgt)) - 48 = qN (10 * nuM t s i + dgt) := by
            rw [show (10 : Int32) = qN 10 from rfl, q_mul, q_add, show (48 : Int32) = qN 48 from rfl, q_sub (by omega)]
            congr 1; omega
          rw [hd, hval, nuM, hd, q_clamp (by omega), show 48 + dgt - 48 = dgt by omega]
          by_cases hc : 10 * nuM t s i + dgt < 100000
          · rw [if_pos (by rw [show (100000 : Int32) = qN 100000 from rfl, q_lt (by omega) (by omega)]; exact hc), Nat.min_eq_right (by omega)]
          · rw [if_neg (by rw [show (100000 : Int32) = qN 100000 from rfl, q_lt (by omega) (by omega)]; exact hc), Nat.min_eq_left (by omega)]; rfl
    | false =>
      have hk2 : kdA t n s ≠ 2 := fun h => by rw [decide_eq_true (b2.2 h)] at hdig; cases hdig
      obtain ⟨_, hk35⟩ := kd_35 hk4 hk0 hk1 hk2
      have hte : teA t n s = s + 1 := by unfold teA; rw [if_neg hk0, if_neg (by omega)]
      have hbs : byA t n s = t s := by unfold byA; rw [if_pos hsn']
      refine wiT (show bI false = 0 from rfl) (wn fun u14 e14 => wb1 (M_isMark _) ?_)
      rw [hbs]
      have g19 : u14 0 19 = qN (s + 1) := by rw [e14, up_same, upd_same]; exact q_add s 1
      have g23 : u14 0 23 = qN s := by rw [e14, up_same, upd_ne _ _ (by decide), f23]
      have gj : ∀ j, j ≠ 19 → j ≠ 23 → u14 0 j = τ 0 j := fun j a b => by rw [e14, up_same, upd_ne _ _ a, fj j a b]
      have gc : ∀ c, c ≠ 0 → u14 c = τ c := fun c hc => by rw [e14, up_ne _ _ _ hc, fc c hc]
      have hend : ∀ (x : Int32) (u17 u19 : St), u17 = up u14 0 21 x → u19 = up u17 0 24 (u17 0 19) → x = qN (mkT (kdA t n s)) → Q (some u19) := by
        intro x u17 u19 e17 e19 hx
        refine hfin u19 ?_ ?_ ?_ ?_ ?_ ?_ (fun h => absurd h hk2)
        · intro c hc; rw [e19, up_ne _ _ _ hc, e17, up_ne _ _ _ hc, gc c hc]
        · intro j a b c d e; rw [e19, up_same, upd_ne _ _ e, e17, up_same, upd_ne _ _ b, gj j a d]
        · rw [e19, up_same, upd_ne _ _ (by decide), e17, up_same, upd_same, hx]
        · rw [e19, up_same, upd_ne _ _ (by decide), e17, up_same, upd_ne _ _ (by decide), g23]
        · rw [e19, up_same, upd_same, e17, up_same, upd_ne _ _ (by decide), g19, hte]
        · rw [e19, up_same, upd_ne _ _ (by decide), e17, up_same, upd_ne _ _ (by decide), g19, hte]
      cases hmk : mkA (t s) with
      | false =>
        rw [hmk] at hk35
        exact wiT (show bI false = 0 from rfl) (wn fun u17 e17 => wn fun u19 e19 => hend _ u17 u19 e17 e19 (by rw [hk35]; rfl))
      | true =>
        rw [hmk] at hk35
        exact wiF (show ¬ bI true = 0 by decide) (wn fun u17 e17 => wn fun u19 e19 => hend _ u17 u19 e17 e19 (by rw [hk35]; rfl))
end
