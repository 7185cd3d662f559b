set_option linter.unusedVariables false
set_option linter.unusedSimpArgs false
set_option maxRecDepth 16384
/-! words, signs, numbers of both sides -/
def lnW (i : Nat) : Nat := (strB.getD i []).length
def chW (i j : Nat) : Int32 := (strB.getD i []).getD j 0
theorem ch_key : ∀ i : Fin 17, ∀ j : Fin 7, j.1 < lnW i.1 → c16 ((schr i.1 (qN j.1)) &&& 255) = chW i.1 j.1 ∧ (chW i.1 j.1).toUInt32.toUInt16.toUInt32.toInt32 = chW i.1 j.1 ∧ ¬ (qN j.1 < 0) ∧ qN j.1 < slen i.1 := by decide +kernel
theorem ln_key : ∀ i : Fin 17, (slen i.1) >>> ((0 : Int32) &&& 31) = qN (lnW i.1) ∧ 1 ≤ lnW i.1 ∧ lnW i.1 ≤ 6 := by decide +kernel
section
variable {F : Nat} {σ : St}
theorem C_len {i : Nat} (hi : i < 17) : fJ0_length_8abf5 F σ i = some (qN (lnW i)) := by
  unfold fJ0_length_8abf5 fJ0_coder_7d493 ckS
  rw [if_pos hi, if_pos hi, if_neg i10n, bd1_some, (ln_key ⟨i, hi⟩).1]
theorem M_len {i : Nat} (hi : i < 17) : mJ0_length_8abf5 F σ i = some (qN (lnW i)) := by
  unfold mJ0_length_8abf5 mJ0_coder_7d493 ckS
  rw [if_pos hi, if_pos hi, if_neg i10n, bd1_some, (ln_key ⟨i, hi⟩).1]
theorem C_chr {i j : Nat} (hi : i < 17) (hj : j < lnW i) : fJ0_charAt_5068e F σ i (qN j) = some (chW i j) := by
  have hl := (ln_key ⟨i, hi⟩).2.2
  dsimp only at hl
  obtain ⟨k1, k2, k3, k4⟩ := ch_key ⟨i, hi⟩ ⟨j, by omega⟩ hj
  dsimp only at k1 k2 k3 k4
  unfold fJ0_charAt_5068e fJ0_isLatin1_aae02 fJ1_charAt_3b067 fJ0_checkIndex_df160 fJ3_checkIndex_8e157 ckS ckC
  simp only [jn]
  rw [if_pos hi, if_pos hi, if_neg i10n, if_pos trivial, bd1_some, if_neg i10n, if_pos hi, if_neg k3, if_pos k4, bd1_some, bd1_some, k1, if_pos k2, show (strB.getD i []).length = lnW i from rfl, ck_ok hj (by omega), bd1_some, if_pos k2]
theorem M_chr {i j : Nat} (hi : i < 17) (hj : j < lnW i) : mJ0_charAt_5068e F σ i (qN j) = some (chW i j) := by
  have hl := (ln_key ⟨i, hi⟩).2.2
  dsimp only at hl
  obtain ⟨k1, k2, k3, k4⟩ := ch_key ⟨i, hi⟩ ⟨j, by omega⟩ hj
  dsimp only at k1 k2 k3 k4
  unfold mJ0_charAt_5068e mJ0_isLatin1_aae02 mJ1_charAt_3b067 mJ0_checkIndex_df160 mJ3_checkIndex_8e157 ckS ckC
  simp only [jn]
  rw [if_pos hi, if_pos hi, if_neg i10n, if_pos trivial, bd1_some, if_neg i10n, if_pos hi, if_neg k3, if_pos k4, bd1_some, bd1_some, k1, if_pos k2, show (strB.getD i []).length = lnW i from rfl, ck_ok hj (by omega), bd1_some, if_pos k2]
end
section
variable (t : Nat → Int32) (n : Nat)
def isW (s i : Nat) : Bool := decide (kdA t n s = 1) && (decide (teA t n s - s = lnW i) && allN (fun k => decide (t (s + k) = chW i k)) (lnW i))
def isS (s : Nat) (c : Int32) : Bool := decide (kdA t n s = 3) && decide (t s = c)
def nmA (s : Nat) : Option Nat := if kdA t n s = 2 ∧ teA t n s - s ≤ 4 then some (nuM t s (teA t n s - s)) else none
def fnA (s lo hi : Nat) : Nat := if kdA t n s = 2 then (if teA t n s - s ≤ 4 ∧ lo ≤ nuM t s (teA t n s - s) ∧ nuM t s (teA t n s - s) ≤ hi then 0 else 2) else 1
end
/-- one word is one alone -/
theorem isW_one {t : Nat → Int32} {n s i j : Nat} (hi : i < 17) (hj : j < 17) (h1 : isW t n s i = true) (h2 : isW t n s j = true) : i = j := by
  unfold isW at h1 h2
  rw [Bool.and_eq_true, Bool.and_eq_true, decide_eq_true_eq, decide_eq_true_eq, allN_iff] at h1 h2
  have hl : lnW i = lnW j := by rw [← h1.2.1, ← h2.2.1]
  have hc : ∀ k, k < lnW i → chW i k = chW j k := fun k hk => by
    have a := h1.2.2 k hk
    have b := h2.2.2 k (by omega)
    rw [decide_eq_true_eq] at a b
    rw [← a, ← b]
  have key : ∀ i j : Fin 17, lnW i.1 = lnW j.1 → (∀ k : Fin 7, k.1 < lnW i.1 → chW i.1 k.1 = chW j.1 k.1) → i = j := by decide +kernel
  have := key ⟨i, hi⟩ ⟨j, hj⟩ hl (fun k hk => hc k.1 hk)
  exact congrArg Fin.val this
section
variable {F : Nat} {t : Nat → Int32} {n : Nat}
theorem C_byteAt (hn : n ≤ 700) {σ : St} {s : Nat} (hL : LexC t n σ s) {p : Nat} (hp : p < n) : fX7_byteAt F σ (qN p) = some (t p) := by
  unfold fX7_byteAt ckE
  rw [if_neg (show ¬ qN p < 0 by rw [show (0 : Int32) = qN 0 from rfl, q_lt (by omega) (by omega)]; omega), hL.2.1, if_neg (show ¬ qN n ≤ qN p by rw [q_le (by omega) (by omega)]; omega), hL.1, if_pos rfl, ck_ok (by omega) (by omega), q_clamp (by omega), hL.2.2.1]
theorem C_isWord (hF : 800 ≤ F) (hn : n ≤ 700) {σ : St} {s : Nat} (hs : s ≤ n) (hL : LexC t n σ s) {i : Nat} (hi : i < 17) : fX7_isWord F σ i = some (bI (isW t n s i)) := by
  refine wpE fun Q hQ => ?_
  obtain ⟨t1, t2, t3⟩ := te_le (t := t) hn hs
  have hk6 := kd_lt (t := t) (n := n) s
  have hl6 := (ln_key ⟨i, hi⟩).2
  dsimp only at hl6
  unfold fX7_isWord ckS
  rw [if_pos hi, hL.2.2.2.1, hL.2.2.2.2.1, hL.2.2.2.2.2, q_sub t1]
  by_cases hk : kdA t n s = 1
  · rw [if_pos (show qN (kdA t n s) = 1 by rw [hk]; rfl)]
    refine wb1 (C_len hi) ?_
    by_cases hlen : teA t n s - s = lnW i
    · rw [if_pos (show qN (teA t n s - s) = qN (lnW i) by rw [hlen])]
      have hisw : isW t n s i = allN (fun k => decide (t (s + k) = chW i k)) (lnW i) := by
        unfold isW; rw [decide_eq_true hk, decide_eq_true hlen]; rfl
      refine lp_up Q (fun j (v : Int32) => v = qN j ∧ allN (fun k => decide (t (s + k) = chW i k)) j = true) (lnW i) ?_ F 0 _ (by omega) (by omega) ⟨rfl, rfl⟩
      rintro j v K hj ⟨rfl, hal⟩ hK
      refine wb1 (C_len hi) ?_
      by_cases hjl : j = lnW i
      · refine wiT (by rw [hjl]; exact Int32.le_refl _) ?_
        rw [hisw, ← hjl, hal] at hQ; exact hQ
      · refine wiF (by rw [q_le (by omega) (by omega)]; omega) ?_
        rw [q_add]
        refine wb1 (C_byteAt hn hL (by omega)) (wb1 (C_chr hi (by omega)) ?_)
        refine wi (fun h => ?_) fun h => ?_
        · exact hK _ (by omega) ⟨q_add j 1, by rw [allN, hal, decide_eq_true h]; rfl⟩
        · rw [hisw, allN_f (k := j) (by omega) (decide_eq_false h)] at hQ; exact hQ
    · rw [if_neg (show ¬ qN (teA t n s - s) = qN (lnW i) by rw [q_eq (by omega) (by omega)]; exact hlen)]
      have : isW t n s i = false := by unfold isW; rw [decide_eq_false hlen, Bool.false_and, Bool.and_false]
      rw [this] at hQ; exact hQ
  · rw [if_neg (show ¬ qN (kdA t n s) = 1 by rw [show (1 : Int32) = qN 1 from rfl, q_eq (by omega) (by omega)]; exact hk)]
    have : isW t n s i = false := by unfold isW; rw [decide_eq_false hk, Bool.false_and]
    rw [this] at hQ; exact hQ
theorem mkT_1 {k : Nat} (h : k < 6) : (qN (mkT k) = 1 ↔ k = 1) ∧ (qN (mkT k) = 2 ↔ k = 2) ∧ (qN (mkT k) = 3 ↔ k = 3) ∧ (qN (mkT k) = 0 ↔ k = 0) := by
  have : ∀ k : Fin 6, (qN (mkT k.1) = 1 ↔ k.1 = 1) ∧ (qN (mkT k.1) = 2 ↔ k.1 = 2) ∧ (qN (mkT k.1) = 3 ↔ k.1 = 3) ∧ (qN (mkT k.1) = 0 ↔ k.1 = 0) := by decide
  exact this ⟨k, h⟩
theorem M_is (hF : 800 ≤ F) (hn : n ≤ 700) {τ : St} {s : Nat} (hs : s ≤ n) (hL : LexM t n τ s) (hbad : τ 0 25 = 0) {i : Nat} (hi : i < 17) : fX11_is F τ i = some (bI (isW t n s i)) := by
  refine wpE fun Q hQ => ?_
  obtain ⟨t1, t2, t3⟩ := te_le (t := t) hn hs
  have hk6 := kd_lt (t := t) (n := n) s
  have hl6 := (ln_key ⟨i, hi⟩).2
  dsimp only at hl6
  unfold fX11_is ckS
  rw [if_pos hi, hL.2.2.1, hL.2.2.2.1, hL.2.2.2.2.1, hL.2.1, hbad, q_sub t1]
  refine wj fun J2 hJ2 => wj fun J10 hJ10 => wiT rfl ?_
  have h0 : isW t n s i = false → Q (J10 ()) := by
    intro hh
    rw [hJ10, hJ2]
    refine lp_up Q (fun _ (v : Int32 × Int32) => v = (0, 0)) 0 ?_ F 0 _ (by omega) (by omega) rfl
    rintro k v K _ rfl _
    dsimp only
    refine wiT rfl ?_
    rw [ckB0]
    rw [hh] at hQ; exact hQ
  by_cases hk : kdA t n s = 1
  · refine wiT ((mkT_1 hk6).1.2 hk) (wb1 (M_len hi) ?_)
    by_cases hlen : teA t n s - s = lnW i
    · refine wiT (by rw [hlen]) ?_
      have hisw : isW t n s i = allN (fun k => decide (t (s + k) = chW i k)) (lnW i) := by
        unfold isW; rw [decide_eq_true hk, decide_eq_true hlen]; rfl
      rw [hJ2]
      refine lp_up Q (fun j (v : Int32 × Int32) => v.1 = qN j ∧ v.2 = bI (allN (fun k => decide (t (s + k) = chW i k)) j)) (lnW i) ?_ F 0 _ (by omega) (by omega) ⟨rfl, rfl⟩
      rintro j ⟨c, fl⟩ K hj ⟨hc, hfl⟩ hK
      dsimp only at hc hfl
      subst hc hfl
      dsimp only
      cases hal : allN (fun k => decide (t (s + k) = chW i k)) j with
      | false =>
        refine wiT (show bI false = 0 from rfl) ?_
        rw [show bI false = 0 from rfl, ckB0]
        have : isW t n s i = false := by
          rw [hisw]
          cases hfull : allN (fun k => decide (t (s + k) = chW i k)) (lnW i) with
          | false => rfl
          | true =>
            have := allN_t (f := fun k => decide (t (s + k) = chW i k)) (n := j) (fun q hq => (allN_iff.1 hfull) q (by omega))
            rw [hal] at this; cases this
        rw [this] at hQ; exact hQ
      | true =>
        refine wiF (show ¬ bI true = 0 by decide) (wb1 (M_len hi) ?_)
        by_cases hjl : j = lnW i
        · refine wiT (by rw [hjl]; exact Int32.le_refl _) ?_
          rw [show bI true = 1 from rfl, ckB1]
          rw [hisw, ← hjl, hal] at hQ; exact hQ
        · refine wiF (by rw [q_le (by omega) (by omega)]; omega) (wb1 (M_chr hi (by omega)) ?_)
          rw [q_add]
          refine wk (k := s + j) rfl (by omega) (by omega) ?_
          rw [q_clamp (by omega)]
          refine wi (fun h => ?_) fun h => ?_
          · exact hK _ (by omega) ⟨q_add j 1, by show (1 : Int32) = bI _; rw [allN, hal, decide_eq_true h.symm]; rfl⟩
          · exact hK _ (by omega) ⟨q_add j 1, by show (0 : Int32) = bI _; rw [allN, hal, decide_eq_false (fun hh => h hh.symm)]; rfl⟩
    · refine wiF (by rw [q_eq (by omega) (by omega)]; exact fun h => hlen h.symm) (h0 ?_)
      unfold isW; rw [decide_eq_false hlen, Bool.false_and, Bool.and_false]
  · refine wiF (fun h => hk ((mkT_1 hk6).1.1 h)) (h0 ?_)
    unfold isW; rw [decide_eq_false hk, Bool.false_and]
theorem M_is_bad (hF : 20 ≤ F) {τ : St} (hbad : τ 0 25 ≠ 0) {i : Nat} (hi : i < 17) : fX11_is F τ i = some 0 := by
  refine wpE fun Q hQ => ?_
  unfold fX11_is ckS
  rw [if_pos hi]
  refine wj fun J2 hJ2 => wj fun J10 hJ10 => wiF hbad ?_
  rw [hJ10, hJ2]
  refine lp_up Q (fun _ (v : Int32 × Int32) => v = (0, 0)) 0 ?_ F 0 _ (by omega) (by omega) rfl
  rintro k v K _ rfl _
  dsimp only
  refine wiT rfl ?_
  rw [ckB0]; exact hQ
theorem C_isSign (hn : n ≤ 700) {σ : St} {s : Nat} (hs : s ≤ n) (hL : LexC t n σ s) (c : Int32) : fX7_isSign F σ c = some (bI (isS t n s c)) := by
  have hk6 := kd_lt (t := t) (n := n) s
  unfold fX7_isSign isS
  rw [hL.2.2.2.1, hL.2.2.2.2.1]
  by_cases hk : kdA t n s = 3
  · have hsn : s < n := by
      apply Classical.byContradiction
      intro h
      have := kd_0 (t := t) (n := n) (p := s) |>.2 (by omega)
      omega
    rw [if_pos (show qN (kdA t n s) = 3 by rw [hk]; rfl), C_byteAt hn hL hsn, bd1_some, decide_eq_true hk, Bool.true_and]
    by_cases h : t s = c
    · rw [if_pos h, decide_eq_true h]; rfl
    · rw [if_neg h, decide_eq_false h]; rfl
  · rw [if_neg (show ¬ qN (kdA t n s) = 3 by rw [show (3 : Int32) = qN 3 from rfl, q_eq (by omega) (by omega)]; exact hk), decide_eq_false hk]; rfl
theorem M_isMarked (hn : n ≤ 700) {τ : St} {s : Nat} (hs : s ≤ n) (hL : LexM t n τ s) (hbad : τ 0 25 = 0) (c : Int32) : fX11_isMarked F τ c = some (bI (isS t n s c)) := by
  have hk6 := kd_lt (t := t) (n := n) s
  unfold fX11_isMarked isS
  rw [if_pos hbad, hL.2.2.1, hL.2.2.2.1, hL.2.1]
  by_cases hk : kdA t n s = 3
  · have hsn : s < n := by
      apply Classical.byContradiction
      intro h
      have := kd_0 (t := t) (n := n) (p := s) |>.2 (by omega)
      omega
    rw [if_pos ((mkT_1 hk6).2.2.1.2 hk), ck_ok (by omega) (by omega), q_clamp (by omega), decide_eq_true hk, Bool.true_and]
    by_cases h : t s = c
    · rw [if_pos h, decide_eq_true h]; rfl
    · rw [if_neg h, decide_eq_false h]; rfl
  · rw [if_neg (fun h => hk ((mkT_1 hk6).2.2.1.1 h)), decide_eq_false hk]; rfl
theorem M_marked_bad {τ : St} (hbad : τ 0 25 ≠ 0) (c : Int32) : fX11_isMarked F τ c = some 0 := by
  unfold fX11_isMarked; rw [if_neg hbad]
/-! faults -/
def rfS (σ : St) (f : Nat) (s : Nat) : St := up (up σ 28 6 (qN f)) 28 7 (qN s)
def wrS (τ : St) (f : Nat) (s : Nat) : St := up (up τ 0 25 (qN f)) 0 26 (qN s)
theorem C_refuse7 {σ : St} {s : Nat} (h : σ 28 4 = qN s) (f : Nat) : fX7_refuse F σ (qN f) = some (0, rfS σ f s) := by
  unfold fX7_refuse rfS
  simp only [nm]
  rw [up_same, upd_ne _ _ (by decide), h]
theorem M_wrong {τ : St} {s : Nat} (h : τ 0 23 = qN s) (hbad : τ 0 25 = 0) (f : Nat) : fX11_wrong F τ (qN f) = some (wrS τ f s) := by
  unfold fX11_wrong wrS
  rw [if_pos hbad]
  simp only [nm]
  rw [up_same, upd_ne _ _ (by decide), h]
theorem M_wrong_bad {τ : St} (hbad : τ 0 25 ≠ 0) (f : Int32) : fX11_wrong F τ f = some τ := by
  unfold fX11_wrong; rw [if_neg hbad]
theorem wr_bad {τ : St} {f s : Nat} (hf : 1 ≤ f ∧ f ≤ 5) : wrS τ f s 0 25 ≠ 0 := by
  unfold wrS
  rw [up_same, upd_ne _ _ (by decide), up_same, upd_same, show (0 : Int32) = qN 0 from rfl]
  intro h
  rw [q_eq (by omega) (by omega)] at h
  omega
end
