set_option linter.unusedVariables false
set_option linter.unusedSimpArgs false
set_option maxRecDepth 16384
/-! how many contradict, the fewest to be broken off -/
def cbS (ea : Nat → Bool) (al : Nat) : Nat → Nat
  | 0 => al
  | n + 1 => if (decide (pcN n < pcN (cbS ea al n)) && ea n) = true then n else cbS ea al n
def rbS (ea : Nat → Bool) : Nat → Option Nat
  | 0 => none
  | n + 1 => if ((match rbS ea n with | none => true | some x => decide (pcN n < pcN x)) && ea n) = true then some n else rbS ea n
theorem cb_lt {ea : Nat → Bool} {al : Nat} : ∀ n, cbS ea al n ≤ al ∨ cbS ea al n < n := by
  intro n
  induction n with
  | zero => exact .inl (Nat.le_refl _)
  | succ n ih =>
    rw [cbS]
    split
    · exact .inr (by omega)
    · omega
theorem rb_cb {ea : Nat → Bool} {D : Nat} (hD : D ≤ 8) : ∀ n, n ≤ 2 ^ D - 1 → (rbS ea n = none ∧ cbS ea (2 ^ D - 1) n = 2 ^ D - 1) ∨ ∃ x, x < 2 ^ D - 1 ∧ rbS ea n = some x ∧ cbS ea (2 ^ D - 1) n = x := by
  intro n
  induction n with
  | zero => intro _; exact .inl ⟨rfl, rfl⟩
  | succ n ih =>
    intro hn
    have hlt := pc_all hD (show n < 2 ^ D - 1 by omega)
    rcases ih (by omega) with ⟨h1, h2⟩ | ⟨x, hx, h1, h2⟩
    · rw [rbS, cbS, h1, h2, decide_eq_true hlt]
      cases he : ea n with
      | true => exact .inr ⟨n, by omega, rfl, rfl⟩
      | false => exact .inl ⟨rfl, rfl⟩
    · rw [rbS, cbS, h1, h2]
      cases he : (decide (pcN n < pcN x) && ea n) with
      | true =>
        exact .inr ⟨n, by omega, rfl, rfl⟩
      | false =>
        exact .inr ⟨x, hx, rfl, rfl⟩
theorem rb_end {ea : Nat → Bool} {D : Nat} (hD : D ≤ 8) (ha : ea (2 ^ D - 1) = true) : rbS ea (2 ^ D) = some (cbS ea (2 ^ D - 1) (2 ^ D)) := by
  have hp : 2 ^ D = (2 ^ D - 1) + 1 := by have := @pow_pos' D; omega
  rw [hp, Nat.add_sub_cancel]
  rcases rb_cb (ea := ea) hD (2 ^ D - 1) (Nat.le_refl _) with ⟨h1, h2⟩ | ⟨x, hx, h1, h2⟩
  · rw [rbS, cbS, h1, h2, ha]; simp
  · have hlt := pc_all hD hx
    rw [rbS, cbS, h1, h2]
    have hno : decide (pcN (2 ^ D - 1) < pcN x) = false := decide_eq_false (by omega)
    rw [hno]
    show (if (decide (pcN (2 ^ D - 1) < pcN x) && ea (2 ^ D - 1)) = true then _ else _) = _
    rw [hno]; rfl
section
variable {F : Nat} {σ τ : St}
def rvG (F : Nat) (σ : St) (a e : Nat) : Bool := decide (a < e) && agB F σ a e
def rvQ (F : Nat) (σ : St) (a : Nat) : Int32 := qN (bsN (rvG F σ a) (nD σ))
def toC (F : Nat) (σ : St) : Nat → Nat
  | 0 => 0
  | i + 1 => toC F σ i + cnN (rvG F σ i) (nD σ)
def eaK (F : Nat) (σ : St) (m a : Nat) : Bool := m.testBit a || decide (rvQ F σ a &&& (qN m ^^^ -1) = 0)
def eaB (F : Nat) (σ : St) (m : Nat) : Bool := allN (eaK F σ m) (nD σ)
theorem bs_0 (F : Nat) (σ : St) (a : Nat) : bsN (rvG F σ a) (a + 1) = 0 ∧ cnN (rvG F σ a) (a + 1) = 0 := by
  have h : ∀ n, n ≤ a + 1 → bsN (rvG F σ a) n = 0 ∧ cnN (rvG F σ a) n = 0 := by
    intro n
    induction n with
    | zero => intro _; exact ⟨rfl, rfl⟩
    | succ n ih =>
      intro hn
      obtain ⟨i1, i2⟩ := ih (by omega)
      have : rvG F σ a n = false := by unfold rvG; rw [decide_eq_false (by omega)]; rfl
      rw [bsN, cnN, i1, i2, this]; exact ⟨rfl, rfl⟩
  exact h (a + 1) (Nat.le_refl _)
theorem C_fill5 (hF : 200 ≤ F) (u : St) : ∃ z, fJ7_fill_53178_5 F u 0 = some z ∧ (∀ c, c ≠ 85 → z c = u c) ∧ (∀ j, j < 8 → z 85 j = 0) := by
  refine wpI fun Q hQ => ?_
  unfold fJ7_fill_53178_5
  refine lp_up Q (fun i (v : St × Int32) => v.2 = qN i ∧ (∀ c, c ≠ 85 → v.1 c = u c) ∧ (∀ j, j < i → v.1 85 j = 0)) 8 ?_ F 0 _ (by omega) (by omega) ⟨rfl, fun _ _ => rfl, fun j h => absurd h (by omega)⟩
  rintro i ⟨v, c⟩ K hi ⟨hc, hE, hx⟩ hK
  dsimp only at hc hE hx
  subst hc
  dsimp only
  by_cases h8 : i = 8
  · subst h8
    exact wiT (by decide) (hQ _ ⟨hE, hx⟩)
  · refine wiF (by rw [show (8 : Int32) = qN 8 from rfl, q_le (by omega) (by omega)]; omega) ?_
    refine wk (k := i) rfl (by omega) (by omega) (wn fun u e => ?_)
    rw [q_clamp (by omega)] at e
    refine hK _ (by omega) ⟨q_add i 1, fun c hc => ?_, fun j hj => ?_⟩
    · show u c = _; rw [e, up_ne _ _ _ hc, hE c hc]
    · show u 85 j = _
      rw [e, up_same]
      by_cases hji : j = i
      · subst hji; rw [upd_same]
      · rw [upd_ne _ _ hji]; exact hx j (by omega)
theorem C_findC {u : St} (hF : 800 ≤ F) (T : Told σ τ) (e : CE σ u) (hw : WtS F σ (bnS σ 0) u) :
    ∃ z, fX1_findContradictions F u = some z ∧ CE σ z ∧ (∀ a, a < nD σ → z 85 a = rvQ F σ a) := by
  have hD := T.2.2.2.2.1
  refine wpI fun Q hQ => ?_
  unfold fX1_findContradictions
  obtain ⟨y, hy, yE, y0⟩ := C_fill5 (F := F) (by omega) u
  refine wb1 hy ?_
  have hEy : CE σ y := e.trans fun c h1 h2 => yE c (by omega)
  refine lp_up Q (fun i (v : St × Int32) => CE σ v.1 ∧ v.1 83 = u 83 ∧ v.2 = qN i ∧ (∀ a, a < i → v.1 85 a = rvQ F σ a) ∧ (∀ a, i ≤ a → a < 8 → v.1 85 a = 0)) (nD σ) ?_ F 0 _ (by omega) (by omega) ⟨hEy, yE 83 (by decide), rfl, fun a h => absurd h (by omega), fun a _ h => y0 a h⟩
  rintro i ⟨v, c⟩ K hi ⟨hE, h83, hc, g1, g2⟩ hK
  dsimp only at hE h83 hc g1 g2
  subst hc
  dsimp only
  have hv2 : ∀ {v : St}, CE σ v → v 2 1 = qN (nD σ) := fun h => by rw [h 2 (by decide) (by decide)]; exact T.2.2.2.1
  by_cases hiD : i = nD σ
  · refine wiT (by rw [hv2 hE, hiD]; exact Int32.le_refl _) (hQ _ ⟨hE, fun a ha => g1 a (by omega)⟩)
  · have hi' : i < nD σ := by omega
    refine wiF (by rw [hv2 hE, q_le (by omega) (by omega)]; omega) (wn fun x5 e5 => ?_)
    subst e5
    obtain ⟨z1, z2⟩ := bs_0 F σ i
    refine lp_up Q (fun t (w : St × Int32) => CE σ w.1 ∧ w.1 83 = u 83 ∧ w.2 = qN (i + 1 + t) ∧ (∀ a, a < i → w.1 85 a = rvQ F σ a) ∧ (∀ a, i < a → a < 8 → w.1 85 a = 0) ∧ w.1 85 i = qN (bsN (rvG F σ i) (i + 1 + t))) (nD σ - (i + 1)) ?_ F 0 _ (by omega) (by omega) ⟨hE, h83, q_add i 1, g1, fun a h1 h2 => g2 a (by omega) h2, by show v 85 i = _; rw [g2 i (Nat.le_refl _) (by omega), Nat.add_zero, z1]; rfl⟩
    rintro t ⟨w, c⟩ K2 ht ⟨hw1, hw83, hc, k1, k2, k3⟩ hK2
    dsimp only at hw1 hw83 hc k1 k2 k3
    subst hc
    dsimp only
    by_cases htD : i + 1 + t = nD σ
    · refine wiT (by rw [hv2 hw1, htD]; exact Int32.le_refl _) (hK _ hi' ⟨hw1, hw83, q_add i 1, fun a ha => ?_, fun a h1 h2 => k2 a (by omega) h2⟩)
      by_cases hai : a = i
      · subst hai; show w 85 a = _; rw [k3, htD]; rfl
      · exact k1 a (by omega)
    · refine wiF (by rw [hv2 hw1, q_le (by omega) (by omega)]; omega) ?_
      have hwt : WtS F σ (bnS σ 0) w := fun d s a hd hs ha => by rw [hw83]; exact hw d s a hd hs ha
      refine wb1 (C_contradict hF T hw1 hwt hi' (show i + 1 + t < nD σ by omega)) ?_
      have hrv : rvG F σ i (i + 1 + t) = agB F σ i (i + 1 + t) := by unfold rvG; rw [decide_eq_true (by omega), Bool.true_and]
      cases hag : agB F σ i (i + 1 + t) with
      | false =>
        refine wiT (show bI false = 0 from rfl) (hK2 _ (by omega) ⟨hw1, hw83, q_add _ 1, k1, k2, ?_⟩)
        show w 85 i = qN (bsN (rvG F σ i) (i + 1 + t + 1))
        rw [k3, bsN, hrv, hag]; rfl
      | true =>
        refine wiF (show ¬ bI true = 0 by decide) (wk (k := i) rfl (by omega) (by omega) (wk (k := i) rfl (by omega) (by omega) (wn fun u10 e10 => ?_)))
        rw [q_clamp (by omega), k3, or_pow (by omega) (bsN_lt _ _)] at e10
        refine hK2 _ (by omega) ⟨?_, ?_, q_add _ 1, fun a ha => ?_, fun a h1 h2 => ?_, ?_⟩
        · show CE σ u10; rw [e10]; exact hw1.trans (CE_up (.inl (by decide)))
        · show u10 83 = _; rw [e10, up_ne _ _ _ (by decide), hw83]
        · show u10 85 a = _; rw [e10, up_same, upd_ne _ _ (by omega)]; exact k1 a ha
        · show u10 85 a = _; rw [e10, up_same, upd_ne _ _ (by omega)]; exact k2 a h1 h2
        · show u10 85 i = qN (bsN (rvG F σ i) (i + 1 + t + 1))
          rw [e10, up_same, upd_same, bsN, hrv, hag]; rfl
theorem C_countC {z : St} (hF : 800 ≤ F) (T : Told σ τ) (e : CE σ z) (hz : ∀ a, a < nD σ → z 85 a = rvQ F σ a) : fX1_countContradictions F z = some (qN (toC F σ (nD σ))) := by
  have hD := T.2.2.2.2.1
  refine wpE fun Q hQ => ?_
  unfold fX1_countContradictions
  refine lp_up Q (fun i (v : Int32 × Int32) => v.1 = qN i ∧ v.2 = qN (toC F σ i)) (nD σ) ?_ F 0 _ (by omega) (by omega) ⟨rfl, rfl⟩
  rintro i ⟨c, acc⟩ K hi ⟨hc, hacc⟩ hK
  dsimp only at hc hacc
  subst hc hacc
  dsimp only
  have hv2 : z 2 1 = qN (nD σ) := by rw [e 2 (by decide) (by decide)]; exact T.2.2.2.1
  by_cases hiD : i = nD σ
  · refine wiT (by rw [hv2, hiD]; exact Int32.le_refl _) ?_
    rw [hiD]; exact hQ
  · refine wiF (by rw [hv2, q_le (by omega) (by omega)]; omega) (wk (k := i) rfl (by omega) (by omega) ?_)
    rw [q_clamp (by omega), hz i (by omega)]
    unfold rvQ
    refine wb1 (C_bitCount (bs256 hD)) (wn fun x5 e5 => hK _ (by omega) ⟨q_add i 1, ?_⟩)
    show x5 = qN (toC F σ (i + 1))
    rw [e5, q_add, pc_bs _ hD]; rfl
theorem bn_and {x : Int32} : (if x = 0 then (1 : Int32) else 0) = bI (decide (x = 0)) := by
  by_cases h : x = 0
  · rw [if_pos h, decide_eq_true h]; rfl
  · rw [if_neg h, decide_eq_false h]; rfl
theorem C_endsAll {z : St} (hF : 800 ≤ F) (T : Told σ τ) (e : CE σ z) (hz : ∀ a, a < nD σ → z 85 a = rvQ F σ a) (m : Nat) : fX1_endsAll F z (qN m) = some (bI (eaB F σ m)) := by
  have hD := T.2.2.2.2.1
  refine wpE fun Q hQ => ?_
  unfold fX1_endsAll
  have hv2 : z 2 1 = qN (nD σ) := by rw [e 2 (by decide) (by decide)]; exact T.2.2.2.1
  refine lp_up Q (fun i (v : Int32) => v = qN i ∧ allN (eaK F σ m) i = true) (nD σ) ?_ F 0 _ (by omega) (by omega) ⟨rfl, rfl⟩
  rintro i v K hi ⟨rfl, hal⟩ hK
  by_cases hiD : i = nD σ
  · refine wiT (by rw [hv2, hiD]; exact Int32.le_refl _) ?_
    unfold eaB at hQ
    rw [← hiD, hal] at hQ; exact hQ
  · have hi' : i < nD σ := by omega
    refine wiF (by rw [hv2, q_le (by omega) (by omega)]; omega) ?_
    rw [bt_shr _ (by omega), bt_q _ (by omega)]
    have hea : eaK F σ m i = (m.testBit i || decide (rvQ F σ i &&& (qN m ^^^ -1) = 0)) := rfl
    cases htb : m.testBit i with
    | true =>
      refine wiF (show ¬ (1 : Int32) = 0 by decide) (hK _ hi' ⟨q_add i 1, ?_⟩)
      rw [allN, hal, hea, htb]; rfl
    | false =>
      refine wiT (show (if false = true then (1 : Int32) else 0) = 0 from rfl) (wk (k := i) rfl (by omega) (by omega) ?_)
      refine wi (fun h => ?_) fun h => ?_ <;> rw [q_clamp (by omega), hz i hi'] at h
      · refine hK _ hi' ⟨q_add i 1, ?_⟩
        rw [allN, hal, hea, htb, decide_eq_true h]; rfl
      · have : eaB F σ m = false := allN_f hi' (by rw [hea, htb, decide_eq_false h]; rfl)
        rw [this] at hQ; exact hQ
theorem C_fewest {z : St} (hF : 800 ≤ F) (T : Told σ τ) (e : CE σ z) (hz : ∀ a, a < nD σ → z 85 a = rvQ F σ a) : fX1_fewestToBreak F z = some (qN (cbS (eaB F σ) (2 ^ nD σ - 1) (2 ^ nD σ))) := by
  have hD := T.2.2.2.2.1
  have hp := pow256 hD
  have hp1 := @pow_pos' (nD σ)
  have hv2 : z 2 1 = qN (nD σ) := by rw [e 2 (by decide) (by decide)]; exact T.2.2.2.1
  refine wpE fun Q hQ => ?_
  unfold fX1_fewestToBreak
  refine wn fun x1 e1 => ?_
  have h1 : x1 = qN (2 ^ nD σ - 1) := by rw [e1, hv2, sh_pow hD]; exact q_sub (a := 2 ^ nD σ) (b := 1) hp1
  subst h1
  refine lp_up Q (fun n (v : Int32 × Int32) => v.1 = qN n ∧ v.2 = qN (cbS (eaB F σ) (2 ^ nD σ - 1) n)) (2 ^ nD σ) ?_ F 0 _ (by omega) (by omega) ⟨rfl, rfl⟩
  rintro n ⟨c, b⟩ K hn ⟨hc, hb⟩ hK
  dsimp only at hc hb
  subst hc hb
  dsimp only
  have hlt := cb_lt (ea := eaB F σ) (al := 2 ^ nD σ - 1) n
  by_cases hnp : n = 2 ^ nD σ
  · refine wiT (by rw [q_lt (by omega) (by omega)]; omega) ?_
    rw [hnp]; exact hQ
  · refine wiF (by rw [q_lt (by omega) (by omega)]; omega) ?_
    refine wb1 (C_bitCount (by omega)) (wb1 (C_bitCount (by omega)) ?_)
    have l1 := pc_le ⟨n, by omega⟩
    have l2 := pc_le ⟨cbS (eaB F σ) (2 ^ nD σ - 1) n, by omega⟩
    dsimp only at l1 l2
    have hcb : cbS (eaB F σ) (2 ^ nD σ - 1) (n + 1) = if (decide (pcN n < pcN (cbS (eaB F σ) (2 ^ nD σ - 1) n)) && eaB F σ n) = true then n else cbS (eaB F σ) (2 ^ nD σ - 1) n := rfl
    refine wi (fun h => ?_) fun h => ?_ <;> rw [q_le (by omega) (by omega)] at h
    · refine hK _ (by omega) ⟨q_add n 1, ?_⟩
      show qN _ = qN _
      rw [hcb, decide_eq_false (by omega)]; rfl
    · refine wb1 (C_endsAll hF T e hz n) ?_
      rw [decide_eq_true (show pcN n < pcN (cbS (eaB F σ) (2 ^ nD σ - 1) n) by omega), Bool.true_and] at hcb
      cases hea : eaB F σ n with
      | false =>
        refine wiT (show bI false = 0 from rfl) (hK _ (by omega) ⟨q_add n 1, ?_⟩)
        show qN _ = qN _
        rw [hcb, hea]; rfl
      | true =>
        refine wiF (show ¬ bI true = 0 by decide) (hK _ (by omega) ⟨q_add n 1, ?_⟩)
        show qN _ = qN _
        rw [hcb, hea]; rfl
theorem ea_all (F : Nat) (σ : St) : eaB F σ (2 ^ nD σ - 1) = true := by
  unfold eaB
  refine allN_t (fun a ha => ?_)
  unfold eaK
  rw [Nat.testBit_two_pow_sub_one, decide_eq_true ha, Bool.true_or]
theorem sm_against (hF : 800 ≤ F) : Sm_against F Rl := by
  intro σ τ w R
  show G1 1 _ _
  unfold fX10_against fX11_against
  refine wnG1 fun τ0 h0 => ?_
  have R0 : Rl σ τ0 := by rw [h0]; exact R.fr CE.rfl ME4
  have h4 : τ0 0 4 = 0 := by rw [h0]; exact up4
  clear h0
  have T := R0.2.1
  have hD := T.2.2.2.2.1
  have hp := pow256 hD
  have hp1 := @pow_pos' (nD σ)
  rw [C_chkB, bd1_some]
  have hno : G1 1 (some (1, 0, σ)) (bd2 (fX11_fail F τ0 1) fun r6 u7 => some (r6, u7)) := by
    rw [M_fail]; exact G1_no (by decide) R0 rfl rfl CE.rfl ME4 up4
  by_cases hw : 0 ≤ w ∧ w < 2
  · rw [if_pos hw, if_pos rfl]
    refine wj (Q := fun o => G1 1 _ o) fun J hJ => ?_
    rw [if_neg (show ¬ w < 0 by grind), if_pos (show w ≤ 1 by grind)]
    clear hJ J
    obtain ⟨u, z, hu, hz, zE, zW, uE⟩ := C_weighed hF R0
    obtain ⟨m, hm, mE⟩ := M_bits hF R0
    obtain ⟨y, hy, yE, yR⟩ := C_findC (F := F) hF T zE zW
    rw [hu, bd2_some, hz, bd1_some, hy, bd1_some, C_countC hF T yE yR, C_fewest hF T yE yR, bd1_some, bd1_some, hm, bd2_some]
    have key : ∀ E, E = (lp (fun (K11 : (St × Int32 × Int32) → Option (Int32 × St)) (v10 : St × Int32 × Int32) => if (v10.1 5 1) ≤ v10.2.1 then (if w = 0 then (some (v10.2.2, v10.1)) else lp (fun (K14 : (Int32 × Int32) → Option (Int32 × St)) (v13 : Int32 × Int32) => if ((1 : Int32) <<< ((v10.1 5 1) &&& 31)) ≤ v13.1 then (some (v13.2, v10.1)) else jn (fun v16 : Int32 => lp (fun (K20 : (Int32 × Int32) → Option (Int32 × St)) (v19 : Int32 × Int32) => jn (fun v22 : Unit => if v19.2 = 0 then (K14 ((v13.1 + 1, v13.2))) else K14 ((v13.1 + 1, v13.1))) fun J23 => if (v10.1 5 1) ≤ v19.1 then (J23 (())) else if v19.2 = 0 then (J23 (())) else bd1 (fX11_isOf F v10.1 v13.1 v19.1) fun r25 => if r25 = 0 then (ckI (v19.1) 8 (if ((v10.1 26 (Int32.toNatClampNeg v19.1)) &&& (v13.1 ^^^ ((-1)))) = 0 then (K20 ((v19.1 + 1, 1))) else K20 ((v19.1 + 1, 0)))) else K20 ((v19.1 + 1, 1))) F ((0, v16))) fun J17 => jn (fun v26 : Unit => J17 1) fun J27 => if v13.2 = (-1 : Int32) then (J27 (())) else bd1 (fX11_bitsOf F v10.1 v13.1) fun r29 => bd1 (fX11_bitsOf F v10.1 v13.2) fun r30 => if r30 ≤ r29 then (J17 0) else J27 (())) F ((0, (-1)))) else ckI (v10.2.1) 8 (nm (up v10.1 26 (Int32.toNatClampNeg v10.2.1) 0) fun u31 => nm (v10.2.1 + 1) fun x32 => lp (fun (K34 : (St × Int32 × Int32) → Option (Int32 × St)) (v33 : St × Int32 × Int32) => if (v33.1 5 1) ≤ v33.2.1 then (K11 ((v33.1, v10.2.1 + 1, v33.2.2))) else bd2 (fX11_isAgainst F v33.1 (qN (bsN (bnS σ 0) (nD σ))) v10.2.1 v33.2.1) fun r36 u37 => if r36 = 0 then (K34 ((u37, v33.2.1 + 1, v33.2.2))) else ckI (v10.2.1) 8 (ckI (v10.2.1) 8 (nm (up u37 26 (Int32.toNatClampNeg v10.2.1) ((u37 26 (Int32.toNatClampNeg v10.2.1)) ||| ((1 : Int32) <<< (v33.2.1 &&& 31)))) fun u38 => K34 ((u38, v33.2.1 + 1, v33.2.2 + 1))))) F ((u31, x32, v10.2.2)))) F ((m, 0, 0))) → ∃ x, E = some x ∧ x.1 = (if w = 0 then qN (toC F σ (nD σ)) else qN (cbS (eaB F σ) (2 ^ nD σ - 1) (2 ^ nD σ))) ∧ MqE τ0 x.2 := by
      intro E hE0
      subst hE0
      refine wpI fun Q hQ => ?_
      have hv5 : ∀ {v : St}, MqE τ0 v → v 5 1 = qN (nD σ) := fun h => by rw [h 5 rfl, T.2.2.2.2.2.1, T.2.2.2.1]
      refine lp_up Q (fun i (v : St × Int32 × Int32) => MqE τ0 v.1 ∧ v.2.1 = qN i ∧ v.2.2 = qN (toC F σ i) ∧ (∀ a, a < i → v.1 26 a = rvQ F σ a)) (nD σ) ?_ F 0 _ (by omega) (by omega) ⟨mE.mq, rfl, rfl, fun a h => absurd h (by omega)⟩
      rintro i ⟨v, c, acc⟩ K hi ⟨hE, hc, hacc, g1⟩ hK
      dsimp only at hE hc hacc g1
      subst hc hacc
      dsimp only
      by_cases hiD : i = nD σ
      · refine wiT (by rw [hv5 hE, hiD]; exact Int32.le_refl _) ?_
        by_cases w0 : w = 0
        · refine wiT w0 (hQ _ ⟨?_, hE⟩); rw [if_pos w0, hiD]
        · refine wiF w0 ?_
          have g1' : ∀ a, a < nD σ → v 26 a = rvQ F σ a := fun a ha => g1 a (by omega)
          refine lp_up Q (fun n (q : Int32 × Int32) => q.1 = qN n ∧ q.2 = nO (rbS (eaB F σ) n)) (2 ^ nD σ) ?_ F 0 _ (by omega) (by omega) ⟨rfl, rfl⟩
          rintro n ⟨c, b⟩ K2 hn ⟨hc, hb⟩ hK2
          dsimp only at hc hb
          subst hc hb
          dsimp only
          by_cases hnp : n = 2 ^ nD σ
          · refine wiT (by rw [hv5 hE, sh_pow hD, hnp]; exact Int32.le_refl _) (hQ _ ⟨?_, hE⟩)
            rw [if_neg w0, hnp, rb_end hD (ea_all F σ)]; rfl
          · have hn' : n < 2 ^ nD σ := by omega
            refine wiF (by rw [hv5 hE, sh_pow hD, q_le (by omega) (by omega)]; omega) ?_
            refine wj fun J17 hJ17 => ?_
            have hJQ : ∀ f : Bool, (f = match rbS (eaB F σ) n with | none => true | some x => decide (pcN n < pcN x)) → Q (J17 (bI f)) := by
              intro f hf
              rw [hJ17]
              have hrb : rbS (eaB F σ) (n + 1) = if (f && eaB F σ n) = true then some n else rbS (eaB F σ) n := by rw [hf]; rfl
              refine lp_up Q (fun a (q : Int32 × Int32) => q.1 = qN a ∧ q.2 = bI (f && allN (eaK F σ n) a)) (nD σ) ?_ F 0 _ (by omega) (by omega) ⟨rfl, by show bI f = bI (f && true); rw [Bool.and_true]⟩
              rintro a ⟨c, fl⟩ K3 ha ⟨hc, hfl⟩ hK3
              dsimp only at hc hfl
              subst hc hfl
              dsimp only
              refine wj fun J23 hJ23 => ?_
              have hJ23Q : (f && allN (eaK F σ n) a) = (f && eaB F σ n) → Q (J23 ()) := by
                intro he
                rw [hJ23, he]
                cases hfe : (f && eaB F σ n) with
                | false =>
                  refine wiT (show bI false = 0 from rfl) (hK2 _ hn' ⟨q_add n 1, ?_⟩)
                  show nO _ = nO _
                  rw [hrb, hfe]; rfl
                | true =>
                  refine wiF (show ¬ bI true = 0 by decide) (hK2 _ hn' ⟨q_add n 1, ?_⟩)
                  show qN n = nO _
                  rw [hrb, hfe]; rfl
              by_cases haD : a = nD σ
              · refine wiT (by rw [hv5 hE, haD]; exact Int32.le_refl _) (hJ23Q ?_)
                rw [haD]; rfl
              · have ha' : a < nD σ := by omega
                refine wiF (by rw [hv5 hE, q_le (by omega) (by omega)]; omega) ?_
                cases hfa : (f && allN (eaK F σ n) a) with
                | false =>
                  refine wiT (show bI false = 0 from rfl) (hJ23Q ?_)
                  rw [hfa]
                  cases f with
                  | false => rfl
                  | true =>
                    rw [Bool.true_and] at hfa ⊢
                    cases hb : eaB F σ n with
                    | false => rfl
                    | true =>
                      have := allN_t (f := eaK F σ n) (n := a) (fun t ht => (allN_iff.1 hb) t (by omega))
                      rw [hfa] at this; cases this
                | true =>
                  refine wiF (show ¬ bI true = 0 by decide) ?_
                  rw [Bool.and_eq_true] at hfa
                  refine wb1 (M_isOfB _ (by omega)) ?_
                  rw [bt_q _ (by omega)]
                  have hea : eaK F σ n a = (n.testBit a || decide (rvQ F σ a &&& (qN n ^^^ -1) = 0)) := rfl
                  cases htb : n.testBit a with
                  | true =>
                    refine wiF (show ¬ bI true = 0 by decide) (hK3 _ ha' ⟨q_add a 1, ?_⟩)
                    show (1 : Int32) = bI _
                    rw [allN, hfa.1, hfa.2, hea, htb]; rfl
                  | false =>
                    refine wiT (show bI false = 0 from rfl) (wk (k := a) rfl (by omega) (by omega) ?_)
                    refine wi (fun h => ?_) fun h => ?_ <;> rw [q_clamp (by omega), g1' a ha'] at h
                    · refine hK3 _ ha' ⟨q_add a 1, ?_⟩
                      show (1 : Int32) = bI _
                      rw [allN, hfa.1, hfa.2, hea, htb, decide_eq_true h]; rfl
                    · refine hK3 _ ha' ⟨q_add a 1, ?_⟩
                      show (0 : Int32) = bI _
                      rw [allN, hfa.1, hfa.2, hea, htb, decide_eq_false h]; rfl
            refine wj fun J27 hJ27 => ?_
            cases hrb : rbS (eaB F σ) n with
            | none =>
              refine wiT (show nO none = -1 from rfl) ?_
              rw [hJ27]
              exact hJQ true (by rw [hrb])
            | some x =>
              have hx : x < 256 := by
                rcases rb_cb (ea := eaB F σ) hD n (by omega) with ⟨h1, _⟩ | ⟨x', hx', h1, _⟩
                · rw [h1] at hrb; cases hrb
                · rw [h1] at hrb; injection hrb with hrb; omega
              refine wiF (by rw [nO_m1 (fun y hy => by injection hy with hy; omega)]; intro h; cases h) ?_
              refine wb1 (M_bitsOf (by omega) (by omega)) (wb1 (M_bitsOf (m := x) (by omega) hx) ?_)
              have l1 := pc_le ⟨n, by omega⟩
              have l2 := pc_le ⟨x, hx⟩
              dsimp only at l1 l2
              refine wi (fun h => ?_) fun h => ?_ <;> rw [q_le (by omega) (by omega)] at h
              · exact hJQ false (by rw [hrb]; exact (decide_eq_false (by omega)).symm)
              · rw [hJ27]
                exact hJQ true (by rw [hrb]; exact (decide_eq_true (by omega)).symm)
      · have hi' : i < nD σ := by omega
        refine wiF (by rw [hv5 hE, q_le (by omega) (by omega)]; omega) (wk (k := i) rfl (by omega) (by omega) (wn fun u31 e31 => wn fun x32 e32 => ?_))
        subst e32
        rw [q_clamp (by omega)] at e31
        obtain ⟨z1, z2⟩ := bs_0 F σ i
        have hE31 : MqE τ0 u31 := by rw [e31]; exact hE.trans (MqE_up rfl)
        refine lp_up Q (fun t (q : St × Int32 × Int32) => MqE τ0 q.1 ∧ q.2.1 = qN (i + 1 + t) ∧ q.2.2 = qN (toC F σ i + cnN (rvG F σ i) (i + 1 + t)) ∧ (∀ a, a < i → q.1 26 a = rvQ F σ a) ∧ q.1 26 i = qN (bsN (rvG F σ i) (i + 1 + t))) (nD σ - (i + 1)) ?_ F 0 _ (by omega) (by omega) ⟨hE31, q_add i 1, by rw [Nat.add_zero, z2, Nat.add_zero], fun a ha => by show u31 26 a = _; rw [e31, up_same, upd_ne _ _ (by omega)]; exact g1 a ha, by show u31 26 i = _; rw [e31, up_same, upd_same, Nat.add_zero, z1]; rfl⟩
        rintro t ⟨q, c, acc⟩ K2 ht ⟨hq, hc, hacc, k1, k3⟩ hK2
        dsimp only at hq hc hacc k1 k3
        subst hc hacc
        dsimp only
        by_cases htD : i + 1 + t = nD σ
        · refine wiT (by rw [hv5 hq, htD]; exact Int32.le_refl _) (hK _ hi' ⟨hq, q_add i 1, ?_, fun a ha => ?_⟩)
          · show qN _ = qN (toC F σ (i + 1)); rw [htD]; rfl
          · by_cases hai : a = i
            · subst hai; show q 26 a = _; rw [k3, htD]; rfl
            · exact k1 a (by omega)
        · refine wiF (by rw [hv5 hq, q_le (by omega) (by omega)]; omega) ?_
          obtain ⟨r, hr, rE⟩ := M_isAgainst hF R0 hq (a := i) (b := i + 1 + t) hi' (by omega)
          refine wb2 hr ?_
          have hqr : MqE τ0 r := hq.trans (mq_of rE)
          have hr26 : r 26 = q 26 := rE 26 (by decide) (by decide)
          have hrv : rvG F σ i (i + 1 + t) = agB F σ i (i + 1 + t) := by unfold rvG; rw [decide_eq_true (by omega), Bool.true_and]
          cases hag : agB F σ i (i + 1 + t) with
          | false =>
            refine wiT (show bI false = 0 from rfl) (hK2 _ (by omega) ⟨hqr, q_add _ 1, ?_, fun a ha => by show r 26 a = _; rw [hr26]; exact k1 a ha, ?_⟩)
            · show qN _ = qN (toC F σ i + cnN (rvG F σ i) (i + 1 + t + 1))
              rw [cnN, hrv, hag]; rfl
            · show r 26 i = qN (bsN (rvG F σ i) (i + 1 + t + 1))
              rw [hr26, k3, bsN, hrv, hag]; rfl
          | true =>
            refine wiF (show ¬ bI true = 0 by decide) (wk (k := i) rfl (by omega) (by omega) (wk (k := i) rfl (by omega) (by omega) (wn fun u38 e38 => ?_)))
            rw [q_clamp (by omega), hr26, k3, or_pow (by omega) (bsN_lt _ _)] at e38
            refine hK2 _ (by omega) ⟨?_, q_add _ 1, ?_, fun a ha => ?_, ?_⟩
            · show MqE τ0 u38; rw [e38]; exact hqr.trans (MqE_up rfl)
            · show qN _ + 1 = qN (toC F σ i + cnN (rvG F σ i) (i + 1 + t + 1))
              rw [cnN, hrv, hag]; exact q_add _ 1
            · show u38 26 a = _; rw [e38, up_same, upd_ne _ _ (by omega), hr26]; exact k1 a ha
            · show u38 26 i = qN (bsN (rvG F σ i) (i + 1 + t + 1))
              rw [e38, up_same, upd_same, bsN, hrv, hag]; rfl
    obtain ⟨x, hx, x1, xE⟩ := key _ rfl
    rw [hx]
    have h4x : x.2 0 4 = 0 := by rw [mq4 xE]; exact h4
    by_cases w0 : w = 0
    · rw [if_pos w0] at x1 ⊢; exact G1_ok R0 rfl rfl x1.symm yE xE.me h4x
    · rw [if_neg w0] at x1 ⊢; exact G1_ok R0 rfl rfl x1.symm yE xE.me h4x
  · rw [if_neg hw, if_neg (by decide)]
    simp only [jn]
    by_cases w1 : w < 0
    · rw [if_pos w1]; exact hno
    · rw [if_neg w1, if_neg (show ¬ w ≤ 1 by grind)]; exact hno
end
