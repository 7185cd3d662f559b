set_option linter.unusedVariables false
set_option linter.unusedSimpArgs false
set_option maxRecDepth 16384
/-! evenings, of both sides -/
theorem xor_lt {m p : Nat} (hs : ∀ e, p.testBit e = true → m.testBit e = true) (hp0 : p ≠ 0) (hpm : p ≠ m) : m ^^^ p ≠ 0 ∧ m ^^^ p < m := by
  have hxs : ∀ e, (m ^^^ p).testBit e = true → m.testBit e = true := by
    intro e he
    rw [Nat.testBit_xor] at he
    cases ht : m.testBit e with
    | true => rfl
    | false =>
      cases hp' : p.testBit e with
      | true => rw [hs e hp'] at ht; cases ht
      | false => rw [ht, hp'] at he; cases he
  refine ⟨?_, ?_⟩
  · intro h
    apply hpm
    apply Nat.eq_of_testBit_eq
    intro e
    have : (m ^^^ p).testBit e = (0 : Nat).testBit e := by rw [h]
    rw [Nat.testBit_xor, Nat.zero_testBit] at this
    cases hm' : m.testBit e <;> cases hp' : p.testBit e <;> simp_all
  · have := sub_le hxs
    have hne : m ^^^ p ≠ m := by
      intro h
      apply hp0
      apply Nat.eq_of_testBit_eq
      intro e
      have : (m ^^^ p).testBit e = m.testBit e := by rw [h]
      rw [Nat.testBit_xor] at this
      rw [Nat.zero_testBit]
      cases hm' : m.testBit e <;> cases hp' : p.testBit e <;> simp_all
    omega
theorem sub_q {p m : Nat} (hp : p < 256) : (qN p &&& (qN m ^^^ -1) = 0) ↔ ∀ e, p.testBit e = true → m.testBit e = true := by
  constructor
  · intro h e he
    have he32 : e < 8 := by
      apply Classical.byContradiction
      intro hn
      rw [bit_out (D := 8) (show p < 2 ^ 8 from hp) (by omega)] at he; cases he
    have : bt (qN p &&& (qN m ^^^ -1)) e = bt 0 e := by rw [h]
    rw [bt_and, bt_xor, bt_neg1 (by omega), bt_zero, bt_q _ (by omega), bt_q _ (by omega), he] at this
    cases hm : m.testBit e <;> simp_all
  · intro h
    apply bt_ext
    intro e he
    rw [bt_and, bt_xor, bt_neg1 he, bt_zero, bt_q _ he, bt_q _ he]
    cases hp' : p.testBit e with
    | false => rfl
    | true => rw [h e hp']; rfl
theorem xor_q (a b : Nat) : qN a ^^^ qN b = qN (a ^^^ b) := by
  apply bt_ext
  intro e he
  rw [bt_xor, bt_q _ he, bt_q _ he, bt_q _ he, Nat.testBit_xor]
theorem mk_none {bo : Nat → Int32} {m d : Nat} (h : mkS bo m d = none) : ∀ d', d ≤ d' → mkS bo m d' = none := by
  intro d'
  induction d' with
  | zero => intro hd; have : d = 0 := by omega
            subst this; exact h
  | succ d' ih =>
    intro hd
    by_cases hdd : d = d' + 1
    · subst hdd; exact h
    · rw [mkS, ih (by omega)]
def bvS (σ : St) (d : Nat) : Int32 := ((1 : Int32) <<< (σ 4 d &&& 31)) ||| ((1 : Int32) <<< (σ 5 d &&& 31))
def mbS (one : Nat → Bool) : Nat → Nat
  | 0 => 0
  | n + 1 => if (decide (pcN (mbS one n) < pcN n) && one n) = true then n else mbS one n
theorem mb_le {one : Nat → Bool} : ∀ n, mbS one n ≤ n := by
  intro n
  induction n with
  | zero => exact Nat.le_refl _
  | succ n ih => rw [mbS]; split <;> omega
section
variable {F : Nat} {σ τ : St}
theorem C_bothOf {u : St} (e : CE σ u) {d : Nat} (hd : d < 8) : fX1_bothOf F u (qN d) = some (bvS σ d) := by
  unfold fX1_bothOf bvS
  rw [ck_ok hd (by omega), ck_ok hd (by omega), q_clamp (by omega), e 4 (by decide) (by decide), e 5 (by decide) (by decide)]
theorem C_onOne {u : St} (hF : 20 ≤ F) (T : Told σ τ) (e : CE σ u) (m : Nat) : fX1_onOneEvening F u (qN m) = some (bI (oneB (bvS σ) (nD σ) m)) := by
  have hD := T.2.2.2.2.1
  refine wpE fun Q hQ => ?_
  unfold fX1_onOneEvening
  have hv2 : u 2 1 = qN (nD σ) := by rw [e 2 (by decide) (by decide)]; exact T.2.2.2.1
  refine lp_up Q (fun d (v : Int32 × Int32) => v.1 = qN d ∧ mkS (bvS σ) m d = some v.2) (nD σ) ?_ F 0 _ (by omega) (by omega) ⟨rfl, rfl⟩
  rintro d ⟨c, b⟩ K hd ⟨hc, hb⟩ hK
  dsimp only at hc hb
  subst hc
  dsimp only
  by_cases hdD : d = nD σ
  · refine wiT (by rw [hv2, hdD]; exact Int32.le_refl _) ?_
    unfold oneB at hQ
    rw [← hdD, hb] at hQ; exact hQ
  · have hd' : d < nD σ := by omega
    refine wiF (by rw [hv2, q_le (by omega) (by omega)]; omega) ?_
    have hmk : mkS (bvS σ) m (d + 1) = if m.testBit d then (if b &&& bvS σ d = 0 then some (b ||| bvS σ d) else none) else some b := by rw [mkS, hb]
    rw [bt_shr _ (by omega), bt_q _ (by omega)]
    cases htb : m.testBit d with
    | false =>
      refine wiT (show (if false = true then (1 : Int32) else 0) = 0 from rfl) (hK _ hd' ⟨q_add d 1, ?_⟩)
      rw [hmk, htb]; rfl
    | true =>
      refine wiF (show ¬ (1 : Int32) = 0 by decide) (wb1 (C_bothOf e (by omega)) ?_)
      rw [htb, if_pos rfl] at hmk
      refine wi (fun h => ?_) fun h => ?_
      · refine wb1 (C_bothOf e (by omega)) (wn fun x6 e6 => hK _ hd' ⟨q_add d 1, ?_⟩)
        show mkS (bvS σ) m (d + 1) = some x6
        rw [hmk, if_pos h, e6]
      · rw [if_neg h] at hmk
        have : oneB (bvS σ) (nD σ) m = false := by unfold oneB; rw [mk_none hmk (nD σ) (by omega)]; rfl
        rw [this] at hQ; exact hQ
theorem M_atOnce {w : St} (hF : 20 ≤ F) (T : Told σ τ) (e : MqE τ w) (m : Nat) : fX11_areAtOnce F w (qN m) = some (bI (oneB (bvS σ) (nD σ) m)) := by
  have hD := T.2.2.2.2.1
  refine wpE fun Q hQ => ?_
  unfold fX11_areAtOnce
  have hv5 : w 5 1 = qN (nD σ) := by rw [e 5 rfl, T.2.2.2.2.2.1, T.2.2.2.1]
  refine lp_up Q (fun d (v : Int32 × Int32) => v.1 = qN d ∧ mkS (bvS σ) m d = some v.2) (nD σ) ?_ F 0 _ (by omega) (by omega) ⟨rfl, rfl⟩
  rintro d ⟨c, b⟩ K hd ⟨hc, hb⟩ hK
  dsimp only at hc hb
  subst hc
  dsimp only
  by_cases hdD : d = nD σ
  · refine wiT (by rw [hv5, hdD]; exact Int32.le_refl _) ?_
    unfold oneB at hQ
    rw [← hdD, hb] at hQ; exact hQ
  · have hd' : d < nD σ := by omega
    have hn := T.dn hd'
    refine wiF (by rw [hv5, q_le (by omega) (by omega)]; omega) (wb1 (M_isOfB _ (by omega)) ?_)
    have hmk : mkS (bvS σ) m (d + 1) = if m.testBit d then (if b &&& bvS σ d = 0 then some (b ||| bvS σ d) else none) else some b := by rw [mkS, hb]
    rw [bt_q _ (by omega)]
    cases htb : m.testBit d with
    | false =>
      refine wiT (show bI false = 0 from rfl) (hK _ hd' ⟨q_add d 1, ?_⟩)
      rw [hmk, htb]; rfl
    | true =>
      refine wiF (show ¬ bI true = 0 by decide) (wk (k := d) rfl (by omega) (by omega) (wk (k := d) rfl (by omega) (by omega) (wn fun x5 e5 => ?_)))
      rw [q_clamp (by omega), e 7 rfl, e 8 rfl, hn.1, hn.2.1] at e5
      have e5' : x5 = bvS σ d := e5
      subst e5'
      rw [htb, if_pos rfl] at hmk
      refine wi (fun h => ?_) fun h => ?_
      · refine wn fun x6 e6 => hK _ hd' ⟨q_add d 1, ?_⟩
        show mkS (bvS σ) m (d + 1) = some x6
        rw [hmk, if_pos h, e6]
      · rw [if_neg h] at hmk
        have : oneB (bvS σ) (nD σ) m = false := by unfold oneB; rw [mk_none hmk (nD σ) (by omega)]; rfl
        rw [this] at hQ; exact hQ
theorem C_findE {u : St} (hF : 800 ≤ F) (T : Told σ τ) (e : CE σ u) : ∃ z, fX1_findEvenings F u = some z ∧ CE σ z ∧ ∃ g : Nat → Nat, g 0 = 0 ∧ (∀ m, m < 2 ^ nD σ → z 86 m = qN (g m) ∧ g m ≤ 8) ∧ (∀ m, m ≠ 0 → m < 2 ^ nD σ → EvG (bvS σ) (nD σ) g m) := by
  have hD := T.2.2.2.2.1
  have hp := pow256 hD
  have hp1 := @pow_pos' (nD σ)
  refine wpI fun Q hQ => ?_
  unfold fX1_findEvenings
  have hv2 : u 2 1 = qN (nD σ) := by rw [e 2 (by decide) (by decide)]; exact T.2.2.2.1
  refine wn fun x1 e1 => wn fun u2 e2 => ?_
  rw [hv2, sh_pow hD] at e1
  subst e1
  have hE2 : CE σ u2 := by rw [e2]; exact e.trans (CE_up (.inl (by decide)))
  refine lp_up Q (fun t (v : St × Int32) => CE σ v.1 ∧ v.2 = qN (1 + t) ∧ ∃ g : Nat → Nat, g 0 = 0 ∧ (∀ m, m < 1 + t → v.1 86 m = qN (g m) ∧ g m ≤ 8) ∧ (∀ m, m ≠ 0 → m < 1 + t → EvG (bvS σ) (nD σ) g m)) (2 ^ nD σ - 1) ?_ F 0 _ (by omega) (by omega) ⟨hE2, rfl, fun _ => 0, rfl, fun m hm => by
    have : m = 0 := by omega
    subst this
    refine ⟨?_, Nat.zero_le 8⟩
    show u2 86 0 = _
    rw [e2, up_same, upd_same]; rfl, fun m h0 hm => absurd hm (by omega)⟩
  rintro t ⟨v, c⟩ K ht ⟨hE, hc, g, g0, gv, gE⟩ hK
  dsimp only at hE hc gv
  subst hc
  dsimp only
  by_cases htD : 1 + t = 2 ^ nD σ
  · refine wiT (by rw [htD]; exact Int32.le_refl _) (hQ _ ⟨hE, g, g0, fun m hm => gv m (by omega), fun m h0 hm => gE m h0 (by omega)⟩)
  · have ht' : 1 + t < 2 ^ nD σ := by omega
    refine wiF (by rw [q_le (by omega) (by omega)]; omega) (wb1 (C_onOne (by omega) T hE (1 + t)) (wj fun J8 hJ8 => ?_))
    have hJQ : ∀ x0 : Nat, x0 ≤ 8 → Col (bvS σ) (nD σ) (1 + t) x0 → (NC (bvS σ) (nD σ) (1 + t) → x0 ≤ 1) → Q (J8 (qN x0)) := by
      intro x0 hx8 hcol hnc
      rw [hJ8]
      refine wk (k := 1 + t) rfl (by omega) (by omega) (wn fun u10 e10 => ?_)
      rw [q_clamp (by omega)] at e10
      have hE10 : CE σ u10 := by rw [e10]; exact hE.trans (CE_up (.inl (by decide)))
      refine lp_up Q (fun s (w : St × Int32) => CE σ w.1 ∧ w.2 = qN (1 + s) ∧ (∀ m, m < 1 + t → w.1 86 m = qN (g m)) ∧ ∃ x, x ≤ 8 ∧ w.1 86 (1 + t) = qN x ∧ Col (bvS σ) (nD σ) (1 + t) x ∧ (NC (bvS σ) (nD σ) (1 + t) → x ≤ 1) ∧ ∀ p, 1 ≤ p → p < 1 + s → (∀ e, p.testBit e = true → (1 + t).testBit e = true) → g p = 1 → x ≤ 1 + g ((1 + t) ^^^ p)) t ?_ F 0 _ (by omega) (by omega) ⟨hE10, rfl, fun m hm => by show u10 86 m = _; rw [e10, up_same, upd_ne _ _ (by omega)]; exact (gv m hm).1, x0, hx8, by show u10 86 _ = _; rw [e10, up_same, upd_same], hcol, hnc, fun p h1 h2 => absurd h2 (by omega)⟩
      rintro s ⟨w, c⟩ K2 hs ⟨hw, hc, hwv, x, hx, hwx, hcx, hnx, hmx⟩ hK2
      dsimp only at hw hc hwv hwx
      subst hc
      dsimp only
      by_cases hst : s = t
      · refine wiT (by rw [hst]; exact Int32.le_refl _) (hK _ (by omega) ⟨hw, q_add _ 1, fun m => if m = 1 + t then x else g m, ?_, fun m hm => ?_, fun m h0 hm => ?_⟩)
        · show (if 0 = 1 + t then x else g 0) = 0
          rw [if_neg (by omega)]; exact g0
        · show w 86 m = qN (if m = 1 + t then x else g m) ∧ (if m = 1 + t then x else g m) ≤ 8
          by_cases hmt : m = 1 + t
          · rw [if_pos hmt, hmt]; exact ⟨hwx, hx⟩
          · rw [if_neg hmt]; exact ⟨hwv m (by omega), (gv m (by omega)).2⟩
        · unfold EvG
          show Col _ _ m (if m = 1 + t then x else g m) ∧ ∀ n, Col _ _ m n → (if m = 1 + t then x else g m) ≤ n
          by_cases hmt : m = 1 + t
          · rw [if_pos hmt, hmt]
            exact ⟨hcx, ev_step (by omega) ht' (fun k h0 hk => gE k h0 hk) hcx hnx (fun p h1 h2 h3 h4 => hmx p h1 (by omega) h3 h4)⟩
          · rw [if_neg hmt]; exact gE m h0 (by omega)
      · have hs' : s < t := by omega
        refine wiF (by rw [q_le (by omega) (by omega)]; omega) ?_
        have hskip : ((∀ e, (1 + s).testBit e = true → (1 + t).testBit e = true) → g (1 + s) = 1 → x ≤ 1 + g ((1 + t) ^^^ (1 + s))) → Q (K2 (w, qN (1 + s) + 1)) := by
          intro hh
          refine hK2 _ hs' ⟨hw, q_add _ 1, hwv, x, hx, hwx, hcx, hnx, fun p h1 h2 h3 h4 => ?_⟩
          by_cases hps : p = 1 + s
          · subst hps; exact hh h3 h4
          · exact hmx p h1 (by omega) h3 h4
        refine wi (fun hsub => ?_) fun hsub => ?_ <;> rw [sub_q (by omega)] at hsub
        · refine wk (k := 1 + s) rfl (by omega) (by omega) ?_
          refine wi (fun hg1 => ?_) fun hg1 => ?_ <;> rw [q_clamp (by omega), hwv (1 + s) (by omega), show (1 : Int32) = qN 1 from rfl, q_eq (by have := (gv (1 + s) (by omega)).2; omega) (by omega)] at hg1
          · obtain ⟨hx0, hxm⟩ := xor_lt hsub (by omega) (show 1 + s ≠ 1 + t by omega)
            rw [xor_q]
            refine wk (k := 1 + t) rfl (by omega) (by omega) (wk (k := (1 + t) ^^^ (1 + s)) rfl (by omega) (by omega) (wk (k := 1 + t) rfl (by omega) (by omega) (wn fun u14 e14 => ?_)))
            rw [q_clamp (by omega), q_clamp (by omega)] at e14
            have hA := hwv _ hxm
            have hgx8 := (gv _ hxm).2
            have hlt : (1 + qN (g ((1 + t) ^^^ (1 + s))) < qN x) ↔ 1 + g ((1 + t) ^^^ (1 + s)) < x := by
              rw [show (1 : Int32) = qN 1 from rfl, q_add, q_lt (by omega) (by omega)]
            have hcol' : Col (bvS σ) (nD σ) (1 + t) (1 + g ((1 + t) ^^^ (1 + s))) := by
              have hnp : NC (bvS σ) (nD σ) (1 + s) := (ev_one (gE (1 + s) (by omega) (by omega)) (by omega) (by omega)).1 hg1
              exact col_join hnp hsub (gE _ hx0 hxm).1
            have hfin : ∀ x', x' ≤ x → x' ≤ 1 + g ((1 + t) ^^^ (1 + s)) → Col (bvS σ) (nD σ) (1 + t) x' → u14 = up w 86 (1 + t) (qN x') → Q (K2 (u14, qN (1 + s) + 1)) := by
              intro x' h1 h2 h3 h4
              refine hK2 _ hs' ⟨by rw [h4]; exact hw.trans (CE_up (.inl (by decide))), q_add _ 1, fun m hm => by show u14 86 m = _; rw [h4, up_same, upd_ne _ _ (by omega)]; exact hwv m hm, x', by omega, by show u14 86 _ = _; rw [h4, up_same, upd_same], h3, fun hn => by have := hnx hn; omega, fun p q1 q2 q3 q4 => ?_⟩
              by_cases hps : p = 1 + s
              · subst hps; exact h2
              · have := hmx p q1 (by omega) q3 q4; omega
            by_cases hc : 1 + g ((1 + t) ^^^ (1 + s)) < x
            · rw [if_pos (show 1 + w 86 ((1 + t) ^^^ (1 + s)) < w 86 (1 + t) by rw [hA, hwx]; exact hlt.2 hc), hA, show (1 : Int32) = qN 1 from rfl, q_add] at e14
              exact hfin _ (by omega) (Nat.le_refl _) hcol' e14
            · rw [if_neg (show ¬ 1 + w 86 ((1 + t) ^^^ (1 + s)) < w 86 (1 + t) by rw [hA, hwx]; exact fun h => hc (hlt.1 h)), hwx] at e14
              exact hfin x (Nat.le_refl _) (by omega) hcx e14
          · exact hskip (fun _ h => absurd h hg1)
        · exact hskip (fun h _ => absurd h hsub)
    cases h1 : oneB (bvS σ) (nD σ) (1 + t) with
    | false =>
      refine wiT (show bI false = 0 from rfl) (hJQ 8 (by decide) (col_8 hD) (fun hn => ?_))
      rw [(one_iff _).2 hn] at h1; cases h1
    | true =>
      exact wiF (show ¬ bI true = 0 by decide) (hJQ 1 (by decide) (col_nc ((one_iff _).1 h1)) (fun _ => Nat.le_refl _))
theorem C_most {z : St} (hF : 800 ≤ F) (T : Told σ τ) (e : CE σ z) {g : Nat → Nat} (gv : ∀ m, m < 2 ^ nD σ → z 86 m = qN (g m) ∧ g m ≤ 8) (gE : ∀ m, m ≠ 0 → m < 2 ^ nD σ → EvG (bvS σ) (nD σ) g m) : fX1_mostAtOnce F z = some (qN (mbS (oneB (bvS σ) (nD σ)) (2 ^ nD σ))) := by
  have hD := T.2.2.2.2.1
  have hp := pow256 hD
  have hp1 := @pow_pos' (nD σ)
  refine wpE fun Q hQ => ?_
  unfold fX1_mostAtOnce
  have hv2 : z 2 1 = qN (nD σ) := by rw [e 2 (by decide) (by decide)]; exact T.2.2.2.1
  refine lp_up Q (fun t (v : Int32 × Int32) => v.1 = qN (1 + t) ∧ v.2 = qN (mbS (oneB (bvS σ) (nD σ)) (1 + t))) (2 ^ nD σ - 1) ?_ F 0 _ (by omega) (by omega) ⟨rfl, rfl⟩
  rintro t ⟨c, b⟩ K ht ⟨hc, hb⟩ hK
  dsimp only at hc hb
  subst hc hb
  dsimp only
  by_cases htD : 1 + t = 2 ^ nD σ
  · refine wiT (by rw [hv2, sh_pow hD, htD]; exact Int32.le_refl _) ?_
    rw [htD]; exact hQ
  · have ht' : 1 + t < 2 ^ nD σ := by omega
    refine wiF (by rw [hv2, sh_pow hD, q_le (by omega) (by omega)]; omega) (wk (k := 1 + t) rfl (by omega) (by omega) ?_)
    have hle := mb_le (one := oneB (bvS σ) (nD σ)) (1 + t)
    have hmb : mbS (oneB (bvS σ) (nD σ)) (1 + t + 1) = if (decide (pcN (mbS (oneB (bvS σ) (nD σ)) (1 + t)) < pcN (1 + t)) && oneB (bvS σ) (nD σ) (1 + t)) = true then 1 + t else mbS (oneB (bvS σ) (nD σ)) (1 + t) := rfl
    have hone : g (1 + t) = 1 ↔ oneB (bvS σ) (nD σ) (1 + t) = true := by rw [one_iff]; exact ev_one (gE _ (by omega) ht') (by omega) ht'
    have gv' := gv (1 + t) ht'
    refine wi (fun hg1 => ?_) fun hg1 => ?_ <;> rw [q_clamp (by omega), gv'.1, show (1 : Int32) = qN 1 from rfl, q_eq (by omega) (by omega)] at hg1
    · rw [hone.1 hg1, Bool.and_true] at hmb
      refine wb1 (C_bitCount (by omega)) (wb1 (C_bitCount (by omega)) ?_)
      have l1 := pc_le ⟨1 + t, by omega⟩
      have l2 := pc_le ⟨mbS (oneB (bvS σ) (nD σ)) (1 + t), by omega⟩
      dsimp only at l1 l2
      refine wi (fun h => ?_) fun h => ?_ <;> rw [q_le (by omega) (by omega)] at h
      · refine hK _ (by omega) ⟨q_add _ 1, ?_⟩
        show qN _ = qN (mbS _ (1 + t + 1))
        rw [hmb, decide_eq_false (by omega)]; rfl
      · refine hK _ (by omega) ⟨q_add _ 1, ?_⟩
        show qN _ = qN (mbS _ (1 + t + 1))
        rw [hmb, decide_eq_true (by omega)]; rfl
    · have hf : oneB (bvS σ) (nD σ) (1 + t) = false := by
        cases h : oneB (bvS σ) (nD σ) (1 + t) with
        | false => rfl
        | true => exact absurd (hone.2 h) hg1
      refine hK _ (by omega) ⟨q_add _ 1, ?_⟩
      show qN _ = qN (mbS _ (1 + t + 1))
      rw [hmb, hf, Bool.and_false]; rfl
/-! the reference's search -/
def fitB (bo : Nat → Int32) (n : Nat) : Nat → Nat → (Nat → Int32) → Bool
  | 0, _, _ => true
  | f + 1, d, busy => anyN (fun k => decide (busy k &&& bo d = 0) && fitB bo n f (d + 1) (upd busy k (busy k ||| bo d))) n
theorem fit_iff {bo : Nat → Int32} {n D : Nat} : ∀ (f d : Nat) (busy : Nat → Int32), d + f = D → (fitB bo n f d busy = true ↔ ∃ c : Nat → Nat, (∀ e, d ≤ e → e < D → c e < n ∧ busy (c e) &&& bo e = 0) ∧ ∀ e e', d ≤ e → e < e' → e' < D → c e = c e' → bo e &&& bo e' = 0) := by
  intro f
  induction f with
  | zero => intro d busy hd; exact ⟨fun _ => ⟨fun _ => 0, fun e h1 h2 => absurd h2 (by omega), fun e e' h1 h2 h3 => absurd h3 (by omega)⟩, fun _ => rfl⟩
  | succ f ih =>
    intro d busy hd
    rw [fitB, anyN_iff]
    constructor
    · rintro ⟨k, hk, h⟩
      rw [Bool.and_eq_true, decide_eq_true_eq, ih (d + 1) _ (by omega)] at h
      obtain ⟨hb, c, c1, c2⟩ := h
      refine ⟨fun e => if e = d then k else c e, fun e h1 h2 => ?_, fun e e' h1 h2 h3 h4 => ?_⟩
      · show (if e = d then k else c e) < n ∧ busy (if e = d then k else c e) &&& bo e = 0
        by_cases hed : e = d
        · rw [if_pos hed, hed]; exact ⟨hk, hb⟩
        · rw [if_neg hed]
          obtain ⟨g1, g2⟩ := c1 e (by omega) h2
          refine ⟨g1, ?_⟩
          by_cases hck : c e = k
          · rw [hck, upd_same, and_or0] at g2; rw [hck]; exact g2.1
          · rw [upd_ne _ _ hck] at g2; exact g2
      · dsimp only at h4
        rw [if_neg (show ¬ e' = d by omega)] at h4
        by_cases hed : e = d
        · rw [if_pos hed] at h4
          have g2 := (c1 e' (by omega) h3).2
          rw [← h4, upd_same, and_or0] at g2
          rw [hed]; exact g2.2
        · rw [if_neg hed] at h4
          exact c2 e e' (by omega) h2 h3 h4
    · rintro ⟨c, c1, c2⟩
      refine ⟨c d, (c1 d (Nat.le_refl _) (by omega)).1, ?_⟩
      rw [Bool.and_eq_true, decide_eq_true_eq, ih (d + 1) _ (by omega)]
      refine ⟨(c1 d (Nat.le_refl _) (by omega)).2, c, fun e h1 h2 => ⟨(c1 e (by omega) h2).1, ?_⟩, fun e e' h1 h2 h3 h4 => c2 e e' (by omega) h2 h3 h4⟩
      by_cases hck : c e = c d
      · rw [hck, upd_same, and_or0]
        refine ⟨?_, c2 d e (Nat.le_refl _) (by omega) h2 hck.symm⟩
        rw [← hck]; exact (c1 e (by omega) h2).2
      · rw [upd_ne _ _ hck]; exact (c1 e (by omega) h2).2
theorem fit_col {bo : Nat → Int32} {n D : Nat} {busy : Nat → Int32} (hb : ∀ k, k < n → busy k = 0) : fitB bo n D 0 busy = true ↔ Col bo D (2 ^ D - 1) n := by
  rw [fit_iff (D := D) D 0 busy (Nat.zero_add D)]
  have ht : ∀ e, e < D → (2 ^ D - 1).testBit e = true := fun e he => by rw [Nat.testBit_two_pow_sub_one]; exact decide_eq_true he
  constructor
  · rintro ⟨c, c1, c2⟩
    exact ⟨c, fun e he _ => (c1 e (Nat.zero_le _) he).1, fun e e' h1 h2 _ _ h3 => c2 e e' (Nat.zero_le _) h1 h2 h3⟩
  · rintro ⟨c, c1, c2⟩
    refine ⟨c, fun e _ he => ⟨c1 e he (ht e he), ?_⟩, fun e e' _ h1 h2 h3 => c2 e e' h1 h2 (ht e (by omega)) (ht e' h2) h3⟩
    rw [hb _ (c1 e he (ht e he))]; simp
theorem M_fits (hF : 20 ≤ F) (T : Told σ τ) {n : Nat} (hn : n ≤ 8) : ∀ (k f d : Nat) (w : St), f < k → d + f = nD σ → (∀ c, c ≠ 27 → w c = τ c) → fX11_fits F k w (qN d) (qN n) = some (bI (fitB (bvS σ) n f d (w 27)), w) := by
  have hD := T.2.2.2.2.1
  intro k
  induction k with
  | zero => intro f d w hf; omega
  | succ k ih =>
    intro f d w hf hd hw
    refine wpE fun Q hQ => ?_
    show Q (fX11_fits_b (fX11_fits F k) F w (qN d) (qN n))
    unfold fX11_fits_b
    have h5 : w 5 1 = qN (nD σ) := by rw [hw 5 (by decide), T.2.2.2.2.2.1, T.2.2.2.1]
    rw [h5]
    cases f with
    | zero =>
      rw [if_pos (by congr 1)]
      exact hQ
    | succ f =>
      rw [if_neg (by rw [q_eq (by omega) (by omega)]; omega)]
      have hdn := T.dn (show d < nD σ by omega)
      refine wk (k := d) rfl (by omega) (by omega) (wk (k := d) rfl (by omega) (by omega) (wn fun x1 e1 => ?_))
      rw [q_clamp (by omega), hw 7 (by decide), hw 8 (by decide), hdn.1, hdn.2.1] at e1
      have e1' : x1 = bvS σ d := e1
      subst e1'
      let gk : Nat → Bool := fun k => decide (w 27 k &&& bvS σ d = 0) && fitB (bvS σ) n f (d + 1) (upd (w 27) k (w 27 k ||| bvS σ d))
      have hgk : ∀ j, gk j = (decide (w 27 j &&& bvS σ d = 0) && fitB (bvS σ) n f (d + 1) (upd (w 27) j (w 27 j ||| bvS σ d))) := fun _ => rfl
      have hfit : fitB (bvS σ) n (f + 1) d (w 27) = anyN gk n := rfl
      rw [hfit] at hQ
      refine lp_up Q (fun j (v : St × Int32) => v.1 = w ∧ v.2 = qN j ∧ anyN gk j = false) n ?_ F 0 _ (by omega) (by omega) ⟨rfl, rfl, rfl⟩
      rintro j ⟨v, c⟩ K hj ⟨hv, hc, hno⟩ hK
      dsimp only at hv hc
      subst hv hc
      dsimp only
      by_cases hjn : j = n
      · refine wiT (by rw [hjn]; exact Int32.le_refl _) ?_
        rw [← hjn, hno] at hQ; exact hQ
      · have hj' : j < n := by omega
        refine wiF (by rw [q_le (by omega) (by omega)]; omega) (wk (k := j) rfl (by omega) (by omega) ?_)
        refine wi (fun hb => ?_) fun hb => ?_ <;> rw [q_clamp (by omega)] at hb
        · refine wk (k := j) rfl (by omega) (by omega) (wk (k := j) rfl (by omega) (by omega) (wn fun u5 e5 => ?_))
          rw [q_clamp (by omega)] at e5
          have hu5 : ∀ c, c ≠ 27 → u5 c = τ c := fun c hc => by rw [e5, up_ne _ _ _ hc]; exact hw c hc
          have h27 : u5 27 = upd (v 27) j (v 27 j ||| bvS σ d) := by rw [e5, up_same]
          have hr := ih f (d + 1) u5 (by omega) (by omega) hu5
          rw [h27] at hr
          rw [show qN d + 1 = qN (d + 1) from q_add d 1]
          refine wb2 hr (wk (k := j) rfl (by omega) (by omega) (wk (k := j) rfl (by omega) (by omega) (wn fun u8 e8 => ?_)))
          rw [q_clamp (by omega)] at e8
          have hu8 : u8 = v := by
            rw [e8, h27, upd_same, or_andn hb]
            funext c
            by_cases hc : c = 27
            · subst hc
              rw [up_same, h27]; funext i
              by_cases hi : i = j
              · subst hi; rw [upd_same]
              · rw [upd_ne _ _ hi, upd_ne _ _ hi]
            · rw [up_ne _ _ _ hc, e5, up_ne _ _ _ hc]
          have hgj : gk j = fitB (bvS σ) n f (d + 1) (upd (v 27) j (v 27 j ||| bvS σ d)) := by rw [hgk, decide_eq_true hb, Bool.true_and]
          rw [← hgj, hu8]
          cases hg : gk j with
          | false => exact wiT (show bI false = 0 from rfl) (hK _ hj' ⟨rfl, q_add j 1, by rw [anyN, hno, hg]; rfl⟩)
          | true =>
            refine wiF (show ¬ bI true = 0 by decide) ?_
            rw [anyN_iff.2 ⟨j, hj', hg⟩] at hQ; exact hQ
        · exact hK _ hj' ⟨rfl, q_add j 1, by rw [anyN, hno, hgk, decide_eq_false hb]; rfl⟩
end
