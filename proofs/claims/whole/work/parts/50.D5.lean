set_option linter.unusedVariables false
set_option linter.unusedSimpArgs false
set_option maxRecDepth 16384
/-! which dances bind, as bits -/
def bsN (f : Nat → Bool) : Nat → Nat
  | 0 => 0
  | n + 1 => bsN f n + (if f n then 2 ^ n else 0)
theorem bsN_lt (f : Nat → Bool) : ∀ n, bsN f n < 2 ^ n := by
  intro n
  induction n with
  | zero => exact Nat.one_pos
  | succ n ih =>
    rw [bsN, Nat.pow_succ]
    split <;> omega
theorem or_pow {d m : Nat} (hd : d < 8) (hm : m < 2 ^ d) : qN m ||| ((1 : Int32) <<< (qN d &&& 31)) = qN (m + 2 ^ d) := by
  have h : ∀ d : Fin 8, ∀ m : Fin 256, m.1 < 2 ^ d.1 → qN m.1 ||| ((1 : Int32) <<< (qN d.1 &&& 31)) = qN (m.1 + 2 ^ d.1) := by decide
  exact h ⟨d, hd⟩ ⟨m, Nat.lt_of_lt_of_le hm (by
    have : 2 ^ d ≤ 2 ^ 8 := Nat.pow_le_pow_right (by decide) (by omega)
    omega)⟩ hm
theorem C_prepare {F : Nat} (hF : 20 ≤ F) {σ τ : St} (T : Told σ τ) {d : Nat} (hd : d < nD σ) {more : Int32} :
    ∃ x, fX2_prepare F σ (qN d) more = some x ∧ CP x d (nS σ d) (σ 2 2) (kn0 30 31 σ more d) (kn1 30 31 σ more d) (kdF σ d) (whF σ d) (nsF 33 σ d) ∧ (∀ c, c ≠ 66 → c ≠ 71 → x c = σ c) := by
  obtain ⟨t1, t2, t3, t4, t5, t6, t7, t8, t9, t10, t11, t12, t13⟩ := T
  obtain ⟨d1, d2, d3, d4, ⟨a, ha, hav⟩, ⟨b, hb, hbv⟩, d7, d8, d9, d10⟩ := t10 d hd
  have hcl : (qN d).toNatClampNeg = d := q_clamp (by omega)
  have hacl : (qN a).toNatClampNeg = a := q_clamp (by omega)
  have hbcl : (qN b).toNatClampNeg = b := q_clamp (by omega)
  refine wpI fun Q hQ => ?_
  unfold fX2_prepare
  refine wn fun u2 e2 => wk (k := d) rfl (by omega) (by omega) (wn fun u4 e4 => ?_)
  have f2 : ∀ c, c ≠ 66 → u2 c = σ c := fun c h => by rw [e2, up_ne _ _ _ h]
  have f4 : ∀ c, c ≠ 66 → u4 c = σ c := fun c h => by rw [e4, up_ne _ _ _ h, f2 c h]
  refine wb1 (r := σ 30 0 - σ 31 d) (by unfold fX9_since; rw [ck_ok (by omega) (by omega), hcl, f4 30 (by decide), f4 31 (by decide)]) ?_
  refine wn fun x6 e6 => ?_
  refine wb1 (r := σ 3 a) (by unfold fX0_kneesOf fX0_envoy; rw [if_pos rfl, ck_ok (by omega) (by omega), hcl, f4 4 (by decide), ha, bd1_some, ck_ok (by omega) (by omega), hacl, f4 3 (by decide)]) ?_
  refine wn fun u9 e9 => ?_
  have f9 : ∀ c, c ≠ 66 → u9 c = σ c := fun c h => by rw [e9, up_ne _ _ _ h, f4 c h]
  refine wb1 (r := σ 3 b) (by unfold fX0_kneesOf fX0_envoy; rw [if_neg (by decide), ck_ok (by omega) (by omega), hcl, f9 5 (by decide), hb, bd1_some, ck_ok (by omega) (by omega), hbcl, f9 3 (by decide)]) ?_
  refine wn fun u12 e12 => ?_
  have f12 : ∀ c, c ≠ 66 → u12 c = σ c := fun c h => by rw [e12, up_ne _ _ _ h, f9 c h]
  have g3 : u12 66 3 = qN d := by rw [e12, up_same, upd_ne _ _ (by decide), e9, up_same, upd_ne _ _ (by decide), e4, up_same, upd_ne _ _ (by decide), e2, up_same, upd_same]
  have g4 : u12 66 4 = qN (nS σ d) := by rw [e12, up_same, upd_ne _ _ (by decide), e9, up_same, upd_ne _ _ (by decide), e4, up_same, upd_same, f2 7 (by decide), hcl, d9]
  have g5 : u12 66 5 = kn0 30 31 σ more d := by rw [e12, up_same, upd_ne _ _ (by decide), e9, up_same, upd_same, e6]; unfold kn0; rw [ha, hacl]
  have g6 : u12 66 6 = kn1 30 31 σ more d := by rw [e12, up_same, upd_same, e6]; unfold kn1; rw [hb, hbcl]
  clear e2 e4 e9 e12 f2 f4 f9
  refine lp_up Q (fun i (v : St × Int32) => v.2 = qN i ∧ (∀ c, c ≠ 71 → v.1 c = u12 c) ∧ ∀ k, k < i → v.1 71 k = σ 33 (10 * d + k)) (nS σ d) ?_ F 0 _ (by omega) (by omega) ⟨rfl, fun _ _ => rfl, fun k h => by omega⟩
  rintro i ⟨v, c⟩ K hi ⟨hc, hv, hn⟩ hK
  dsimp only at hc hv hn
  subst hc
  dsimp only
  refine wi (fun h => ?_) fun h => ?_
  · rw [hv 66 (by decide), g4, q_le (by omega) (by omega)] at h
    refine hQ _ ⟨⟨by omega, by rw [hv 66 (by decide), g3], by rw [hv 66 (by decide), g4], by rw [hv 66 (by decide), g5], by rw [hv 66 (by decide), g6], by rw [hv 2 (by decide), f12 2 (by decide)], ?_⟩, ?_⟩
    · intro k hk
      exact ⟨by rw [hv 8 (by decide), f12 8 (by decide)]; rfl, by rw [hv 9 (by decide), f12 9 (by decide)]; rfl, hn k (by omega)⟩
    · intro c h1 h2
      rw [hv c h2, f12 c h1]
  · rw [hv 66 (by decide), g4, q_le (by omega) (by omega)] at h
    refine wb1 (r := qN (10 * d + i)) (by unfold fX10_placeOf; simp only [q_lit]; rw [q_mul, q_add, Nat.mul_comm]) ?_
    refine wk (k := 10 * d + i) rfl (by omega) (by omega) (wk (k := i) rfl (by omega) (by omega) (wn fun u e => ?_))
    rw [q_clamp (by omega), q_clamp (by omega)] at e
    refine hK _ (by omega) ⟨q_add i 1, ?_, ?_⟩
    · intro c h1
      show u c = _
      rw [e, up_ne _ _ _ h1, hv c h1]
    · intro k hk
      show u 71 k = _
      rw [e, up_same]
      by_cases hki : k = i
      · subst hki; rw [upd_same, hv 33 (by decide), f12 33 (by decide)]
      · rw [upd_ne _ _ hki]; exact hn k (by omega)
def bnS (σ : St) (more : Int32) (d : Nat) : Bool := decide (σ 32 d = 0) && efS (σ 2 2) (sf (σ 2 2) (kn0 30 31 σ more d) (kn1 30 31 σ more d) (kdF σ d) (whF σ d) (nsF 33 σ d)) (nS σ d)
theorem bnS_fr {σ σ' : St} (e : CE σ σ') (more : Int32) (d : Nat) : bnS σ' more d = bnS σ more d := by
  unfold bnS kn0 kn1 kdF whF nsF
  rw [CE_nS e, e 2 (by decide) (by decide), e 3 (by decide) (by decide), e 4 (by decide) (by decide), e 5 (by decide) (by decide), e 8 (by decide) (by decide), e 9 (by decide) (by decide), e 30 (by decide) (by decide), e 31 (by decide) (by decide), e 32 (by decide) (by decide), e 33 (by decide) (by decide)]
theorem C_bits {F : Nat} (hF : 20 ≤ F) {σ τ : St} (T : Told σ τ) (N : Nw 30 31 32 33 σ τ) {more : Int32} (hm : 0 ≤ more ∧ more ≤ 99) :
    ∃ x, fX2_bindingBits F σ more = some x ∧ x.1 = qN (bsN (bnS σ more) (nD σ)) ∧ CE σ x.2 := by
  refine wpI fun Q hQ => ?_
  unfold fX2_bindingBits
  have hD8 := T.2.2.2.2.1
  refine lp_up Q (fun d (v : St × Int32 × Int32) => CE σ v.1 ∧ v.2.1 = qN d ∧ v.2.2 = qN (bsN (bnS σ more) d)) (nD σ) ?_ F 0 _ (by omega) (by omega) ⟨CE.rfl, rfl, rfl⟩
  rintro d ⟨u, c, acc⟩ K hd ⟨hE, hc, hacc⟩ hK
  dsimp only at hE hc hacc
  subst hc hacc
  dsimp only
  have Tu := T.fr hE ME.rfl
  have Nu := N.fr (by decide) hE ME.rfl
  refine wi (fun h => ?_) fun h => ?_
  · rw [hE 2 (by decide) (by decide), T.2.2.2.1, q_le (by omega) (by omega)] at h
    have : d = nD σ := by omega
    subst this
    exact hQ _ ⟨rfl, hE⟩
  · rw [hE 2 (by decide) (by decide), T.2.2.2.1, q_le (by omega) (by omega)] at h
    have hdu : d < nD u := by rw [CE_nD hE]; omega
    obtain ⟨x, hx, xC, xE⟩ := C_prepare hF Tu hdu (more := more)
    refine wb1 hx (wk (k := d) rfl (by omega) (by omega) ?_)
    have xce : CE u x := fun c h1 h2 => xE c (by omega) (by omega)
    rw [q_clamp (by omega)]
    have hbn : bnS σ more d = bnS u more d := (bnS_fr hE more d).symm
    refine wi (fun hb => ?_) fun hb => ?_
    · rw [xE 32 (by decide) (by decide)] at hb
      obtain ⟨y, hy, y1, y2⟩ := C_endsFacing hF (PB_of Tu Nu hdu hm) xC
      refine wb2 (r := y.1) (u := y.2) hy ?_
      have hbe : bnS u more d = efS (u 2 2) (sf (u 2 2) (kn0 30 31 u more d) (kn1 30 31 u more d) (kdF u d) (whF u d) (nsF 33 u d)) (nS u d) := by
        unfold bnS; rw [decide_eq_true hb, Bool.true_and]
      rw [← hbe, ← hbn] at y1
      cases hbv : bnS σ more d with
      | false =>
        rw [hbv] at y1
        rw [if_pos (show y.1 = 0 from y1)]
        refine hK _ (by omega) ⟨(hE.trans xce).trans y2.ce, q_add d 1, ?_⟩
        show qN _ = qN (bsN _ (d + 1))
        rw [bsN, hbv]; rfl
      | true =>
        rw [hbv] at y1
        rw [if_neg (by rw [show y.1 = 1 from y1]; decide)]
        refine wn fun r er => hK _ (by omega) ⟨(hE.trans xce).trans y2.ce, q_add d 1, ?_⟩
        show r = qN (bsN _ (d + 1))
        rw [er, bsN, hbv, or_pow (by omega) (bsN_lt _ d)]; rfl
    · rw [xE 32 (by decide) (by decide)] at hb
      have hbf : bnS σ more d = false := by
        rw [hbn]; unfold bnS; rw [decide_eq_false hb, Bool.false_and]
      refine hK _ (by omega) ⟨hE.trans xce, q_add d 1, ?_⟩
      show qN _ = qN (bsN _ (d + 1))
      rw [bsN, hbf]; rfl
theorem M_isBinding {F : Nat} (hF : 20 ≤ F) {σ τ : St} (T : Told σ τ) (N : Nw 30 31 32 33 σ τ) {more : Int32} (hm : 0 ≤ more ∧ more ≤ 99) (hmo : τ 0 38 = more) {d : Nat} (hd : d < nD σ) :
    ∃ x, fX11_isBinding F τ (qN d) = some x ∧ x.1 = bI (bnS σ more d) ∧ ExM τ x.2 := by
  refine wpI fun Q hQ => ?_
  unfold fX11_isBinding
  have hD8 := T.2.2.2.2.1
  have hb := (N.2.2.1 d (by omega)).2.2
  refine wb1 (r := bI (bt (τ 0 32) d)) (by
    unfold fX11_isOf; rw [bt_shr _ (by omega)]
    cases bt (τ 0 32) d <;> rfl) ?_
  unfold bnS at hQ
  rw [hb] at hQ
  cases hbt : bt (τ 0 32) d with
  | false =>
    rw [hbt] at hQ
    rw [if_pos (show bI false = 0 from rfl)]
    obtain ⟨y, hy, y1, y2⟩ := M_endsWell hF (PB_of T N hd hm) (MP_of T N hd hmo)
    refine wb2 (r := y.1) (u := y.2) hy ?_
    have hz : Q (some (y.1, y.2)) := hQ (y.1, y.2) ⟨by rw [y1]; rfl, y2⟩
    rw [y1] at hz ⊢
    revert hz
    cases efS (σ 2 2) (sf (σ 2 2) (kn0 30 31 σ more d) (kn1 30 31 σ more d) (kdF σ d) (whF σ d) (nsF 33 σ d)) (nS σ d)
    · intro h; exact h
    · intro h; exact h
  | true =>
    rw [hbt] at hQ
    rw [if_neg (show ¬ bI true = 0 by decide)]
    exact hQ _ ⟨rfl, ExM.rfl⟩
theorem M_binding {F : Nat} (hF : 20 ≤ F) {σ τ : St} (T : Told σ τ) (N : Nw 30 31 32 33 σ τ) {more : Int32} (hm : 0 ≤ more ∧ more ≤ 99) (hmo : τ 0 38 = more) :
    ∃ x, fX11_binding F τ = some x ∧ x.1 = qN (bsN (bnS σ more) (nD σ)) ∧ ExM τ x.2 := by
  refine wpI fun Q hQ => ?_
  unfold fX11_binding
  have hD8 := T.2.2.2.2.1
  refine lp_up Q (fun d (v : St × Int32 × Int32) => ExM τ v.1 ∧ v.2.1 = qN d ∧ v.2.2 = qN (bsN (bnS σ more) d)) (nD σ) ?_ F 0 _ (by omega) (by omega) ⟨ExM.rfl, rfl, rfl⟩
  rintro d ⟨u, c, acc⟩ K hd ⟨hE, hc, hacc⟩ hK
  dsimp only at hE hc hacc
  subst hc hacc
  dsimp only
  have Tu := T.fr CE.rfl hE.me
  have Nu := N.fr (by decide) CE.rfl hE.me
  refine wi (fun h => ?_) fun h => ?_
  · rw [hE 5 (by decide) (by decide) (by decide), T.2.2.2.2.2.1, T.2.2.2.1, q_le (by omega) (by omega)] at h
    have : d = nD σ := by omega
    subst this
    exact hQ _ ⟨rfl, hE⟩
  · rw [hE 5 (by decide) (by decide) (by decide), T.2.2.2.2.2.1, T.2.2.2.1, q_le (by omega) (by omega)] at h
    obtain ⟨y, hy, y1, y2⟩ := M_isBinding hF Tu Nu hm (by rw [hE 0 (by decide) (by decide) (by decide)]; exact hmo) (d := d) (by omega)
    refine wb2 (r := y.1) (u := y.2) hy ?_
    cases hbv : bnS σ more d with
    | false =>
      rw [hbv] at y1
      rw [if_pos (show y.1 = 0 from y1)]
      refine wn fun r er => hK _ (by omega) ⟨hE.trans y2, q_add d 1, ?_⟩
      show r = qN (bsN _ (d + 1))
      rw [er, bsN, hbv, Int32.or_zero]; rfl
    | true =>
      rw [hbv] at y1
      rw [if_neg (by rw [show y.1 = 1 from y1]; decide)]
      refine wn fun r er => hK _ (by omega) ⟨hE.trans y2, q_add d 1, ?_⟩
      show r = qN (bsN _ (d + 1))
      rw [er, bsN, hbv, or_pow (by omega) (bsN_lt _ d)]; rfl
theorem C_prepare_2 {F : Nat} (hF : 20 ≤ F) {σ τ : St} (T : Told σ τ) {d : Nat} (hd : d < nD σ) {more : Int32} :
    ∃ x, fX2_prepare_2 F σ (qN d) more = some x ∧ CP x d (nS σ d) (σ 2 2) (kn0 54 55 σ more d) (kn1 54 55 σ more d) (kdF σ d) (whF σ d) (nsF 57 σ d) ∧ (∀ c, c ≠ 66 → c ≠ 71 → x c = σ c) := by
  obtain ⟨t1, t2, t3, t4, t5, t6, t7, t8, t9, t10, t11, t12, t13⟩ := T
  obtain ⟨d1, d2, d3, d4, ⟨a, ha, hav⟩, ⟨b, hb, hbv⟩, d7, d8, d9, d10⟩ := t10 d hd
  have hcl : (qN d).toNatClampNeg = d := q_clamp (by omega)
  have hacl : (qN a).toNatClampNeg = a := q_clamp (by omega)
  have hbcl : (qN b).toNatClampNeg = b := q_clamp (by omega)
  refine wpI fun Q hQ => ?_
  unfold fX2_prepare_2
  refine wn fun u2 e2 => wk (k := d) rfl (by omega) (by omega) (wn fun u4 e4 => ?_)
  have f2 : ∀ c, c ≠ 66 → u2 c = σ c := fun c h => by rw [e2, up_ne _ _ _ h]
  have f4 : ∀ c, c ≠ 66 → u4 c = σ c := fun c h => by rw [e4, up_ne _ _ _ h, f2 c h]
  refine wb1 (r := σ 54 0 - σ 55 d) (by unfold fX9_since_2; rw [ck_ok (by omega) (by omega), hcl, f4 54 (by decide), f4 55 (by decide)]) ?_
  refine wn fun x6 e6 => ?_
  refine wb1 (r := σ 3 a) (by unfold fX0_kneesOf fX0_envoy; rw [if_pos rfl, ck_ok (by omega) (by omega), hcl, f4 4 (by decide), ha, bd1_some, ck_ok (by omega) (by omega), hacl, f4 3 (by decide)]) ?_
  refine wn fun u9 e9 => ?_
  have f9 : ∀ c, c ≠ 66 → u9 c = σ c := fun c h => by rw [e9, up_ne _ _ _ h, f4 c h]
  refine wb1 (r := σ 3 b) (by unfold fX0_kneesOf fX0_envoy; rw [if_neg (by decide), ck_ok (by omega) (by omega), hcl, f9 5 (by decide), hb, bd1_some, ck_ok (by omega) (by omega), hbcl, f9 3 (by decide)]) ?_
  refine wn fun u12 e12 => ?_
  have f12 : ∀ c, c ≠ 66 → u12 c = σ c := fun c h => by rw [e12, up_ne _ _ _ h, f9 c h]
  have g3 : u12 66 3 = qN d := by rw [e12, up_same, upd_ne _ _ (by decide), e9, up_same, upd_ne _ _ (by decide), e4, up_same, upd_ne _ _ (by decide), e2, up_same, upd_same]
  have g4 : u12 66 4 = qN (nS σ d) := by rw [e12, up_same, upd_ne _ _ (by decide), e9, up_same, upd_ne _ _ (by decide), e4, up_same, upd_same, f2 7 (by decide), hcl, d9]
  have g5 : u12 66 5 = kn0 54 55 σ more d := by rw [e12, up_same, upd_ne _ _ (by decide), e9, up_same, upd_same, e6]; unfold kn0; rw [ha, hacl]
  have g6 : u12 66 6 = kn1 54 55 σ more d := by rw [e12, up_same, upd_same, e6]; unfold kn1; rw [hb, hbcl]
  clear e2 e4 e9 e12 f2 f4 f9
  refine lp_up Q (fun i (v : St × Int32) => v.2 = qN i ∧ (∀ c, c ≠ 71 → v.1 c = u12 c) ∧ ∀ k, k < i → v.1 71 k = σ 57 (10 * d + k)) (nS σ d) ?_ F 0 _ (by omega) (by omega) ⟨rfl, fun _ _ => rfl, fun k h => by omega⟩
  rintro i ⟨v, c⟩ K hi ⟨hc, hv, hn⟩ hK
  dsimp only at hc hv hn
  subst hc
  dsimp only
  refine wi (fun h => ?_) fun h => ?_
  · rw [hv 66 (by decide), g4, q_le (by omega) (by omega)] at h
    refine hQ _ ⟨⟨by omega, by rw [hv 66 (by decide), g3], by rw [hv 66 (by decide), g4], by rw [hv 66 (by decide), g5], by rw [hv 66 (by decide), g6], by rw [hv 2 (by decide), f12 2 (by decide)], ?_⟩, ?_⟩
    · intro k hk
      exact ⟨by rw [hv 8 (by decide), f12 8 (by decide)]; rfl, by rw [hv 9 (by decide), f12 9 (by decide)]; rfl, hn k (by omega)⟩
    · intro c h1 h2
      rw [hv c h2, f12 c h1]
  · rw [hv 66 (by decide), g4, q_le (by omega) (by omega)] at h
    refine wb1 (r := qN (10 * d + i)) (by unfold fX10_placeOf; simp only [q_lit]; rw [q_mul, q_add, Nat.mul_comm]) ?_
    refine wk (k := 10 * d + i) rfl (by omega) (by omega) (wk (k := i) rfl (by omega) (by omega) (wn fun u e => ?_))
    rw [q_clamp (by omega), q_clamp (by omega)] at e
    refine hK _ (by omega) ⟨q_add i 1, ?_, ?_⟩
    · intro c h1
      show u c = _
      rw [e, up_ne _ _ _ h1, hv c h1]
    · intro k hk
      show u 71 k = _
      rw [e, up_same]
      by_cases hki : k = i
      · subst hki; rw [upd_same, hv 57 (by decide), f12 57 (by decide)]
      · rw [upd_ne _ _ hki]; exact hn k (by omega)
def bnS_2 (σ : St) (more : Int32) (d : Nat) : Bool := decide (σ 56 d = 0) && efS (σ 2 2) (sf (σ 2 2) (kn0 54 55 σ more d) (kn1 54 55 σ more d) (kdF σ d) (whF σ d) (nsF 57 σ d)) (nS σ d)
theorem bnS_2_fr {σ σ' : St} (e : CE σ σ') (more : Int32) (d : Nat) : bnS_2 σ' more d = bnS_2 σ more d := by
  unfold bnS_2 kn0 kn1 kdF whF nsF
  rw [CE_nS e, e 2 (by decide) (by decide), e 3 (by decide) (by decide), e 4 (by decide) (by decide), e 5 (by decide) (by decide), e 8 (by decide) (by decide), e 9 (by decide) (by decide), e 54 (by decide) (by decide), e 55 (by decide) (by decide), e 56 (by decide) (by decide), e 57 (by decide) (by decide)]
theorem C_bits_2 {F : Nat} (hF : 20 ≤ F) {σ τ : St} (T : Told σ τ) (N : Nw 54 55 56 57 σ τ) {more : Int32} (hm : 0 ≤ more ∧ more ≤ 99) :
    ∃ x, fX2_bindingBits_2 F σ more = some x ∧ x.1 = qN (bsN (bnS_2 σ more) (nD σ)) ∧ CE σ x.2 := by
  refine wpI fun Q hQ => ?_
  unfold fX2_bindingBits_2
  have hD8 := T.2.2.2.2.1
  refine lp_up Q (fun d (v : St × Int32 × Int32) => CE σ v.1 ∧ v.2.1 = qN d ∧ v.2.2 = qN (bsN (bnS_2 σ more) d)) (nD σ) ?_ F 0 _ (by omega) (by omega) ⟨CE.rfl, rfl, rfl⟩
  rintro d ⟨u, c, acc⟩ K hd ⟨hE, hc, hacc⟩ hK
  dsimp only at hE hc hacc
  subst hc hacc
  dsimp only
  have Tu := T.fr hE ME.rfl
  have Nu := N.fr (by decide) hE ME.rfl
  refine wi (fun h => ?_) fun h => ?_
  · rw [hE 2 (by decide) (by decide), T.2.2.2.1, q_le (by omega) (by omega)] at h
    have : d = nD σ := by omega
    subst this
    exact hQ _ ⟨rfl, hE⟩
  · rw [hE 2 (by decide) (by decide), T.2.2.2.1, q_le (by omega) (by omega)] at h
    have hdu : d < nD u := by rw [CE_nD hE]; omega
    obtain ⟨x, hx, xC, xE⟩ := C_prepare_2 hF Tu hdu (more := more)
    refine wb1 hx (wk (k := d) rfl (by omega) (by omega) ?_)
    have xce : CE u x := fun c h1 h2 => xE c (by omega) (by omega)
    rw [q_clamp (by omega)]
    have hbn : bnS_2 σ more d = bnS_2 u more d := (bnS_2_fr hE more d).symm
    refine wi (fun hb => ?_) fun hb => ?_
    · rw [xE 56 (by decide) (by decide)] at hb
      obtain ⟨y, hy, y1, y2⟩ := C_endsFacing hF (PB_of Tu Nu hdu hm) xC
      refine wb2 (r := y.1) (u := y.2) hy ?_
      have hbe : bnS_2 u more d = efS (u 2 2) (sf (u 2 2) (kn0 54 55 u more d) (kn1 54 55 u more d) (kdF u d) (whF u d) (nsF 57 u d)) (nS u d) := by
        unfold bnS_2; rw [decide_eq_true hb, Bool.true_and]
      rw [← hbe, ← hbn] at y1
      cases hbv : bnS_2 σ more d with
      | false =>
        rw [hbv] at y1
        rw [if_pos (show y.1 = 0 from y1)]
        refine hK _ (by omega) ⟨(hE.trans xce).trans y2.ce, q_add d 1, ?_⟩
        show qN _ = qN (bsN _ (d + 1))
        rw [bsN, hbv]; rfl
      | true =>
        rw [hbv] at y1
        rw [if_neg (by rw [show y.1 = 1 from y1]; decide)]
        refine wn fun r er => hK _ (by omega) ⟨(hE.trans xce).trans y2.ce, q_add d 1, ?_⟩
        show r = qN (bsN _ (d + 1))
        rw [er, bsN, hbv, or_pow (by omega) (bsN_lt _ d)]; rfl
    · rw [xE 56 (by decide) (by decide)] at hb
      have hbf : bnS_2 σ more d = false := by
        rw [hbn]; unfold bnS_2; rw [decide_eq_false hb, Bool.false_and]
      refine hK _ (by omega) ⟨hE.trans xce, q_add d 1, ?_⟩
      show qN _ = qN (bsN _ (d + 1))
      rw [bsN, hbf]; rfl
theorem M_isBinding_2 {F : Nat} (hF : 20 ≤ F) {σ τ : St} (T : Told σ τ) (N : Nw 54 55 56 57 σ τ) {more : Int32} (hm : 0 ≤ more ∧ more ≤ 99) (hmo : τ 0 38 = more) {d : Nat} (hd : d < nD σ) :
    ∃ x, fX11_isBinding F τ (qN d) = some x ∧ x.1 = bI (bnS_2 σ more d) ∧ ExM τ x.2 := by
  refine wpI fun Q hQ => ?_
  unfold fX11_isBinding
  have hD8 := T.2.2.2.2.1
  have hb := (N.2.2.1 d (by omega)).2.2
  refine wb1 (r := bI (bt (τ 0 32) d)) (by
    unfold fX11_isOf; rw [bt_shr _ (by omega)]
    cases bt (τ 0 32) d <;> rfl) ?_
  unfold bnS_2 at hQ
  rw [hb] at hQ
  cases hbt : bt (τ 0 32) d with
  | false =>
    rw [hbt] at hQ
    rw [if_pos (show bI false = 0 from rfl)]
    obtain ⟨y, hy, y1, y2⟩ := M_endsWell hF (PB_of T N hd hm) (MP_of T N hd hmo)
    refine wb2 (r := y.1) (u := y.2) hy ?_
    have hz : Q (some (y.1, y.2)) := hQ (y.1, y.2) ⟨by rw [y1]; rfl, y2⟩
    rw [y1] at hz ⊢
    revert hz
    cases efS (σ 2 2) (sf (σ 2 2) (kn0 54 55 σ more d) (kn1 54 55 σ more d) (kdF σ d) (whF σ d) (nsF 57 σ d)) (nS σ d)
    · intro h; exact h
    · intro h; exact h
  | true =>
    rw [hbt] at hQ
    rw [if_neg (show ¬ bI true = 0 by decide)]
    exact hQ _ ⟨rfl, ExM.rfl⟩
theorem M_binding_2 {F : Nat} (hF : 20 ≤ F) {σ τ : St} (T : Told σ τ) (N : Nw 54 55 56 57 σ τ) {more : Int32} (hm : 0 ≤ more ∧ more ≤ 99) (hmo : τ 0 38 = more) :
    ∃ x, fX11_binding F τ = some x ∧ x.1 = qN (bsN (bnS_2 σ more) (nD σ)) ∧ ExM τ x.2 := by
  refine wpI fun Q hQ => ?_
  unfold fX11_binding
  have hD8 := T.2.2.2.2.1
  refine lp_up Q (fun d (v : St × Int32 × Int32) => ExM τ v.1 ∧ v.2.1 = qN d ∧ v.2.2 = qN (bsN (bnS_2 σ more) d)) (nD σ) ?_ F 0 _ (by omega) (by omega) ⟨ExM.rfl, rfl, rfl⟩
  rintro d ⟨u, c, acc⟩ K hd ⟨hE, hc, hacc⟩ hK
  dsimp only at hE hc hacc
  subst hc hacc
  dsimp only
  have Tu := T.fr CE.rfl hE.me
  have Nu := N.fr (by decide) CE.rfl hE.me
  refine wi (fun h => ?_) fun h => ?_
  · rw [hE 5 (by decide) (by decide) (by decide), T.2.2.2.2.2.1, T.2.2.2.1, q_le (by omega) (by omega)] at h
    have : d = nD σ := by omega
    subst this
    exact hQ _ ⟨rfl, hE⟩
  · rw [hE 5 (by decide) (by decide) (by decide), T.2.2.2.2.2.1, T.2.2.2.1, q_le (by omega) (by omega)] at h
    obtain ⟨y, hy, y1, y2⟩ := M_isBinding_2 hF Tu Nu hm (by rw [hE 0 (by decide) (by decide) (by decide)]; exact hmo) (d := d) (by omega)
    refine wb2 (r := y.1) (u := y.2) hy ?_
    cases hbv : bnS_2 σ more d with
    | false =>
      rw [hbv] at y1
      rw [if_pos (show y.1 = 0 from y1)]
      refine wn fun r er => hK _ (by omega) ⟨hE.trans y2, q_add d 1, ?_⟩
      show r = qN (bsN _ (d + 1))
      rw [er, bsN, hbv, Int32.or_zero]; rfl
    | true =>
      rw [hbv] at y1
      rw [if_neg (by rw [show y.1 = 1 from y1]; decide)]
      refine wn fun r er => hK _ (by omega) ⟨hE.trans y2, q_add d 1, ?_⟩
      show r = qN (bsN _ (d + 1))
      rw [er, bsN, hbv, or_pow (by omega) (bsN_lt _ d)]; rfl
