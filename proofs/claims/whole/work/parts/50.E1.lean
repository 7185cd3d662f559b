set_option linter.unusedVariables false
set_option linter.unusedSimpArgs false
set_option maxRecDepth 16384
/-! how many bits -/
def pcN (m : Nat) : Nat := m % 2 + m / 2 % 2 + m / 4 % 2 + m / 8 % 2 + m / 16 % 2 + m / 32 % 2 + m / 64 % 2 + m / 128 % 2
theorem C_bitCount {F : Nat} {σ : St} {m : Nat} (hm : m < 256) : fJ6_bitCount_0f7a4 F σ (qN m) = some (qN (pcN m)) := by
  have h : ∀ m : Fin 256, fJ6_bitCount_0f7a4 0 (fun _ _ => 0) (qN m.1) = some (qN (pcN m.1)) := by decide
  exact h ⟨m, hm⟩
theorem pc_step : ∀ m : Fin 256, m.1 ≠ 0 → qN m.1 &&& (qN m.1 - 1) = qN (m.1 &&& (m.1 - 1)) ∧ pcN m.1 = pcN (m.1 &&& (m.1 - 1)) + 1 ∧ (m.1 &&& (m.1 - 1)) < m.1 := by decide
theorem pc_le : ∀ m : Fin 256, pcN m.1 ≤ 8 := by decide
theorem M_bitsOf {F : Nat} (hF : 20 ≤ F) {τ : St} {m : Nat} (hm : m < 256) : fX11_bitsOf F τ (qN m) = some (qN (pcN m)) := by
  refine wpE fun Q hQ => ?_
  unfold fX11_bitsOf
  have hp8 := pc_le ⟨m, hm⟩
  refine lp_up Q (fun k (v : Int32 × Int32) => ∃ n c, n < 256 ∧ v.1 = qN n ∧ v.2 = qN c ∧ pcN n + c = pcN m ∧ c = k) (pcN m) ?_ F 0 _ (by omega) (by simp only at hp8; omega) ⟨m, 0, hm, rfl, rfl, rfl, rfl⟩
  rintro k ⟨a, b⟩ K hk ⟨n, c, hn, ha, hb, hs, hck⟩ hK
  dsimp only at ha hb
  subst ha hb
  dsimp only
  refine wi (fun h => ?_) fun h => ?_
  · rw [show (0 : Int32) = qN 0 from rfl, q_eq (by omega) (by omega)] at h
    subst h
    have : c = pcN m := by rw [← hs]; show c = 0 + c; omega
    rw [this]; exact hQ
  · rw [show (0 : Int32) = qN 0 from rfl, q_eq (by omega) (by omega)] at h
    have := pc_step ⟨n, hn⟩ h
    simp only at this
    refine wn fun x ex => hK _ (by omega) ⟨n &&& (n - 1), c + 1, by omega, by rw [ex, this.1], q_add c 1, by omega, by omega⟩
theorem bs256 {f : Nat → Bool} {n : Nat} (hn : n ≤ 8) : bsN f n < 256 := by
  have h1 := bsN_lt f n
  have : 2 ^ n ≤ 2 ^ 8 := Nat.pow_le_pow_right (by decide) hn
  omega
/-! stamped -/
section
variable {F : Nat} {σ τ : St}
theorem Rl.dn {σ τ : St} (R : Rl σ τ) {k : Nat} (hk : k < 48) : τ 19 k = σ 34 k ∧ 0 ≤ σ 34 k ∧ σ 34 k ≤ 9999 := by
  have := R.2.2.1.1.2.2.2.2 k hk
  refine ⟨?_, this.2⟩
  refine Eq.trans ?_ this.1
  show _ = rowM τ _
  unfold rowM
  rw [if_neg (by omega), if_neg (by omega), if_neg (by omega), if_neg (by omega)]; congr 1; omega
def hsS (F : Nat) (σ : St) (f : Nat → Bool) (v a : Nat) (x : Int32) : Bool := !decide (boS F σ f (qN v) a (nD σ) = -1) && !decide (σ 34 (v * 8 + a) + x ≤ boS F σ f (qN v) a (nD σ))
theorem C_hasStamped {u : St} (hF : 800 ≤ F) (T : Told σ τ) {f : Nat → Bool} (e : CE σ u) (hw : WtS F σ f u) {v a : Nat} (hv : v < 6) (ha : a < 8) (x : Int32) : fX6_hasStamped F u (qN v) (qN a) x = some (bI (hsS F σ f v a x)) := by
  unfold fX6_hasStamped
  have h8 : qN v * 8 + qN a = qN (v * 8 + a) := by simp only [q_lit]; rw [q_mul, q_add]
  rw [C_boundTo hF T e hw _ ha, bd1_some, h8, ck_ok (by omega) (by omega), q_clamp (by omega), e 34 (by decide) (by decide)]
  unfold hsS
  generalize boS F σ f (qN v) a (nD σ) = b
  by_cases h1 : b = -1
  · rw [if_pos h1, decide_eq_true h1]; rfl
  · rw [if_neg h1, decide_eq_false h1]
    by_cases h2 : σ 34 (v * 8 + a) + x ≤ b
    · rw [if_pos h2, decide_eq_true h2]; rfl
    · rw [if_neg h2, decide_eq_false h2]; rfl
theorem M_hasStamped (hF : 800 ≤ F) (T : Told σ τ) (N : Nw 30 31 32 33 σ τ) (f : Nat → Bool) {v a : Nat} (hv : v < 6) (ha : a < 8) {y x : Int32} (hy : y = σ 34 (v * 8 + a) + x) :
    ∃ w, fX11_hasStamped F τ (qN (bsN f (nD σ))) (qN v) (qN a) y = some (bI (hsS F σ f v a x), w) ∧ (∀ c, c ≠ 24 → c ≠ 25 → w c = τ c) := by
  obtain ⟨z, hz, z1, z2⟩ := M_boundBy hF T N f (qN v) a ha
  refine ⟨z.2, ?_, z2⟩
  unfold fX11_hasStamped
  have hz' : fX11_boundBy F τ (qN (bsN f (nD σ))) (qN v) (qN a) = some (boS F σ f (qN v) a (nD σ), z.2) := by rw [hz, ← z1]
  rw [hz', bd2_some, hy]
  unfold hsS
  generalize boS F σ f (qN v) a (nD σ) = b
  by_cases h1 : b = -1
  · rw [if_pos h1, decide_eq_true h1]; rfl
  · rw [if_neg h1, decide_eq_false h1]
    by_cases h2 : σ 34 (v * 8 + a) + x ≤ b
    · rw [if_pos h2, decide_eq_true h2]; rfl
    · rw [if_neg h2, decide_eq_false h2]; rfl
def cnN (f : Nat → Bool) : Nat → Nat
  | 0 => 0
  | n + 1 => cnN f n + (if f n then 1 else 0)
theorem cn_le (f : Nat → Bool) : ∀ n, cnN f n ≤ n := by
  intro n
  induction n with
  | zero => exact Nat.le_refl 0
  | succ n ih => rw [cnN]; split <;> omega
theorem C_countStamped {u : St} (hF : 800 ≤ F) (T : Told σ τ) {f : Nat → Bool} (e : CE σ u) (hw : WtS F σ f u) : fX6_countStamped F u = some (qN (cnN (fun v => anyN (fun a => hsS F σ f v a 0) 8) (nV σ))) := by
  refine wpE fun Q hQ => ?_
  have hV := T.2.1
  unfold fX6_countStamped
  refine lp_up Q (fun v (z : Int32 × Int32) => z.1 = qN v ∧ z.2 = qN (cnN (fun v => anyN (fun a => hsS F σ f v a 0) 8) v)) (nV σ) ?_ F 0 _ (by omega) (by omega) ⟨rfl, rfl⟩
  rintro v ⟨c, acc⟩ K hv ⟨hc, hacc⟩ hK
  dsimp only at hc hacc
  subst hc hacc
  dsimp only
  refine wi (fun h => ?_) fun h => ?_
  · rw [e 2 (by decide) (by decide), T.1, q_le (by omega) (by omega)] at h
    have : v = nV σ := by omega
    subst this; exact hQ
  · rw [e 2 (by decide) (by decide), T.1, q_le (by omega) (by omega)] at h
    refine lp_up Q (fun a (z : Int32 × Int32) => z.1 = qN a ∧ z.2 = bI (anyN (fun a => hsS F σ f v a 0) a)) 8 ?_ F 0 _ (by omega) (by omega) ⟨rfl, rfl⟩
    rintro a ⟨c, st⟩ K2 ha ⟨hc, hst⟩ hK2
    dsimp only at hc hst
    subst hc hst
    dsimp only
    refine wi (fun h8 => ?_) fun h8 => ?_
    · rw [show (8 : Int32) = qN 8 from rfl, q_le (by omega) (by omega)] at h8
      have : a = 8 := by omega
      subst this
      cases hb : anyN (fun a => hsS F σ f v a 0) 8 with
      | false =>
        rw [if_pos (show bI false = 0 from rfl)]
        refine wn fun x ex => hK _ (by omega) ⟨q_add v 1, ?_⟩
        show x = _
        rw [ex, cnN, hb]; exact q_add _ 0
      | true =>
        rw [if_neg (show ¬ bI true = 0 by decide)]
        refine wn fun x ex => hK _ (by omega) ⟨q_add v 1, ?_⟩
        show x = _
        rw [ex, cnN, hb]; exact q_add _ 1
    · rw [show (8 : Int32) = qN 8 from rfl, q_le (by omega) (by omega)] at h8
      cases hb : anyN (fun a => hsS F σ f v a 0) a with
      | false =>
        rw [if_pos (show bI false = 0 from rfl)]
        refine wb1 (C_hasStamped hF T e hw (by omega) (by omega) 0) ?_
        cases hb2 : hsS F σ f v a 0 with
        | false =>
          rw [if_pos (show bI false = 0 from rfl)]
          exact hK2 _ (by omega) ⟨q_add a 1, by rw [anyN, hb, hb2]; rfl⟩
        | true =>
          rw [if_neg (show ¬ bI true = 0 by decide)]
          exact hK2 _ (by omega) ⟨q_add a 1, by rw [anyN, hb, hb2]; rfl⟩
      | true =>
        rw [if_neg (show ¬ bI true = 0 by decide)]
        exact hK2 _ (by omega) ⟨q_add a 1, by rw [anyN, hb]; rfl⟩
theorem me_of {w : St} (hE : ∀ c, c ≠ 24 → c ≠ 25 → w c = τ c) : ME τ w := ⟨fun c hc => by have := okM_ne hc; exact hE c (by omega) (by omega), fun j _ _ => by rw [hE 0 (by decide) (by decide)]⟩
theorem mq_of {w : St} (hE : ∀ c, c ≠ 24 → c ≠ 25 → w c = τ c) : MqE τ w := fun c hc => by have := okQ_ne hc; exact hE c (by omega) (by omega)
theorem M_stamped (hF : 800 ≤ F) (R : Rl σ τ) :
    ∃ x, fX11_stamped F τ = some x ∧ x.1 = qN (cnN (fun v => anyN (fun a => hsS F σ (bnS σ 0) v a 0) 8) (nV σ)) ∧ MqE τ x.2 := by
  refine wpI fun Q hQ => ?_
  have T := R.2.1
  have N := R.nw
  have hV := T.2.1
  unfold fX11_stamped
  obtain ⟨y, hy, y1, y2⟩ := M_binding (F := F) (by omega) T N (more := 0) (by decide) R.2.2.2.2.1
  refine wb2 (r := y.1) (u := y.2) hy ?_
  rw [y1]
  refine lp_up Q (fun v (z : St × Int32 × Int32) => z.2.1 = qN v ∧ MqE τ z.1 ∧ z.2.2 = qN (cnN (fun v => anyN (fun a => hsS F σ (bnS σ 0) v a 0) 8) v)) (nV σ) ?_ F 0 _ (by omega) (by omega) ⟨rfl, y2.mq, rfl⟩
  rintro v ⟨w, c, acc⟩ K hv ⟨hc, hE, hacc⟩ hK
  dsimp only at hc hE hacc
  subst hc hacc
  dsimp only
  refine wi (fun h => ?_) fun h => ?_
  · rw [hE 5 rfl, T.2.2.1, T.1, q_le (by omega) (by omega)] at h
    have : v = nV σ := by omega
    subst this; exact hQ _ ⟨rfl, hE⟩
  · rw [hE 5 rfl, T.2.2.1, T.1, q_le (by omega) (by omega)] at h
    refine lp_up Q (fun a (z : St × Int32 × Int32) => z.2.1 = qN a ∧ MqE τ z.1 ∧ z.2.2 = bI (anyN (fun a => hsS F σ (bnS σ 0) v a 0) a)) 8 ?_ F 0 _ (by omega) (by omega) ⟨rfl, hE, rfl⟩
    rintro a ⟨z, c, st⟩ K2 ha ⟨hc, hz, hst⟩ hK2
    dsimp only at hc hz hst
    subst hc hst
    dsimp only
    refine wi (fun h8 => ?_) fun h8 => ?_
    · rw [show (8 : Int32) = qN 8 from rfl, q_le (by omega) (by omega)] at h8
      have : a = 8 := by omega
      subst this
      cases hb : anyN (fun a => hsS F σ (bnS σ 0) v a 0) 8 with
      | false =>
        rw [if_pos (show bI false = 0 from rfl)]
        refine wn fun x ex => hK _ (by omega) ⟨q_add v 1, hz, ?_⟩
        show x = _
        rw [ex, cnN, hb]; exact q_add _ 0
      | true =>
        rw [if_neg (show ¬ bI true = 0 by decide)]
        refine wn fun x ex => hK _ (by omega) ⟨q_add v 1, hz, ?_⟩
        show x = _
        rw [ex, cnN, hb]; exact q_add _ 1
    · rw [show (8 : Int32) = qN 8 from rfl, q_le (by omega) (by omega)] at h8
      cases hb : anyN (fun a => hsS F σ (bnS σ 0) v a 0) a with
      | false =>
        rw [if_pos (show bI false = 0 from rfl)]
        have h8' : (8 : Int32) * qN v + qN a = qN (v * 8 + a) := by simp only [q_lit]; rw [q_mul, q_add, Nat.mul_comm]
        rw [h8']
        refine wk (k := v * 8 + a) rfl (by omega) (by omega) ?_
        rw [q_clamp (by omega), hz 19 rfl, (R.dn (by omega)).1]
        have Tz := T.fr CE.rfl hz.me
        have Nz := N.fr (by decide) CE.rfl hz.me
        obtain ⟨w', hw', fw'⟩ := M_hasStamped hF Tz Nz (bnS σ 0) (v := v) (a := a) (by omega) (by omega) (x := 0) (y := σ 34 (v * 8 + a)) (by rw [Int32.add_zero])
        refine wb2 hw' ?_
        have hz' : MqE τ w' := hz.trans (mq_of fw')
        cases hb2 : hsS F σ (bnS σ 0) v a 0 with
        | false =>
          rw [if_pos (show bI false = 0 from rfl)]
          exact hK2 _ (by omega) ⟨q_add a 1, hz', by rw [anyN, hb, hb2]; rfl⟩
        | true =>
          rw [if_neg (show ¬ bI true = 0 by decide)]
          exact hK2 _ (by omega) ⟨q_add a 1, hz', by rw [anyN, hb, hb2]; rfl⟩
      | true =>
        rw [if_neg (show ¬ bI true = 0 by decide)]
        exact hK2 _ (by omega) ⟨q_add a 1, hz, by rw [anyN, hb]; rfl⟩
end
