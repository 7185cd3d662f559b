set_option linter.unusedVariables false
set_option linter.unusedSimpArgs false
set_option maxRecDepth 16384
/-! contradictions -/
theorem anyN_iff {f : Nat → Bool} : ∀ {n : Nat}, anyN f n = true ↔ ∃ k, k < n ∧ f k = true := by
  intro n
  induction n with
  | zero => exact ⟨fun h => absurd (show false = true from h) (by decide), fun ⟨k, hk, _⟩ => absurd hk (by omega)⟩
  | succ n ih =>
    rw [anyN, Bool.or_eq_true, ih]
    constructor
    · rintro (⟨k, hk, e⟩ | h)
      · exact ⟨k, by omega, e⟩
      · exact ⟨n, by omega, h⟩
    · rintro ⟨k, hk, e⟩
      by_cases hkn : k = n
      · subst hkn; exact .inr e
      · exact .inl ⟨k, by omega, e⟩
theorem anyN_f {f : Nat → Bool} {n : Nat} (h : ∀ k, k < n → f k = false) : anyN f n = false := by
  cases ha : anyN f n with
  | false => rfl
  | true =>
    obtain ⟨k, hk, e⟩ := anyN_iff.1 ha
    rw [h k hk] at e; cases e
theorem sh_pow {D : Nat} (h : D ≤ 8) : (1 : Int32) <<< (qN D &&& 31) = qN (2 ^ D) := by
  have : ∀ D : Fin 9, (1 : Int32) <<< (qN D.1 &&& 31) = qN (2 ^ D.1) := by decide
  exact this ⟨D, by omega⟩
theorem pow256 {D : Nat} (h : D ≤ 8) : 2 ^ D ≤ 256 := by
  have : ∀ D : Fin 9, 2 ^ D.1 ≤ 256 := by decide
  exact this ⟨D, by omega⟩
theorem pow_pos' {D : Nat} : 1 ≤ 2 ^ D := Nat.one_le_two_pow
theorem pc_tb (m : Nat) : pcN m = cnN (fun i => m.testBit i) 8 := by
  unfold pcN
  simp only [cnN, Nat.testBit_eq_decide_div_mod_eq, decide_eq_true_eq]
  have h : ∀ x : Nat, x % 2 = if x % 2 = 1 then 1 else 0 := by intro x; split <;> omega
  rw [h m, h (m / 2), h (m / 4), h (m / 8), h (m / 16), h (m / 32), h (m / 64), h (m / 128)]
  simp
theorem cn_ext {f g : Nat → Bool} {n : Nat} : ∀ m, (∀ k, k < n → f k = g k) → (∀ k, n ≤ k → k < n + m → f k = false) → cnN f (n + m) = cnN g n := by
  intro m
  induction m with
  | zero => intro h _; exact cn_cg n h
  | succ m ih =>
    intro h h2
    rw [show n + (m + 1) = (n + m) + 1 by omega, cnN, ih h (fun k a b => h2 k a (by omega)), h2 (n + m) (by omega) (by omega)]; rfl
theorem pc_bs (g : Nat → Bool) {n : Nat} (hn : n ≤ 8) : pcN (bsN g n) = cnN g n := by
  rw [pc_tb, show 8 = n + (8 - n) by omega]
  refine cn_ext _ (fun k hk => bsN_bit g hk) (fun k hk _ => ?_)
  exact Nat.testBit_lt_two_pow (Nat.lt_of_lt_of_le (bsN_lt g n) (Nat.pow_le_pow_right (by decide) hk))
theorem pc_all {D x : Nat} (h : D ≤ 8) (hx : x < 2 ^ D - 1) : pcN x < pcN (2 ^ D - 1) := by
  have : ∀ D : Fin 9, ∀ x : Fin 256, x.1 < 2 ^ D.1 - 1 → pcN x.1 < pcN (2 ^ D.1 - 1) := by decide +kernel
  exact this ⟨D, by omega⟩ ⟨x, by have := pow256 h; omega⟩ hx
section
variable {F : Nat} {σ τ : St}
def lwS (F : Nat) (σ : St) (d s k : Nat) : Int32 := if bnS σ 0 d then leS F σ d s (qN k) (nS σ d) else -1
def evS (σ : St) (d s : Nat) : Int32 := if s = 0 then σ 4 d else σ 5 d
def ngB (x y : Int32) : Bool := !decide (x = -1) && (!decide (y = -1) && !decide (x = y))
def agK (F : Nat) (σ : St) (a b st k : Nat) : Bool := ngB (lwS F σ a (st / 2) k) (lwS F σ b (st % 2) k)
def agB (F : Nat) (σ : St) (a b : Nat) : Bool := anyN (fun st => decide (evS σ a (st / 2) = evS σ b (st % 2)) && anyN (agK F σ a b st) 8) 4
theorem ng_if {R : Type} {x y : Int32} {p q : R} : (if x = -1 then p else if y = -1 then p else if x = y then p else q) = if ngB x y then q else p := by
  unfold ngB
  by_cases h1 : x = -1
  · rw [if_pos h1, decide_eq_true h1]; rfl
  · rw [if_neg h1, decide_eq_false h1]
    by_cases h2 : y = -1
    · rw [if_pos h2, decide_eq_true h2]; rfl
    · rw [if_neg h2, decide_eq_false h2]
      by_cases h3 : x = y
      · rw [if_pos h3, decide_eq_true h3]; rfl
      · rw [if_neg h3, decide_eq_false h3]; rfl
theorem C_leastOf {u : St} (hD : nD σ ≤ 8) (hw : WtS F σ (bnS σ 0) u) {d s k : Nat} (hd : d < nD σ) (hs : s < 2) (hk : k < 8) : fX6_leastOf F u (qN d) (qN s) (qN k) = some (lwS F σ d s k) := by
  unfold fX6_leastOf fX6_rowOf
  rw [row_q, bd1_some, ck_ok (by omega) (by omega), q_clamp (by omega), hw d s k hd hs hk]; rfl
theorem C_envoy {u : St} (e : CE σ u) {d s : Nat} (hd : d < 8) (hs : s < 2) : fX0_envoy F u (qN d) (qN s) = some (evS σ d s) := by
  unfold fX0_envoy evS
  rcases (by omega : s = 0 ∨ s = 1) with rfl | rfl
  · rw [if_pos (show qN 0 = 0 from rfl), if_pos rfl, ck_ok (by omega) (by omega), q_clamp (by omega), e 4 (by decide) (by decide)]
  · rw [if_neg (show ¬ qN 1 = 0 by decide), if_neg (by decide), ck_ok (by omega) (by omega), q_clamp (by omega), e 5 (by decide) (by decide)]
theorem C_contradict {u : St} (hF : 800 ≤ F) (T : Told σ τ) (e : CE σ u) (hw : WtS F σ (bnS σ 0) u) {a b : Nat} (ha : a < nD σ) (hb : b < nD σ) : fX1_contradict F u (qN a) (qN b) = some (bI (agB F σ a b)) := by
  have hD := T.2.2.2.2.1
  refine wpE fun Q hQ => ?_
  unfold fX1_contradict
  refine lp_up Q (fun st (v : Int32) => v = qN st ∧ anyN (fun st => decide (evS σ a (st / 2) = evS σ b (st % 2)) && anyN (agK F σ a b st) 8) st = false) 4 ?_ F 0 _ (by omega) (by omega) ⟨rfl, rfl⟩
  rintro st v K hst ⟨rfl, hno⟩ hK
  by_cases h4 : st = 4
  · subst h4
    rw [if_pos (by decide)]
    unfold agB at hQ
    rw [hno] at hQ; exact hQ
  · have hst' : st < 4 := by omega
    rw [if_neg (by rw [show (4 : Int32) = qN 4 from rfl, q_le (by omega) (by omega)]; omega)]
    refine wn fun x4 e4 => wn fun x5 e5 => ?_
    have h4' : x4 = qN (st / 2) := by
      rw [e4]
      have : ∀ s : Fin 4, qN s.1 >>> ((1 : Int32) &&& 31) = qN (s.1 / 2) := by decide
      exact this ⟨st, hst'⟩
    have h5' : x5 = qN (st % 2) := by
      rw [e5]
      have : ∀ s : Fin 4, qN s.1 &&& 1 = qN (s.1 % 2) := by decide
      exact this ⟨st, hst'⟩
    subst h4' h5'
    refine wb1 (C_envoy e (by omega) (by omega)) (wb1 (C_envoy e (by omega) (by omega)) ?_)
    have hstep : (decide (evS σ a (st / 2) = evS σ b (st % 2)) && anyN (agK F σ a b st) 8) = false → Q (K (qN st + 1)) := by
      intro hh
      exact hK _ hst' ⟨q_add st 1, by rw [anyN, hno, hh]; rfl⟩
    refine wi (fun c1 => ?_) fun c1 => hstep (by rw [decide_eq_false c1, Bool.false_and])
    refine lp_up Q (fun k (v : Int32) => v = qN k ∧ anyN (agK F σ a b st) k = false) 8 ?_ F 0 _ (by omega) (by omega) ⟨rfl, rfl⟩
    rintro k v K2 hk ⟨rfl, hnk⟩ hK2
    by_cases h8 : k = 8
    · subst h8
      rw [if_pos (by decide)]
      exact hstep (by rw [hnk, Bool.and_false])
    · have hk' : k < 8 := by omega
      rw [if_neg (by rw [show (8 : Int32) = qN 8 from rfl, q_le (by omega) (by omega)]; omega)]
      refine wb1 (C_leastOf hD hw ha (by omega) hk') (wb1 (C_leastOf hD hw hb (by omega) hk') ?_)
      rw [ng_if]
      have hak : ngB (lwS F σ a (st / 2) k) (lwS F σ b (st % 2) k) = agK F σ a b st k := rfl
      rw [hak]
      cases hg : agK F σ a b st k with
      | false =>
        rw [if_neg (by decide)]
        exact hK2 _ hk' ⟨q_add k 1, by rw [anyN, hnk, hg]; rfl⟩
      | true =>
        rw [if_pos rfl]
        have : agB F σ a b = true := by
          unfold agB
          exact anyN_iff.2 ⟨st, hst', by rw [decide_eq_true c1, Bool.true_and]; exact anyN_iff.2 ⟨k, hk', hg⟩⟩
        rw [this] at hQ; exact hQ
theorem ro_ev (T : Told σ τ) {d s : Nat} (hd : d < nD σ) (hs : s < 2) : roS σ d (evS σ d s) = some s := by
  have := (T.dn hd).2.2.2.2.2.2.1
  unfold roS evS
  rcases (by omega : s = 0 ∨ s = 1) with rfl | rfl
  · rw [if_pos rfl, if_pos rfl]
  · rw [if_neg (show ¬ (1 : Nat) = 0 by decide), if_neg this, if_pos rfl]
theorem ro_of {d : Nat} {v : Int32} {s : Nat} (h : roS σ d v = some s) : evS σ d s = v := by
  unfold roS at h
  unfold evS
  split at h
  · next h1 => injection h with h; subst h; rw [if_pos rfl]; exact h1
  · split at h
    · next h2 => injection h with h; subst h; rw [if_neg (by decide)]; exact h2
    · cases h
theorem M_isAgainst (hF : 800 ≤ F) (R : Rl σ τ) {w : St} (e : MqE τ w) {a b : Nat} (ha : a < nD σ) (hb : b < nD σ) :
    ∃ w', fX11_isAgainst F w (qN (bsN (bnS σ 0) (nD σ))) (qN a) (qN b) = some (bI (agB F σ a b), w') ∧ (∀ c, c ≠ 24 → c ≠ 25 → w' c = w c) := by
  have T := R.2.1
  have hD := T.2.2.2.2.1
  have hV := T.2.1
  have hof : ∀ d, d < nD σ → fX11_isOf F w (qN (bsN (bnS σ 0) (nD σ))) (qN d) = some (bI (bnS σ 0 d)) := fun d hd => by
    unfold fX11_isOf; rw [bs_shr _ hd hD]; cases bnS σ 0 d <;> rfl
  have hm : ∃ x, fX11_isAgainst F w (qN (bsN (bnS σ 0) (nD σ))) (qN a) (qN b) = some x ∧ x.1 = bI (agB F σ a b) ∧ (∀ c, c ≠ 24 → c ≠ 25 → x.2 c = w c) := by
    refine wpI fun Q hQ => ?_
    unfold fX11_isAgainst
    refine wb1 (hof a ha) ?_
    have hnone : (bnS σ 0 a = false ∨ bnS σ 0 b = false) → agB F σ a b = false := by
      intro hor
      unfold agB
      refine anyN_f (fun st _ => ?_)
      rw [anyN_f (f := agK F σ a b st) (fun k _ => ?_), Bool.and_false]
      unfold agK lwS ngB
      rcases hor with h | h
      · rw [h, if_neg (by decide)]; rfl
      · rw [h, if_neg (show ¬ false = true by decide)]; simp
    cases hfa : bnS σ 0 a with
    | false => exact wiT (show bI false = 0 from rfl) (hQ _ ⟨by rw [hnone (.inl hfa)]; rfl, fun _ _ _ => rfl⟩)
    | true =>
      refine wiF (show ¬ bI true = 0 by decide) (wb1 (hof b hb) ?_)
      cases hfb : bnS σ 0 b with
      | false => exact wiT (show bI false = 0 from rfl) (hQ _ ⟨by rw [hnone (.inr hfb)]; rfl, fun _ _ _ => rfl⟩)
      | true =>
        refine wiF (show ¬ bI true = 0 by decide) ?_
        have hlw : ∀ d s k, bnS σ 0 d = true → lwS F σ d s k = leS F σ d s (qN k) (nS σ d) := fun d s k h => by unfold lwS; rw [h, if_pos rfl]
        let rk : Nat → Nat → Bool := fun v k => ngB (match roS σ a (qN v) with | none => -1 | some s => leS F σ a s (qN k) (nS σ a)) (match roS σ b (qN v) with | none => -1 | some s => leS F σ b s (qN k) (nS σ b))
        have hrk : ∀ v k, rk v k = ngB (match roS σ a (qN v) with | none => -1 | some s => leS F σ a s (qN k) (nS σ a)) (match roS σ b (qN v) with | none => -1 | some s => leS F σ b s (qN k) (nS σ b)) := fun _ _ => rfl
        have hto : ∀ v k, v < nV σ → k < 8 → rk v k = true → agB F σ a b = true := by
          intro v k hv hk h
          rw [hrk] at h
          cases hra : roS σ a (qN v) with
          | none => rw [hra] at h; exact absurd h (by unfold ngB; simp)
          | some s =>
            cases hrb : roS σ b (qN v) with
            | none => rw [hra, hrb] at h; exact absurd h (by unfold ngB; simp)
            | some t =>
              rw [hra, hrb] at h
              have hs := ro_lt hra
              have ht := ro_lt hrb
              unfold agB
              refine anyN_iff.2 ⟨2 * s + t, by omega, ?_⟩
              rw [show (2 * s + t) / 2 = s by omega, show (2 * s + t) % 2 = t by omega, ro_of hra, ro_of hrb, decide_eq_true rfl, Bool.true_and]
              refine anyN_iff.2 ⟨k, hk, ?_⟩
              unfold agK
              rw [show (2 * s + t) / 2 = s by omega, show (2 * s + t) % 2 = t by omega, hlw _ _ _ hfa, hlw _ _ _ hfb]
              exact h
        have hfrom : (∀ v, v < nV σ → anyN (rk v) 8 = false) → agB F σ a b = false := by
          intro hall
          cases hag : agB F σ a b with
          | false => rfl
          | true =>
            exfalso
            unfold agB at hag
            obtain ⟨st, hst, h1⟩ := anyN_iff.1 hag
            rw [Bool.and_eq_true, decide_eq_true_eq] at h1
            obtain ⟨k, hk, h2⟩ := anyN_iff.1 h1.2
            obtain ⟨v, hv, hvn⟩ : ∃ v, evS σ a (st / 2) = qN v ∧ v < nV σ := by
              have := T.dn ha
              unfold evS
              split
              · exact this.2.2.2.2.1
              · exact this.2.2.2.2.2.1
            have hra : roS σ a (qN v) = some (st / 2) := by rw [← hv]; exact ro_ev T ha (by omega)
            have hrb : roS σ b (qN v) = some (st % 2) := by rw [← hv, h1.1]; exact ro_ev T hb (by omega)
            have : rk v k = true := by
              rw [hrk, hra, hrb]
              unfold agK at h2
              rw [hlw _ _ _ hfa, hlw _ _ _ hfb] at h2
              exact h2
            have h3 := anyN_iff.2 ⟨k, hk, this⟩
            rw [hall v hvn] at h3; cases h3
        refine lp_up Q (fun v (z : St × Int32) => (∀ c, c ≠ 24 → c ≠ 25 → z.1 c = w c) ∧ z.2 = qN v ∧ (∀ v', v' < v → anyN (rk v') 8 = false)) (nV σ) ?_ F 0 _ (by omega) (by omega) ⟨fun _ _ _ => rfl, rfl, fun v' h => absurd h (by omega)⟩
        rintro v ⟨z, c⟩ K hv ⟨hz, hc, hprev⟩ hK
        dsimp only at hz hc
        subst hc
        dsimp only
        have h5 : z 5 0 = qN (nV σ) := by rw [hz 5 (by decide) (by decide), e 5 rfl, T.2.2.1, T.1]
        by_cases hvV : v = nV σ
        · refine wiT (by rw [h5, hvV]; exact Int32.le_refl _) (hQ _ ⟨?_, hz⟩)
          rw [hfrom (fun v' h => hprev v' (by omega))]; rfl
        · have hv' : v < nV σ := by omega
          refine wiF (by rw [h5, q_le (by omega) (by omega)]; omega) ?_
          refine lp_up Q (fun k (z : St × Int32) => (∀ c, c ≠ 24 → c ≠ 25 → z.1 c = w c) ∧ z.2 = qN k ∧ anyN (rk v) k = false) 8 ?_ F 0 _ (by omega) (by omega) ⟨hz, rfl, rfl⟩
          rintro k ⟨y, c⟩ K2 hk ⟨hy, hc, hnk⟩ hK2
          dsimp only at hy hc
          subst hc
          dsimp only
          by_cases h8 : k = 8
          · subst h8
            refine wiT (by decide) (hK _ hv' ⟨hy, q_add v 1, fun v'' h'' => ?_⟩)
            by_cases hvv : v'' = v
            · subst hvv; exact hnk
            · exact hprev v'' (by omega)
          · have hk' : k < 8 := by omega
            refine wiF (by rw [show (8 : Int32) = qN 8 from rfl, q_le (by omega) (by omega)]; omega) ?_
            have ey : MqE τ y := e.trans (mq_of hy)
            obtain ⟨x1, hx1, g1, f1⟩ := M_leastBy hF (T.fr CE.rfl ey.me) (R.nw.fr (by decide) CE.rfl ey.me) ha (qN v) k hk'
            refine wb2 (r := x1.1) (u := x1.2) hx1 ?_
            have hy1 : ∀ c, c ≠ 24 → c ≠ 25 → x1.2 c = w c := fun c c1 c2 => by rw [f1 c c1 c2]; exact hy c c1 c2
            have ey1 : MqE τ x1.2 := e.trans (mq_of hy1)
            obtain ⟨x2, hx2, g2, f2⟩ := M_leastBy hF (T.fr CE.rfl ey1.me) (R.nw.fr (by decide) CE.rfl ey1.me) hb (qN v) k hk'
            refine wb2 (r := x2.1) (u := x2.2) hx2 ?_
            have hy2 : ∀ c, c ≠ 24 → c ≠ 25 → x2.2 c = w c := fun c c1 c2 => by rw [f2 c c1 c2]; exact hy1 c c1 c2
            have hrk' : ngB x1.1 x2.1 = rk v k := (congrArg (fun z => ngB z x2.1) g1).trans (congrArg (fun z => ngB (match roS σ a (qN v) with | none => -1 | some s => leS F σ a s (qN k) (nS σ a)) z) g2)
            rw [ng_if, hrk']
            cases hg : rk v k with
            | false =>
              rw [if_neg (by decide)]
              exact hK2 _ hk' ⟨hy2, q_add k 1, by rw [anyN, hnk, hg]; rfl⟩
            | true =>
              rw [if_pos rfl]
              exact hQ _ ⟨by rw [hto v k hv' hk' hg]; rfl, hy2⟩
  obtain ⟨x, hx, x1, x2⟩ := hm
  exact ⟨x.2, by rw [hx, ← x1], x2⟩
end
