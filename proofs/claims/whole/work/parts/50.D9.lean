set_option linter.unusedVariables false
set_option linter.unusedSimpArgs false
set_option maxRecDepth 16384
/-! limits -/
section
variable {F : Nat} {σ τ : St}
theorem lim_both (hF : 800 ≤ F) (T : Told σ τ) (N : Nw 30 31 32 33 σ τ) {d i s : Nat} (hd : d < nD σ) (hi : i < nS σ d) (hs : s < 2) (t : Int32) :
    ∃ x y, fX6_limitOf F σ (qN d) (qN i) (qN s) t = some x ∧ fX11_limitOf F τ (qN d) (qN i) (qN s) t = some y ∧ x.1 = y.1 ∧ (∀ c, c ≠ 14 → c ≠ 82 → x.2 c = σ c) ∧ (∀ c, c ≠ 24 → c ≠ 25 → y.2 c = τ c) := by
  have hb := T.dd hd
  have hst := T.st hd hi
  have hn := N.2.2.2 d i hd hi
  have hcl : (qN (10 * d + i)).toNatClampNeg = 10 * d + i := q_clamp (by omega)
  unfold fX6_limitOf fX11_limitOf
  rw [pl_c, bd1_some, pl_m]
  simp only [nm, jn, ck_ok (show 10 * d + i < 160 by omega) (show 10 * d + i < 2147483648 by omega), ck_ok (show 10 * d + i < 80 by omega) (show 10 * d + i < 2147483648 by omega), hcl]
  rcases T.2.2.2.2.2.2.2.2.2.2.2.1 with ⟨l1, l2⟩ | ⟨l1, L, hL1, hL, l3, l4, l5, l6⟩
  · rw [if_pos l1, if_pos l2]
    exact ⟨_, _, rfl, rfl, by rw [hn.1], fun _ _ _ => rfl, fun _ _ _ => rfl⟩
  · rw [if_neg (show ¬ σ 2 4 = 0 by rw [l1]; decide), if_neg (show ¬ τ 5 3 = 0 by rw [l4, show (0 : Int32) = qN 0 from rfl, q_eq (by omega) (by omega)]; omega)]
    have key : ∀ h l : Int32, ∃ x y, (bd2 (fX8_worth F (up (up (up (up (up (up σ 82 0 (σ 33 (10 * d + i))) 82 1 (up σ 82 0 (σ 33 (10 * d + i)) 11 (10 * d + i))) 82 2 t) 82 3 h) 82 4 (qN i)) 82 5 l)) fun r14 u15 => some (if 0 < (if r14 < 99 then r14 else 99) then (if r14 < 99 then r14 else 99) else 0, u15)) = some x ∧ (bd2 (fX11_valueNow F (up (up (up (up (up (up τ 24 0 (τ 13 (10 * d + i))) 24 1 (up τ 24 0 (τ 13 (10 * d + i)) 14 (10 * d + i))) 24 2 t) 24 3 h) 24 4 (qN i)) 24 5 l)) fun r14 u15 => some (if 0 < (if r14 < 99 then r14 else 99) then (if r14 < 99 then r14 else 99) else 0, u15)) = some y ∧ x.1 = y.1 ∧ (∀ c, c ≠ 14 → c ≠ 82 → x.2 c = σ c) ∧ (∀ c, c ≠ 24 → c ≠ 25 → y.2 c = τ c) := by
      intro h l
      generalize hu : up (up (up (up (up (up σ 82 0 (σ 33 (10 * d + i))) 82 1 (up σ 82 0 (σ 33 (10 * d + i)) 11 (10 * d + i))) 82 2 t) 82 3 h) 82 4 (qN i)) 82 5 l = u
      generalize hw : up (up (up (up (up (up τ 24 0 (τ 13 (10 * d + i))) 24 1 (up τ 24 0 (τ 13 (10 * d + i)) 14 (10 * d + i))) 24 2 t) 24 3 h) 24 4 (qN i)) 24 5 l = w
      have fu : ∀ c, c ≠ 82 → u c = σ c := by
        intro c hc; rw [← hu]; simp only [up_ne _ _ _ hc]
      have fw : ∀ c, c ≠ 24 → w c = τ c := by
        intro c hc; rw [← hw]; simp only [up_ne _ _ _ hc]
      have hv : ∀ j, j < 6 → w 24 j = u 82 j := by
        intro j hj
        rw [← hu, ← hw]
        rcases (by omega : j = 0 ∨ j = 1 ∨ j = 2 ∨ j = 3 ∨ j = 4 ∨ j = 5) with rfl | rfl | rfl | rfl | rfl | rfl <;> simp [up, upd, hst.2.2.1, hn.1]
      obtain ⟨x, y, hx, hy, hxy, fx, fy⟩ := worth_eq hF hL (by rw [fu 12 (by decide)]; exact l3) (by rw [fw 5 (by decide)]; exact l4) (by rw [fu 13 (by decide), fw 15 (by decide)]; exact l5) (by rw [fu 13 (by decide)]; exact l6) hv
      obtain ⟨x1, x2⟩ := x
      obtain ⟨y1, y2⟩ := y
      dsimp only at hxy fx fy
      subst hxy
      rw [hx, hy]
      exact ⟨_, _, rfl, rfl, rfl, fun c h1 h2 => by show x2 c = _; rw [fx c h1, fu c h2], fun c h1 h2 => by show y2 c = _; rw [fy c h2, fw c h1]⟩
    have hk : up (up (up σ 82 0 (σ 33 (10 * d + i))) 82 1 (up σ 82 0 (σ 33 (10 * d + i)) 11 (10 * d + i))) 82 2 t 8 (10 * d + i) = σ 8 (10 * d + i) := by simp [up]
    have hk' : up (up (up τ 24 0 (τ 13 (10 * d + i))) 24 1 (up τ 24 0 (τ 13 (10 * d + i)) 14 (10 * d + i))) 24 2 t 11 (10 * d + i) = σ 8 (10 * d + i) := by simp [up]; exact hst.1
    simp only [hk, hk']
    by_cases h2 : σ 8 (10 * d + i) = 2
    · simp only [if_pos h2]
      by_cases h3 : qN s = 0
      · simp only [if_pos h3]; exact key 1 1
      · simp only [if_neg h3]; exact key 1 0
    · simp only [if_neg h2]
      by_cases h3 : qN s = 0
      · simp only [if_pos h3]; exact key 0 1
      · simp only [if_neg h3]; exact key 0 0
def limS (F : Nat) (σ : St) (d i s : Nat) (t : Int32) : Int32 := match fX6_limitOf F σ (qN d) (qN i) (qN s) t with
  | none => 0
  | some x => x.1
theorem lim_c (hF : 800 ≤ F) (T : Told σ τ) (N : Nw 30 31 32 33 σ τ) {d i s : Nat} (hd : d < nD σ) (hi : i < nS σ d) (hs : s < 2) (t : Int32) :
    ∃ u, fX6_limitOf F σ (qN d) (qN i) (qN s) t = some (limS F σ d i s t, u) ∧ (∀ c, c ≠ 14 → c ≠ 82 → u c = σ c) := by
  obtain ⟨x, y, hx, hy, hxy, fx, fy⟩ := lim_both hF T N hd hi hs t
  exact ⟨x.2, by unfold limS; rw [hx], fx⟩
theorem lim_m (hF : 800 ≤ F) (T : Told σ τ) (N : Nw 30 31 32 33 σ τ) {d i s : Nat} (hd : d < nD σ) (hi : i < nS σ d) (hs : s < 2) (t : Int32) :
    ∃ w, fX11_limitOf F τ (qN d) (qN i) (qN s) t = some (limS F σ d i s t, w) ∧ (∀ c, c ≠ 24 → c ≠ 25 → w c = τ c) := by
  obtain ⟨x, y, hx, hy, hxy, fx, fy⟩ := lim_both hF T N hd hi hs t
  exact ⟨y.2, by unfold limS; rw [hx]; show _ = some (x.1, y.2); rw [hxy]; exact hy, fy⟩
theorem lim_fr {σ' : St} (hF : 800 ≤ F) (T : Told σ τ) (N : Nw 30 31 32 33 σ τ) (e : CE σ σ') {d i s : Nat} (hd : d < nD σ) (hi : i < nS σ d) (hs : s < 2) (t : Int32) : limS F σ' d i s t = limS F σ d i s t := by
  obtain ⟨w, hw, _⟩ := lim_m hF T N hd hi hs t
  obtain ⟨w', hw', _⟩ := lim_m hF (T.fr e ME.rfl) (N.fr (by decide) e ME.rfl) (d := d) (i := i) (s := s) (by rw [CE_nD e]; exact hd) (by rw [CE_nS e]; exact hi) hs t
  rw [hw] at hw'
  injection hw' with hw'
  injection hw' with h1 h2
  exact h1.symm
theorem bdS_fr {σ' : St} (e : CE σ σ') (d i s : Nat) : bdS σ' d i s = bdS σ d i s := by
  unfold bdS glS clS ofS
  rw [CE_nS e, e 8 (by decide) (by decide), e 9 (by decide) (by decide), e 11 (by decide) (by decide), e 33 (by decide) (by decide)]
/-- the least limit of the first n steps -/
def leS (F : Nat) (σ : St) (d s : Nat) (a : Int32) : Nat → Int32
  | 0 => -1
  | n + 1 => if bdS σ d n s = true ∧ σ 11 (10 * d + n) = a then (if leS F σ d s a n = -1 then limS F σ d n s (σ 6 d) else if leS F σ d s a n ≤ limS F σ d n s (σ 6 d) then leS F σ d s a n else limS F σ d n s (σ 6 d)) else leS F σ d s a n
theorem leS_fr {σ' : St} (hF : 800 ≤ F) (T : Told σ τ) (N : Nw 30 31 32 33 σ τ) (e : CE σ σ') {d s : Nat} (hd : d < nD σ) (hs : s < 2) (a : Int32) : ∀ n, n ≤ nS σ d → leS F σ' d s a n = leS F σ d s a n := by
  intro n
  induction n with
  | zero => intro _; rfl
  | succ n ih =>
    intro hn
    rw [leS, leS, ih (by omega), bdS_fr e, e 11 (by decide) (by decide), e 6 (by decide) (by decide), lim_fr hF T N e hd (by omega) hs]
theorem row_q (d s a : Nat) : (qN d * 2 + qN s) * 8 + qN a = qN ((d * 2 + s) * 8 + a) := by
  simp only [q_lit]; rw [q_mul, q_add, q_mul, q_add]
theorem C_weigh (hF : 800 ≤ F) (T : Told σ τ) (N : Nw 30 31 32 33 σ τ) {d s : Nat} (hd : d < nD σ) (hs : s < 2) (h0 : ∀ a, a < 8 → σ 83 ((d * 2 + s) * 8 + a) = -1) :
    ∃ u, fX6_weigh F σ (qN d) (qN s) = some u ∧ CE σ u ∧ (∀ a, a < 8 → u 83 ((d * 2 + s) * 8 + a) = leS F σ d s (qN a) (nS σ d)) ∧ (∀ j, (∀ a, a < 8 → j ≠ (d * 2 + s) * 8 + a) → u 83 j = σ 83 j) := by
  refine wpI fun Q hQ => ?_
  have hb := T.dd hd
  have hn := (T.dn hd).2.2.2.2.2.2.2.2.1
  have hcd : (qN d).toNatClampNeg = d := q_clamp (by omega)
  unfold fX6_weigh
  refine lp_up Q (fun i (v : St × Int32) => v.2 = qN i ∧ CE σ v.1 ∧ (∀ a, a < 8 → v.1 83 ((d * 2 + s) * 8 + a) = leS F σ d s (qN a) i) ∧ (∀ j, (∀ a, a < 8 → j ≠ (d * 2 + s) * 8 + a) → v.1 83 j = σ 83 j)) (nS σ d) ?_ F 0 _ (by omega) (by omega) ⟨rfl, CE.rfl, h0, fun _ _ => rfl⟩
  rintro i ⟨v, c⟩ K hi ⟨hc, hE, hle, hot⟩ hK
  dsimp only at hc hE hle hot
  subst hc
  dsimp only
  have Tv := T.fr hE ME.rfl
  have Nv := N.fr (by decide) hE ME.rfl
  refine wk (k := d) rfl (by omega) (by omega) ?_
  rw [hcd]
  refine wi (fun h => ?_) fun h => ?_
  · rw [hE 7 (by decide) (by decide), hn, q_le (by omega) (by omega)] at h
    have : i = nS σ d := by omega
    subst this
    exact hQ _ ⟨hE, hle, hot⟩
  · rw [hE 7 (by decide) (by decide), hn, q_le (by omega) (by omega)] at h
    have hdv : d < nD v := by rw [CE_nD hE]; exact hd
    have hiv : i < nS v d := by rw [CE_nS hE]; omega
    refine wb1 (C_isBoundBy (by omega) Tv hdv hiv) ?_
    rw [bdS_fr hE]
    cases hbd : bdS σ d i s with
    | false =>
      rw [if_pos (show bI false = 0 from rfl)]
      refine hK _ (by omega) ⟨q_add i 1, hE, ?_, hot⟩
      intro a ha
      show v 83 _ = leS F σ d s (qN a) (i + 1)
      rw [leS, if_neg (by rw [hbd]; intro h; exact absurd h.1 (by decide))]
      exact hle a ha
    | true =>
      rw [if_neg (show ¬ bI true = 0 by decide)]
      have hcl : (qN (10 * d + i)).toNatClampNeg = 10 * d + i := q_clamp (by omega)
      refine wb1 (pl_c d i) (wk (k := 10 * d + i) rfl (by omega) (by omega) ?_)
      obtain ⟨a, ha, ha8⟩ := (T.st hd (show i < nS σ d by omega)).2.2.2.2.2
      rw [hcl, hE 11 (by decide) (by decide), hE 6 (by decide) (by decide), ha]
      refine wb1 (r := qN ((d * 2 + s) * 8 + a)) (by unfold fX6_rowOf; rw [row_q]) (wk (k := d) rfl (by omega) (by omega) ?_)
      obtain ⟨u, hu, fu⟩ := lim_c hF Tv Nv hdv hiv hs (σ 6 d)
      rw [lim_fr hF T N hE hd (by omega) hs] at hu
      refine wb2 hu (wk (k := (d * 2 + s) * 8 + a) rfl (by omega) (by omega) ?_)
      have hcr : (qN ((d * 2 + s) * 8 + a)).toNatClampNeg = (d * 2 + s) * 8 + a := q_clamp (by omega)
      simp only [hcr]
      have huE : CE σ u := hE.trans fun c h1 h2 => fu c (by omega) (by omega)
      have hu83 : u 83 ((d * 2 + s) * 8 + a) = leS F σ d s (qN a) i := by rw [fu 83 (by decide) (by decide)]; exact hle a ha8
      have hfin : ∀ u' : St, CE σ u' → u' 83 ((d * 2 + s) * 8 + a) = leS F σ d s (qN a) (i + 1) → (∀ j, j ≠ (d * 2 + s) * 8 + a → u' 83 j = v 83 j) → Q (K (u', qN i + 1)) := by
        intro u' e1 e2 e3
        refine hK _ (by omega) ⟨q_add i 1, e1, ?_, ?_⟩
        · intro b hb8
          show u' 83 _ = _
          by_cases hba : b = a
          · subst hba; exact e2
          · rw [e3 _ (by omega), hle b hb8]
            show _ = leS F σ d s (qN b) (i + 1)
            rw [leS, if_neg]
            rw [ha]; intro h; exact hba ((q_eq (by omega) (by omega)).1 h.2).symm
        · intro j hj
          show u' 83 j = _
          rw [e3 j (hj a ha8)]; exact hot j hj
      have hleS : leS F σ d s (qN a) (i + 1) = if leS F σ d s (qN a) i = -1 then limS F σ d i s (σ 6 d) else if leS F σ d s (qN a) i ≤ limS F σ d i s (σ 6 d) then leS F σ d s (qN a) i else limS F σ d i s (σ 6 d) := by
        rw [leS, if_pos ⟨hbd, ha⟩]
      refine wi (fun c1 => ?_) fun c1 => ?_
      · rw [hu83] at c1
        refine wk (k := (d * 2 + s) * 8 + a) rfl (by omega) (by omega) (wn fun u' eu' => hfin u' ?_ ?_ ?_)
        · rw [eu']; exact huE.trans (CE_up (.inl (by decide)))
        · rw [eu', up_same, upd_same, hleS, if_pos c1]
        · intro j hj; rw [eu', up_same, upd_ne _ _ hj, fu 83 (by decide) (by decide)]
      · rw [hu83] at c1
        refine wk (k := (d * 2 + s) * 8 + a) rfl (by omega) (by omega) (wi (fun c2 => ?_) fun c2 => ?_)
        · rw [hu83] at c2
          exact hfin u huE (by rw [hu83, hleS, if_neg c1, if_pos c2]) (fun j hj => by rw [fu 83 (by decide) (by decide)])
        · rw [hu83] at c2
          refine wk (k := (d * 2 + s) * 8 + a) rfl (by omega) (by omega) (wn fun u' eu' => hfin u' ?_ ?_ ?_)
          · rw [eu']; exact huE.trans (CE_up (.inl (by decide)))
          · rw [eu', up_same, upd_same, hleS, if_neg c1, if_neg c2]
          · intro j hj; rw [eu', up_same, upd_ne _ _ hj, fu 83 (by decide) (by decide)]
end
