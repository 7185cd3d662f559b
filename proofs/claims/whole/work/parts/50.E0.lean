set_option linter.unusedVariables false
set_option linter.unusedSimpArgs false
set_option maxRecDepth 16384
/-! who is bound to how much -/
theorem bt_q {m : Nat} (e : Nat) (he : e < 32) : bt (qN m) e = m.testBit e := by
  show (BitVec.ofNat 32 m).getLsbD e = _
  rw [BitVec.getLsbD_ofNat]
  simp [he]
theorem bsN_bit (f : Nat → Bool) : ∀ {n d : Nat}, d < n → (bsN f n).testBit d = f d := by
  intro n
  induction n with
  | zero => intro d h; omega
  | succ n ih =>
    intro d hd
    rw [bsN]
    by_cases hdn : d = n
    · subst hdn
      cases hf : f d with
      | false => rw [if_neg (by decide), Nat.add_zero]; exact Nat.testBit_lt_two_pow (bsN_lt f d)
      | true =>
        rw [if_pos rfl, Nat.add_comm, Nat.testBit_two_pow_add_eq, Nat.testBit_lt_two_pow (bsN_lt f d)]; rfl
    · split
      · rw [Nat.add_comm, Nat.testBit_two_pow_add_gt (by omega)]; exact ih (by omega)
      · rw [Nat.add_zero]; exact ih (by omega)
theorem bs_shr (f : Nat → Bool) {n d : Nat} (hd : d < n) (hn : n ≤ 8) : (qN (bsN f n) >>> (qN d &&& 31)) &&& 1 = bI (f d) := by
  rw [bt_shr _ (by omega), bt_q _ (by omega), bsN_bit f hd]; rfl
section
variable {F : Nat} {σ τ : St}
theorem C_fill4 (hF : 200 ≤ F) (x : Int32) : ∃ u, fJ7_fill_53178_4 F σ x = some u ∧ (∀ c, c ≠ 83 → u c = σ c) ∧ (∀ j, j < 128 → u 83 j = x) := by
  refine wpI fun Q hQ => ?_
  unfold fJ7_fill_53178_4
  refine lp_up Q (fun i (v : St × Int32) => v.2 = qN i ∧ (∀ c, c ≠ 83 → v.1 c = σ c) ∧ (∀ j, j < i → v.1 83 j = x)) 128 ?_ F 0 _ (by omega) (by omega) ⟨rfl, fun _ _ => rfl, fun j h => by omega⟩
  rintro i ⟨v, c⟩ K hi ⟨hc, hE, hx⟩ hK
  dsimp only at hc hE hx
  subst hc
  dsimp only
  refine wi (fun h => ?_) fun h => ?_
  · rw [show (128 : Int32) = qN 128 from rfl, q_le (by omega) (by omega)] at h
    exact hQ _ ⟨hE, fun j hj => hx j (by omega)⟩
  · rw [show (128 : Int32) = qN 128 from rfl, q_le (by omega) (by omega)] at h
    refine wk (k := i) rfl (by omega) (by omega) (wn fun u e => ?_)
    rw [q_clamp (by omega)] at e
    refine hK _ (by omega) ⟨q_add i 1, ?_, ?_⟩
    · intro c hc; show u c = _; rw [e, up_ne _ _ _ hc, hE c hc]
    · intro j hj
      show u 83 j = _
      rw [e, up_same]
      by_cases hji : j = i
      · subst hji; rw [upd_same]
      · rw [upd_ne _ _ hji]; exact hx j (by omega)
def WtS (F : Nat) (σ : St) (f : Nat → Bool) (u : St) : Prop := ∀ d s a, d < nD σ → s < 2 → a < 8 → u 83 ((d * 2 + s) * 8 + a) = if f d then leS F σ d s (qN a) (nS σ d) else -1
theorem C_weighAll (hF : 800 ≤ F) (T : Told σ τ) (N : Nw 30 31 32 33 σ τ) (f : Nat → Bool) : ∃ u, fX6_weighAll F σ (qN (bsN f (nD σ))) = some u ∧ CE σ u ∧ WtS F σ f u := by
  refine wpI fun Q hQ => ?_
  have hD := T.2.2.2.2.1
  unfold fX6_weighAll
  obtain ⟨u1, hu1, fu1, xu1⟩ := C_fill4 (σ := σ) (F := F) (by omega) (-1)
  refine wb1 hu1 ?_
  have hE1 : CE σ u1 := fun c h1 h2 => fu1 c (by omega)
  refine lp_up Q (fun d (v : St × Int32) => v.2 = qN d ∧ CE σ v.1 ∧ ∀ e s a, e < nD σ → s < 2 → a < 8 → v.1 83 ((e * 2 + s) * 8 + a) = if e < d ∧ f e = true then leS F σ e s (qN a) (nS σ e) else -1) (nD σ) ?_ F 0 _ (by omega) (by omega) ⟨rfl, hE1, fun e s a he hs ha => by
    rw [if_neg (by omega)]; exact xu1 _ (by omega)⟩
  rintro d ⟨v, c⟩ K hd ⟨hc, hE, hw⟩ hK
  dsimp only at hc hE hw
  subst hc
  dsimp only
  have Tv := T.fr hE ME.rfl
  have Nv := N.fr (by decide) hE ME.rfl
  refine wi (fun h => ?_) fun h => ?_
  · rw [hE 2 (by decide) (by decide), T.2.2.2.1, q_le (by omega) (by omega)] at h
    refine hQ _ ⟨hE, ?_⟩
    intro e s a he hs ha
    rw [hw e s a he hs ha]
    by_cases hfe : f e = true
    · rw [if_pos ⟨by omega, hfe⟩, if_pos hfe]
    · rw [if_neg (fun h => hfe h.2), if_neg hfe]
  · rw [hE 2 (by decide) (by decide), T.2.2.2.1, q_le (by omega) (by omega)] at h
    have hdn : d < nD σ := by omega
    have hdv : d < nD v := by rw [CE_nD hE]; exact hdn
    rw [bs_shr f hdn hD]
    cases hf : f d with
    | false =>
      rw [if_pos (show bI false = 0 from rfl)]
      refine hK _ hdn ⟨q_add d 1, hE, ?_⟩
      intro e s a he hs ha
      show v 83 _ = _
      rw [hw e s a he hs ha]
      by_cases hed : e = d
      · subst hed; rw [if_neg (by omega), if_neg (by rw [hf]; intro h; exact absurd h.2 (by decide))]
      · by_cases hc : e < d ∧ f e = true
        · rw [if_pos hc, if_pos ⟨by omega, hc.2⟩]
        · rw [if_neg hc, if_neg (fun h => hc ⟨by omega, h.2⟩)]
    | true =>
      rw [if_neg (show ¬ bI true = 0 by decide)]
      obtain ⟨x, hx, xE, x1, x2⟩ := C_weigh hF Tv Nv hdv (s := 0) (by decide) (fun a ha => by rw [hw d 0 a hdn (by decide) ha, if_neg (by omega)])
      refine wb1 hx ?_
      have Tx := Tv.fr xE ME.rfl
      have Nx := Nv.fr (by decide) xE ME.rfl
      obtain ⟨y, hy, yE, y1, y2⟩ := C_weigh hF Tx Nx (d := d) (s := 1) (by rw [CE_nD xE]; exact hdv) (by decide) (fun a ha => by
        rw [x2 _ (by intro b hb; omega), hw d 1 a hdn (by decide) ha, if_neg (by omega)])
      refine wb1 hy ?_
      refine hK _ hdn ⟨q_add d 1, (hE.trans xE).trans yE, ?_⟩
      intro e s a he hs ha
      show y 83 _ = _
      by_cases hed : e = d
      · subst hed
        rw [if_pos ⟨by omega, hf⟩]
        rcases (by omega : s = 0 ∨ s = 1) with rfl | rfl
        · rw [y2 _ (by intro b hb; omega), x1 a ha, CE_nS hE, leS_fr hF T N hE hdn (by decide) _ _ (Nat.le_refl _)]
        · rw [y1 a ha, CE_nS xE, CE_nS hE, leS_fr hF T N (hE.trans xE) hdn (by decide) _ _ (Nat.le_refl _)]
      · rw [y2 _ (by intro b hb; omega), x2 _ (by intro b hb; omega), hw e s a he hs ha]
        by_cases hc : e < d ∧ f e = true
        · rw [if_pos hc, if_pos ⟨by omega, hc.2⟩]
        · rw [if_neg hc, if_neg (fun h => hc ⟨by omega, h.2⟩)]
def roS (σ : St) (d : Nat) (v : Int32) : Option Nat := if σ 4 d = v then some 0 else if σ 5 d = v then some 1 else none
theorem ro_lt {d : Nat} {v : Int32} {s : Nat} (h : roS σ d v = some s) : s < 2 := by
  unfold roS at h
  split at h
  · injection h with h; omega
  · split at h
    · injection h with h; omega
    · cases h
theorem C_sideOf {d : Nat} (hd : d < 8) (v : Int32) : fX6_sideOf F σ (qN d) v = some (nO (roS σ d v)) := by
  unfold fX6_sideOf roS
  rw [ck_ok (by omega) (by omega), ck_ok (by omega) (by omega), q_clamp (by omega)]
  split
  · rfl
  · split <;> rfl
theorem M_roleOf (T : Told σ τ) {d : Nat} (hd : d < nD σ) (v : Int32) : fX11_roleOf F τ v (qN d) = some (nO (roS σ d v)) := by
  have hb := T.dd hd
  have hn := T.dn hd
  unfold fX11_roleOf roS
  rw [ck_ok (by omega) (by omega), ck_ok (by omega) (by omega), q_clamp (by omega), hn.1, hn.2.1]
  split
  · rfl
  · split <;> rfl
theorem nO_none {o : Option Nat} (h : ∀ s, o = some s → s < 2) : (nO o = -1) ↔ o = none := by
  cases o with
  | none => exact ⟨fun _ => rfl, fun _ => rfl⟩
  | some i =>
    constructor
    · intro hh; exact ((q_neg1 (by have := h i rfl; omega)).1 hh).elim
    · intro hh; cases hh
def lvS (F : Nat) (σ : St) (f : Nat → Bool) (v : Int32) (a d : Nat) : Int32 := match roS σ d v with
  | none => -1
  | some s => if f d then leS F σ d s (qN a) (nS σ d) else -1
def boS (F : Nat) (σ : St) (f : Nat → Bool) (v : Int32) (a : Nat) : Nat → Int32
  | 0 => -1
  | d + 1 => if lvS F σ f v a d = -1 then boS F σ f v a d else if boS F σ f v a d = -1 then lvS F σ f v a d else if boS F σ f v a d ≤ lvS F σ f v a d then boS F σ f v a d else lvS F σ f v a d
theorem roS_fr {σ' : St} (e : CE σ σ') (d : Nat) (v : Int32) : roS σ' d v = roS σ d v := by
  unfold roS; rw [e 4 (by decide) (by decide), e 5 (by decide) (by decide)]
theorem C_boundTo {u : St} (hF : 800 ≤ F) (T : Told σ τ) {f : Nat → Bool} (e : CE σ u) (hw : WtS F σ f u) (v : Int32) {a : Nat} (ha : a < 8) : fX6_boundTo F u v (qN a) = some (boS F σ f v a (nD σ)) := by
  refine wpE fun Q hQ => ?_
  have hD := T.2.2.2.2.1
  unfold fX6_boundTo
  refine lp_up Q (fun d (z : Int32 × Int32) => z.1 = qN d ∧ z.2 = boS F σ f v a d) (nD σ) ?_ F 0 _ (by omega) (by omega) ⟨rfl, rfl⟩
  rintro d ⟨c, acc⟩ K hd ⟨hc, hacc⟩ hK
  dsimp only at hc hacc
  subst hc hacc
  dsimp only
  refine wi (fun h => ?_) fun h => ?_
  · rw [e 2 (by decide) (by decide), T.2.2.2.1, q_le (by omega) (by omega)] at h
    have : d = nD σ := by omega
    subst this; exact hQ
  · rw [e 2 (by decide) (by decide), T.2.2.2.1, q_le (by omega) (by omega)] at h
    have hdn : d < nD σ := by omega
    refine wb1 (C_sideOf (by omega) v) (wj fun J hJ => ?_)
    rw [roS_fr e]
    have hfin : Q (J (lvS F σ f v a d)) := by
      rw [hJ]
      have hnx : ∀ z, z = boS F σ f v a (d + 1) → Q (K (qN d + 1, z)) := fun z hz => hK _ hdn ⟨q_add d 1, hz⟩
      refine wi (fun c1 => hnx _ (by rw [boS, if_pos c1])) fun c1 => ?_
      refine wi (fun c2 => hnx _ (by rw [boS, if_neg c1, if_pos c2])) fun c2 => ?_
      exact wi (fun c3 => hnx _ (by rw [boS, if_neg c1, if_neg c2, if_pos c3])) fun c3 => hnx _ (by rw [boS, if_neg c1, if_neg c2, if_neg c3])
    cases hr : roS σ d v with
    | none =>
      rw [if_pos (show nO none = -1 from rfl)]
      unfold lvS at hfin; rw [hr] at hfin; exact hfin
    | some s =>
      have hs := ro_lt hr
      rw [if_neg (by rw [nO_none (by intro s' h'; injection h' with h'; omega)]; intro h; cases h)]
      refine wb1 (r := qN ((d * 2 + s) * 8 + a)) (by unfold fX6_rowOf; rw [show nO (some s) = qN s from rfl, row_q]) ?_
      refine wk (k := (d * 2 + s) * 8 + a) rfl (by omega) (by omega) ?_
      rw [q_clamp (by omega), hw d s a hdn hs ha]
      unfold lvS at hfin; rw [hr] at hfin; exact hfin
theorem M_leastBy (hF : 800 ≤ F) (T : Told σ τ) (N : Nw 30 31 32 33 σ τ) {d : Nat} (hd : d < nD σ) (v : Int32) (a : Nat) (ha : a < 8) :
    ∃ x, fX11_leastBy F τ (qN d) v (qN a) = some x ∧ x.1 = (match roS σ d v with | none => -1 | some s => leS F σ d s (qN a) (nS σ d)) ∧ (∀ c, c ≠ 24 → c ≠ 25 → x.2 c = τ c) := by
  refine wpI fun Q hQ => ?_
  have hb := T.dd hd
  have hn := (T.dn hd).2.2.2.2.2.2.2.2.1
  have hn4 := (T.dn hd).2.2.2.1
  have hcd : (qN d).toNatClampNeg = d := q_clamp (by omega)
  unfold fX11_leastBy
  refine wb1 (M_roleOf T hd v) ?_
  cases hr : roS σ d v with
  | none =>
    rw [hr] at hQ
    obtain ⟨G, rfl⟩ : ∃ G, F = G + 1 := ⟨F - 1, by omega⟩
    rw [lp.eq_2]
    dsimp only
    refine wk (k := d) rfl (by omega) (by omega) ?_
    refine wi (fun _ => hQ _ ⟨rfl, fun _ _ _ => rfl⟩) fun _ => ?_
    rw [if_pos (show nO none = -1 from rfl)]
    exact hQ _ ⟨rfl, fun _ _ _ => rfl⟩
  | some s =>
    rw [hr] at hQ
    have hs := ro_lt hr
    have hns : ¬ nO (some s) = -1 := by rw [nO_none (by intro s' h'; injection h' with h'; omega)]; intro h; cases h
    refine lp_up Q (fun i (z : St × Int32 × Int32) => z.2.1 = qN i ∧ (∀ c, c ≠ 24 → c ≠ 25 → z.1 c = τ c) ∧ z.2.2 = leS F σ d s (qN a) i) (nS σ d) ?_ F 0 _ (by omega) (by omega) ⟨rfl, fun _ _ _ => rfl, rfl⟩
    rintro i ⟨w, c, acc⟩ K hi ⟨hc, hE, hacc⟩ hK
    dsimp only at hc hE hacc
    subst hc hacc
    dsimp only
    have hM : ME τ w := ⟨fun c hc => by have := okM_ne hc; exact hE c (by omega) (by omega), fun j _ _ => by rw [hE 0 (by decide) (by decide)]⟩
    have Tw := T.fr CE.rfl hM
    have Nw' := N.fr (by decide) CE.rfl hM
    refine wk (k := d) rfl (by omega) (by omega) ?_
    rw [hcd]
    refine wi (fun h => ?_) fun h => ?_
    · rw [hE 10 (by decide) (by decide), hn4, hn, q_le (by omega) (by omega)] at h
      have : i = nS σ d := by omega
      subst this
      exact hQ _ ⟨rfl, hE⟩
    · rw [hE 10 (by decide) (by decide), hn4, hn, q_le (by omega) (by omega)] at h
      rw [if_neg hns]
      have hst := T.st hd (show i < nS σ d by omega)
      have hcl : (qN (10 * d + i)).toNatClampNeg = 10 * d + i := q_clamp (by omega)
      rw [pl_m]
      refine wk (k := 10 * d + i) rfl (by omega) (by omega) ?_
      rw [hcl]
      have hnx : ∀ w' z, (∀ c, c ≠ 24 → c ≠ 25 → w' c = τ c) → z = leS F σ d s (qN a) (i + 1) → Q (K (w', qN i + 1, z)) := fun w' z e1 e2 => hK _ (by omega) ⟨q_add i 1, e1, e2⟩
      refine wi (fun c1 => ?_) fun c1 => ?_
      · rw [hE 14 (by decide) (by decide), hst.2.2.1] at c1
        refine wb1 (M_binds (by omega) Tw Nw' hd (by omega)) ?_
        cases hbd : bdS σ d i s with
        | false =>
          rw [if_pos (show bI false = 0 from rfl)]
          exact hnx _ _ hE (by rw [leS, if_neg (by rw [hbd]; intro h; exact absurd h.1 (by decide))])
        | true =>
          rw [if_neg (show ¬ bI true = 0 by decide)]
          refine wk (k := d) rfl (by omega) (by omega) ?_
          rw [hE 9 (by decide) (by decide), (T.dn hd).2.2.1]
          obtain ⟨w', hw', fw'⟩ := lim_m hF Tw Nw' hd (show i < nS σ d by omega) hs (σ 6 d)
          refine wb2 hw' ?_
          have hE' : ∀ c, c ≠ 24 → c ≠ 25 → w' c = τ c := fun c h1 h2 => (fw' c h1 h2).trans (hE c h1 h2)
          have hle : leS F σ d s (qN a) (i + 1) = if leS F σ d s (qN a) i = -1 then limS F σ d i s (σ 6 d) else if leS F σ d s (qN a) i ≤ limS F σ d i s (σ 6 d) then leS F σ d s (qN a) i else limS F σ d i s (σ 6 d) := by
            rw [leS, if_pos ⟨hbd, c1⟩]
          refine wi (fun c2 => hnx _ _ hE' (by rw [hle, if_pos c2])) fun c2 => ?_
          refine wn fun z ez => hnx _ _ hE' ?_
          rw [hle, if_neg c2, ez]
          by_cases c3 : leS F σ d s (qN a) i ≤ limS F σ d i s (σ 6 d)
          · rw [if_pos c3, if_neg (by grind)]
          · rw [if_neg c3, if_pos (by grind)]
      · rw [hE 14 (by decide) (by decide), hst.2.2.1] at c1
        exact hnx _ _ hE (by rw [leS, if_neg (fun h => c1 h.2)])
theorem M_boundBy (hF : 800 ≤ F) (T : Told σ τ) (N : Nw 30 31 32 33 σ τ) (f : Nat → Bool) (v : Int32) (a : Nat) (ha : a < 8) :
    ∃ x, fX11_boundBy F τ (qN (bsN f (nD σ))) v (qN a) = some x ∧ x.1 = boS F σ f v a (nD σ) ∧ (∀ c, c ≠ 24 → c ≠ 25 → x.2 c = τ c) := by
  refine wpI fun Q hQ => ?_
  have hD := T.2.2.2.2.1
  unfold fX11_boundBy
  refine lp_up Q (fun d (z : St × Int32 × Int32) => z.2.1 = qN d ∧ (∀ c, c ≠ 24 → c ≠ 25 → z.1 c = τ c) ∧ z.2.2 = boS F σ f v a d) (nD σ) ?_ F 0 _ (by omega) (by omega) ⟨rfl, fun _ _ _ => rfl, rfl⟩
  rintro d ⟨w, c, acc⟩ K hd ⟨hc, hE, hacc⟩ hK
  dsimp only at hc hE hacc
  subst hc hacc
  dsimp only
  have hM : ME τ w := ⟨fun c hc => by have := okM_ne hc; exact hE c (by omega) (by omega), fun j _ _ => by rw [hE 0 (by decide) (by decide)]⟩
  have Tw := T.fr CE.rfl hM
  have Nw' := N.fr (by decide) CE.rfl hM
  refine wi (fun h => ?_) fun h => ?_
  · rw [hE 5 (by decide) (by decide), T.2.2.2.2.2.1, T.2.2.2.1, q_le (by omega) (by omega)] at h
    have : d = nD σ := by omega
    subst this; exact hQ _ ⟨rfl, hE⟩
  · rw [hE 5 (by decide) (by decide), T.2.2.2.2.2.1, T.2.2.2.1, q_le (by omega) (by omega)] at h
    have hdn : d < nD σ := by omega
    refine wb1 (r := bI (f d)) (by unfold fX11_isOf; rw [bs_shr f hdn hD]; cases f d <;> rfl) (wj fun J hJ => ?_)
    have hfin : ∀ w', (∀ c, c ≠ 24 → c ≠ 25 → w' c = τ c) → Q (J (w', lvS F σ f v a d)) := by
      intro w' hw'
      rw [hJ]
      dsimp only
      have hnx : ∀ z, z = boS F σ f v a (d + 1) → Q (K (w', qN d + 1, z)) := fun z hz => hK _ hdn ⟨q_add d 1, hw', hz⟩
      refine wi (fun c1 => hnx _ (by rw [boS, if_pos c1])) fun c1 => ?_
      refine wi (fun c2 => hnx _ (by rw [boS, if_neg c1, if_pos c2])) fun c2 => ?_
      refine wn fun z ez => hnx z ?_
      rw [boS, if_neg c1, if_neg c2, ez]
      by_cases c3 : boS F σ f v a d ≤ lvS F σ f v a d
      · rw [if_pos c3, if_neg (by grind)]
      · rw [if_neg c3, if_pos (by grind)]
    unfold lvS at hfin
    cases hf : f d with
    | false =>
      rw [if_pos (show bI false = 0 from rfl)]
      have := hfin w hE
      cases hr : roS σ d v with
      | none => rw [hr] at this; exact this
      | some s => rw [hr, hf] at this; exact this
    | true =>
      rw [if_neg (show ¬ bI true = 0 by decide)]
      obtain ⟨x, hx, x1, x2⟩ := M_leastBy hF Tw Nw' hdn v a ha
      refine wb2 (r := x.1) (u := x.2) hx ?_
      have := hfin x.2 (fun c h1 h2 => (x2 c h1 h2).trans (hE c h1 h2))
      rw [x1]
      cases hr : roS σ d v with
      | none => rw [hr] at this; exact this
      | some s => rw [hr, hf] at this; exact this
end
