set_option linter.unusedVariables false
set_option linter.unusedSimpArgs false
set_option maxRecDepth 16384
/-! where both are on the floor: one walk of both sides -/
abbrev Po : Type := Int32 × Int32 × Int32 × Int32 × Int32 × Int32
def goS (fl dx dy ox oy : Int32) : Nat → Int32 → Int32 → Option (Int32 × Int32)
  | 0, x, y => some (x, y)
  | n + 1, x, y => if 0 ≤ x + dx ∧ x + dx < fl ∧ 0 ≤ y + dy ∧ y + dy < fl ∧ ¬(x + dx = ox ∧ y + dy = oy) then goS fl dx dy ox oy n (x + dx) (y + dy) else none
def ph1 (fl w : Int32) (f0 : Nat) (p : Po) : Option Po := if w = 2 ∨ w = 0 then (goS fl (dAL p.2.2.1.toNatClampNeg) (dDN p.2.2.1.toNatClampNeg) p.2.2.2.1 p.2.2.2.2.1 f0 p.1 p.2.1).map (fun q => (q.1, q.2, p.2.2)) else some p
def ph2 (fl w : Int32) (f1 : Nat) (p : Po) : Option Po := if w = 2 ∨ w = 1 then (goS fl (dAL p.2.2.2.2.2.toNatClampNeg) (dDN p.2.2.2.2.2.toNatClampNeg) p.1 p.2.1 f1 p.2.2.2.1 p.2.2.2.2.1).map (fun q => (p.1, p.2.1, p.2.2.1, q.1, q.2, p.2.2.2.2.2)) else some p
def phS (fl w : Int32) (f0 f1 : Nat) (p : Po) : Nat → Option Po
  | 0 => some p
  | 1 => ph1 fl w f0 p
  | _ => (ph1 fl w f0 p).bind (ph2 fl w f1)
def advS (fl w : Int32) (f0 f1 : Nat) (p : Po) : Option Po := (ph1 fl w f0 p).bind (ph2 fl w f1)
def oN (o : Option Po) : Int32 := if o.isSome then 1 else 0
def AtC (σ : St) (p : Po) : Prop := σ 68 0 = p.1 ∧ σ 69 0 = p.2.1 ∧ σ 70 0 = p.2.2.1 ∧ σ 68 1 = p.2.2.2.1 ∧ σ 69 1 = p.2.2.2.2.1 ∧ σ 70 1 = p.2.2.2.2.2
def AtM (τ : St) (p : Po) : Prop := τ 21 0 = p.1 ∧ τ 22 0 = p.2.1 ∧ τ 23 0 = p.2.2.1 ∧ τ 21 1 = p.2.2.2.1 ∧ τ 22 1 = p.2.2.2.2.1 ∧ τ 23 1 = p.2.2.2.2.2
def ExC (σ σ' : St) : Prop := ∀ c, c ≠ 68 → c ≠ 69 → c ≠ 70 → σ' c = σ c
def ExM (τ τ' : St) : Prop := ∀ c, c ≠ 21 → c ≠ 22 → c ≠ 23 → τ' c = τ c
def sdOk (s : Int32) : Prop := ∃ a : Nat, s = qN a ∧ a < 4
def PoOk (p : Po) : Prop := sdOk p.2.2.1 ∧ sdOk p.2.2.2.2.2
theorem ExC.rfl {σ : St} : ExC σ σ := fun _ _ _ _ => Eq.refl _
theorem ExM.rfl {σ : St} : ExM σ σ := fun _ _ _ _ => Eq.refl _
theorem ExC.trans {a b c : St} (h : ExC a b) (k : ExC b c) : ExC a c := fun x h1 h2 h3 => (k x h1 h2 h3).trans (h x h1 h2 h3)
theorem ExM.trans {a b c : St} (h : ExM a b) (k : ExM b c) : ExM a c := fun x h1 h2 h3 => (k x h1 h2 h3).trans (h x h1 h2 h3)
theorem ck_sd {α : Type} {s : Int32} (h : sdOk s) (x : Option α) : ckI s 4 x = x := by
  obtain ⟨a, rfl, ha⟩ := h; exact ck_ok ha (by omega)
theorem ck_lt {α : Type} {s : Int32} {n : Nat} (h0 : 0 ≤ s) (h1 : s < qN n) (hn : n < 2147483648) (x : Option α) : ckI s n x = x := by
  obtain ⟨a, rfl, ha⟩ := q_get (by grind) h1 hn; exact ck_ok ha (by omega)
theorem ckB0 {α : Type} (x : Option α) : ckB 0 x = x := by simp [ckB]
theorem ckB1 {α : Type} (x : Option α) : ckB 1 x = x := by simp [ckB]
/-- how many times: far as an Int32, as a Nat -/
theorem far_le {far : Int32} {j : Nat} (hj : j < 2147483648) : (far ≤ qN j) ↔ far.toNatClampNeg ≤ j := by
  rw [Int32.le_iff_toInt_le, q_toInt hj, Int32.toNatClampNeg]; omega
theorem clamp_lt (x : Int32) : x.toNatClampNeg < 2147483648 := by
  have := Int32.toInt_lt x
  simp only [Int32.toNatClampNeg]; omega

def PhR (o : Option Po) (can : Int32) (σ : St) : Prop := (∃ q, o = some q ∧ can = 1 ∧ AtC σ q) ∨ (o = none ∧ can = 0)
theorem ph1_sd {fl w : Int32} {f0 : Nat} {p q : Po} (h : ph1 fl w f0 p = some q) : q.2.2 = p.2.2 := by
  unfold ph1 at h
  split at h
  · simp only [Option.map_eq_some_iff] at h
    obtain ⟨a, _, rfl⟩ := h; rfl
  · injection h with h; rw [h]

theorem goS_succ (fl dx dy ox oy : Int32) {n m : Nat} (h : n = m + 1) (x y : Int32) : goS fl dx dy ox oy n x y = if 0 ≤ x + dx ∧ x + dx < fl ∧ 0 ≤ y + dy ∧ y + dy < fl ∧ ¬(x + dx = ox ∧ y + dy = oy) then goS fl dx dy ox oy m (x + dx) (y + dy) else none := by subst h; rfl
theorem C_advance {F : Nat} (hF : 20 ≤ F) {σ : St} {w a1 a2 fl : Int32} {p : Po} (hA : AtC σ p) (hp : PoOk p) (h1 : a1.toNatClampNeg ≤ 10) (h2 : a2.toNatClampNeg ≤ 10) :
    ∃ x, fX3_advance F σ w a1 a2 fl = some x ∧ x.1 = oN (advS fl w a1.toNatClampNeg a2.toNatClampNeg p) ∧ AtC x.2 ((advS fl w a1.toNatClampNeg a2.toNatClampNeg p).getD p) ∧ ExC σ x.2 := by
  refine wpI fun Q hQ => ?_
  unfold fX3_advance
  refine wn fun b1 e1 => wn fun b2 e2 => wn fun b3 e3 => wn fun b4 e4 => ?_
  obtain ⟨g1, g2, g3, g4, g5, g6⟩ := id hA
  rw [g1] at e1; rw [g2] at e2; rw [g4] at e3; rw [g5] at e4
  refine lp_up Q (fun k (v : St × Int32 × Int32) => ExC σ v.1 ∧ v.1 70 = σ 70 ∧ v.2.1 = qN k ∧ PhR (phS fl w a1.toNatClampNeg a2.toNatClampNeg p k) v.2.2 v.1) 2 ?_ F 0 _ (by omega) (by omega) ⟨ExC.rfl, rfl, rfl, .inl ⟨p, rfl, rfl, hA⟩⟩
  rintro k ⟨u, c, can⟩ K hk ⟨hE, h70, hc, hm⟩ hK
  dsimp only at hE h70 hc hm
  subst hc
  dsimp only
  refine wi (fun hk2 => ?_) (fun hk2 => ?_)
  · have hk2 : k = 2 := by
      simp only [q_lit] at hk2; rw [q_lt (by decide) (by omega)] at hk2; omega
    subst hk2
    rcases hm with ⟨q, hq, rfl, hAq⟩ | ⟨hq, rfl⟩
    · rw [if_neg (by decide), ckB1]
      have hq' : advS fl w a1.toNatClampNeg a2.toNatClampNeg p = some q := hq
      exact hQ _ ⟨by rw [hq']; rfl, by rw [hq']; exact hAq, hE⟩
    · rw [if_pos rfl]
      simp only [nm]
      rw [ckB0]
      have hq' : advS fl w a1.toNatClampNeg a2.toNatClampNeg p = none := hq
      refine hQ _ ⟨by rw [hq']; rfl, ?_, ?_⟩
      · rw [hq']
        simp [nm, AtC, up, upd, e1, e2, e3, e4, g3, g6, h70]
      · intro x e1 e2 e3
        simp only [nm, up, e1, e2, if_false]
        exact hE x e1 e2 e3
  · have hk1 : k < 2 := by
      simp only [q_lit] at hk2; rw [q_lt (by decide) (by omega)] at hk2; omega
    clear hk2
    have hnx : ∀ v' : St × Int32 × Int32, ExC σ v'.1 → v'.1 70 = σ 70 → v'.2.1 = qN (k + 1) → PhR (phS fl w a1.toNatClampNeg a2.toNatClampNeg p (k + 1)) v'.2.2 v'.1 → Q (K v') := fun v' e1 e2 e3 e4 => hK v' hk1 ⟨e1, e2, e3, e4⟩
    clear hK
    refine wj fun J hJ => ?_
    have hJ2 : Q (J (if k = 0 then a1 else a2)) → Q (if qN k = 0 then J a1 else J a2) := by
      rcases (by omega : k = 0 ∨ k = 1) with rfl | rfl
      · exact id
      · exact id
    apply hJ2
    clear hJ2
    rw [hJ]
    rcases hm with ⟨q, hq, rfl, hAq⟩ | ⟨hq, rfl⟩
    · have hsq : q.2.2.1 = p.2.2.1 ∧ q.2.2.2.2.2 = p.2.2.2.2.2 := by
        obtain ⟨_, _, a3, _, _, a6⟩ := hAq
        rw [h70] at a3 a6
        exact ⟨a3.symm.trans g3, a6.symm.trans g6⟩
      rcases (by omega : k = 0 ∨ k = 1) with rfl | rfl
      · have hqp : q = p := by injection hq with hq; exact hq.symm
        subst hqp
        rw [if_pos rfl]
        generalize hgo : goS fl (dAL q.2.2.1.toNatClampNeg) (dDN q.2.2.1.toNatClampNeg) q.2.2.2.1 q.2.2.2.2.1 a1.toNatClampNeg q.1 q.2.1 = go
        refine lp_up Q (fun j (v : St × Int32 × Int32) => ExC σ v.1 ∧ v.1 70 = σ 70 ∧ v.2.1 = qN j ∧ ((v.2.2 = 1 ∧ (j = 0 ∨ w = 2 ∨ w = 0) ∧ ∃ x y, AtC v.1 (x, y, q.2.2) ∧ (j = 0 → x = q.1 ∧ y = q.2.1) ∧ go = goS fl (dAL q.2.2.1.toNatClampNeg) (dDN q.2.2.1.toNatClampNeg) q.2.2.2.1 q.2.2.2.2.1 (a1.toNatClampNeg - j) x y) ∨ (v.2.2 = 0 ∧ (w = 2 ∨ w = 0) ∧ go = none))) a1.toNatClampNeg ?_ F 0 _ (by omega) (by omega) ⟨hE, h70, rfl, .inl ⟨rfl, .inl rfl, q.1, q.2.1, hAq, fun _ => ⟨rfl, rfl⟩, hgo.symm⟩⟩
        rintro j ⟨z, c, cn⟩ K2 hj ⟨gE, g70, gc, gm⟩ hK2
        dsimp only at gE g70 gc gm
        subst gc
        dsimp only
        rcases gm with ⟨rfl, hw, x, y, hAz, hj0, hgo2⟩ | ⟨rfl, hw, hgo2⟩
        · refine wi (fun hfar => ?_) (fun hfar => ?_)
          · rw [far_le (by omega)] at hfar
            have hjN : j = a1.toNatClampNeg := by omega
            subst hjN
            refine hnx _ gE g70 rfl (.inl ⟨(x, y, q.2.2), ?_, rfl, hAz⟩)
            rw [Nat.sub_self] at hgo2
            show ph1 _ _ _ _ = _
            unfold ph1
            rw [hgo, hgo2]
            by_cases hww : w = 2 ∨ w = 0
            · rw [if_pos hww]; rfl
            · rw [if_neg hww]
              obtain ⟨rfl, rfl⟩ := hj0 (hw.resolve_right hww)
              rfl
          · rw [far_le (by omega)] at hfar
            rw [if_neg (by decide)]
            have hwn : (w = 2 ∨ w = 0) → go = if 0 ≤ x + dAL q.2.2.1.toNatClampNeg ∧ x + dAL q.2.2.1.toNatClampNeg < fl ∧ 0 ≤ y + dDN q.2.2.1.toNatClampNeg ∧ y + dDN q.2.2.1.toNatClampNeg < fl ∧ ¬(x + dAL q.2.2.1.toNatClampNeg = q.2.2.2.1 ∧ y + dDN q.2.2.1.toNatClampNeg = q.2.2.2.2.1) then goS fl (dAL q.2.2.1.toNatClampNeg) (dDN q.2.2.1.toNatClampNeg) q.2.2.2.1 q.2.2.2.2.1 (a1.toNatClampNeg - (j + 1)) (x + dAL q.2.2.1.toNatClampNeg) (y + dDN q.2.2.1.toNatClampNeg) else none := fun _ => by
              rw [hgo2, goS_succ _ _ _ _ _ (m := a1.toNatClampNeg - (j + 1)) (by omega)]
            refine wj fun J hJ => ?_
            have hgo3 : (w = 2 ∨ w = 0) → Q (J ()) := by
              intro hww
              rw [hJ]
              obtain ⟨k1, k2, k3, k4, k5, k6⟩ := hAz
              dsimp only at k1 k2 k3 k4 k5 k6
              simp only [show (qN 0).toNatClampNeg = 0 from rfl]
              refine wk (k := 0) rfl (by decide) (by decide) (wk (k := 0) rfl (by decide) (by decide) ?_)
              rw [ck_sd (by rw [k3]; exact hp.1)]
              refine wk (k := 0) rfl (by decide) (by decide) ?_
              refine wn fun z1 ez1 => ?_
              have z70 : z1 70 = z 70 := by rw [ez1]; rfl
              have z69 : z1 69 = z 69 := by rw [ez1]; rfl
              have z680 : z1 68 0 = x + dAL q.2.2.1.toNatClampNeg := by rw [ez1, up_same, upd_same, k1, k3]
              have z681 : z1 68 1 = q.2.2.2.1 := by rw [ez1, up_same, upd_ne _ _ (by decide), k4]
              refine wk (k := 0) rfl (by decide) (by decide) (wk (k := 0) rfl (by decide) (by decide) ?_)
              rw [ck_sd (by rw [z70, k3]; exact hp.1)]
              refine wk (k := 0) rfl (by decide) (by decide) ?_
              refine wn fun z2 ez2 => ?_
              have y70 : z2 70 = z 70 := by rw [ez2, up_ne _ _ _ (by decide), z70]
              have y68 : z2 68 = z1 68 := by rw [ez2, up_ne _ _ _ (by decide)]
              have y690 : z2 69 0 = y + dDN q.2.2.1.toNatClampNeg := by rw [ez2, up_same, upd_same, z69, z70, k2, k3]
              have y691 : z2 69 1 = q.2.2.2.2.1 := by rw [ez2, up_same, upd_ne _ _ (by decide), z69, k5]
              have hA2 : AtC z2 (x + dAL q.2.2.1.toNatClampNeg, y + dDN q.2.2.1.toNatClampNeg, q.2.2) := ⟨by rw [y68, z680], y690, by rw [y70]; exact k3, by rw [y68]; exact z681, y691, by rw [y70]; exact k6⟩
              have hE2 : ExC σ z2 := fun c h1 h2 h3 => by rw [ez2, up_ne _ _ _ h2, ez1, up_ne _ _ _ h1]; exact gE c h1 h2 h3
              have hbad : ¬(0 ≤ x + dAL q.2.2.1.toNatClampNeg ∧ x + dAL q.2.2.1.toNatClampNeg < fl ∧ 0 ≤ y + dDN q.2.2.1.toNatClampNeg ∧ y + dDN q.2.2.1.toNatClampNeg < fl ∧ ¬(x + dAL q.2.2.1.toNatClampNeg = q.2.2.2.1 ∧ y + dDN q.2.2.1.toNatClampNeg = q.2.2.2.2.1)) → Q (K2 (z2, qN j + 1, 0)) := fun hb =>
                hK2 _ (by omega) ⟨hE2, y70.trans g70, q_add j 1, .inr ⟨rfl, hww, (hwn hww).trans (if_neg hb)⟩⟩
              have hgood : (0 ≤ x + dAL q.2.2.1.toNatClampNeg ∧ x + dAL q.2.2.1.toNatClampNeg < fl ∧ 0 ≤ y + dDN q.2.2.1.toNatClampNeg ∧ y + dDN q.2.2.1.toNatClampNeg < fl ∧ ¬(x + dAL q.2.2.1.toNatClampNeg = q.2.2.2.1 ∧ y + dDN q.2.2.1.toNatClampNeg = q.2.2.2.2.1)) → Q (K2 (z2, qN j + 1, 1)) := fun hb =>
                hK2 _ (by omega) ⟨hE2, y70.trans g70, q_add j 1, .inl ⟨rfl, .inr hww, _, _, hA2, fun h => absurd h (by omega), (hwn hww).trans (if_pos hb)⟩⟩
              rw [y68, z680, z681, y690, y691]
              refine wk (k := 0) rfl (by decide) (by decide) ?_
              refine wi (fun b1 => hbad (by grind)) fun b1 => ?_
              refine wk (k := 0) rfl (by decide) (by decide) ?_
              refine wi (fun b2 => hbad (by grind)) fun b2 => ?_
              refine wk (k := 0) rfl (by decide) (by decide) ?_
              refine wi (fun b3 => hbad (by grind)) fun b3 => ?_
              refine wk (k := 0) rfl (by decide) (by decide) ?_
              refine wi (fun b4 => hbad (by grind)) fun b4 => ?_
              refine wi (fun b5 => ?_) fun b5 => hgood (by grind)
              refine wi (fun b6 => hbad (by grind)) fun b6 => hgood (by grind)
            refine wi (fun b1 => hgo3 (.inl b1)) fun b1 => wi (fun b2 => hgo3 (.inr b2)) fun b2 => ?_
            have hww : ¬(w = 2 ∨ w = 0) := by
              intro h; rcases h with h | h
              · exact b1 h
              · exact b2 h
            obtain ⟨rfl, rfl⟩ := hj0 (hw.resolve_right hww)
            exact hnx _ gE g70 rfl (.inl ⟨q, by show ph1 _ _ _ _ = _; unfold ph1; rw [if_neg hww], rfl, hAz⟩)
        · have hno : PhR (phS fl w a1.toNatClampNeg a2.toNatClampNeg q (0 + 1)) 0 z := .inr ⟨by show ph1 _ _ _ _ = _; unfold ph1; rw [if_pos hw, hgo, hgo2]; rfl, rfl⟩
          refine wi (fun _ => hnx _ gE g70 rfl hno) fun _ => ?_
          rw [if_pos rfl]
          exact hnx _ gE g70 rfl hno
      · have hph : ph1 fl w a1.toNatClampNeg p = some q := hq
        have hpq : sdOk q.2.2.2.2.2 := by rw [hsq.2]; exact hp.2
        rw [if_neg (by decide)]
        generalize hgo : goS fl (dAL q.2.2.2.2.2.toNatClampNeg) (dDN q.2.2.2.2.2.toNatClampNeg) q.1 q.2.1 a2.toNatClampNeg q.2.2.2.1 q.2.2.2.2.1 = go
        refine lp_up Q (fun j (v : St × Int32 × Int32) => ExC σ v.1 ∧ v.1 70 = σ 70 ∧ v.2.1 = qN j ∧ ((v.2.2 = 1 ∧ (j = 0 ∨ w = 2 ∨ w = 1) ∧ ∃ x y, AtC v.1 (q.1, q.2.1, q.2.2.1, x, y, q.2.2.2.2.2) ∧ (j = 0 → x = q.2.2.2.1 ∧ y = q.2.2.2.2.1) ∧ go = goS fl (dAL q.2.2.2.2.2.toNatClampNeg) (dDN q.2.2.2.2.2.toNatClampNeg) q.1 q.2.1 (a2.toNatClampNeg - j) x y) ∨ (v.2.2 = 0 ∧ (w = 2 ∨ w = 1) ∧ go = none))) a2.toNatClampNeg ?_ F 0 _ (by omega) (by omega) ⟨hE, h70, rfl, .inl ⟨rfl, .inl rfl, q.2.2.2.1, q.2.2.2.2.1, hAq, fun _ => ⟨rfl, rfl⟩, hgo.symm⟩⟩
        rintro j ⟨z, c, cn⟩ K2 hj ⟨gE, g70, gc, gm⟩ hK2
        dsimp only at gE g70 gc gm
        subst gc
        dsimp only
        rcases gm with ⟨rfl, hw, x, y, hAz, hj0, hgo2⟩ | ⟨rfl, hw, hgo2⟩
        · refine wi (fun hfar => ?_) (fun hfar => ?_)
          · rw [far_le (by omega)] at hfar
            have hjN : j = a2.toNatClampNeg := by omega
            subst hjN
            refine hnx _ gE g70 rfl (.inl ⟨(q.1, q.2.1, q.2.2.1, x, y, q.2.2.2.2.2), ?_, rfl, hAz⟩)
            rw [Nat.sub_self] at hgo2
            show (ph1 _ _ _ _).bind _ = _
            rw [hph]
            show ph2 _ _ _ _ = _
            unfold ph2
            rw [hgo, hgo2]
            by_cases hww : w = 2 ∨ w = 1
            · rw [if_pos hww]; rfl
            · rw [if_neg hww]
              obtain ⟨rfl, rfl⟩ := hj0 (hw.resolve_right hww)
              rfl
          · rw [far_le (by omega)] at hfar
            rw [if_neg (by decide)]
            have hwn : (w = 2 ∨ w = 1) → go = if 0 ≤ x + dAL q.2.2.2.2.2.toNatClampNeg ∧ x + dAL q.2.2.2.2.2.toNatClampNeg < fl ∧ 0 ≤ y + dDN q.2.2.2.2.2.toNatClampNeg ∧ y + dDN q.2.2.2.2.2.toNatClampNeg < fl ∧ ¬(x + dAL q.2.2.2.2.2.toNatClampNeg = q.1 ∧ y + dDN q.2.2.2.2.2.toNatClampNeg = q.2.1) then goS fl (dAL q.2.2.2.2.2.toNatClampNeg) (dDN q.2.2.2.2.2.toNatClampNeg) q.1 q.2.1 (a2.toNatClampNeg - (j + 1)) (x + dAL q.2.2.2.2.2.toNatClampNeg) (y + dDN q.2.2.2.2.2.toNatClampNeg) else none := fun _ => by
              rw [hgo2, goS_succ _ _ _ _ _ (m := a2.toNatClampNeg - (j + 1)) (by omega)]
            refine wj fun J hJ => ?_
            have hgo3 : (w = 2 ∨ w = 1) → Q (J ()) := by
              intro hww
              rw [hJ]
              obtain ⟨k1, k2, k3, k4, k5, k6⟩ := hAz
              dsimp only at k1 k2 k3 k4 k5 k6
              simp only [show (qN 1).toNatClampNeg = 1 from rfl]
              refine wk (k := 1) rfl (by decide) (by decide) (wk (k := 1) rfl (by decide) (by decide) ?_)
              rw [ck_sd (by rw [k6]; exact hpq)]
              refine wk (k := 1) rfl (by decide) (by decide) ?_
              refine wn fun z1 ez1 => ?_
              have z70 : z1 70 = z 70 := by rw [ez1]; rfl
              have z69 : z1 69 = z 69 := by rw [ez1]; rfl
              have z681 : z1 68 1 = x + dAL q.2.2.2.2.2.toNatClampNeg := by rw [ez1, up_same, upd_same, k4, k6]
              have z680 : z1 68 0 = q.1 := by rw [ez1, up_same, upd_ne _ _ (by decide), k1]
              refine wk (k := 1) rfl (by decide) (by decide) (wk (k := 1) rfl (by decide) (by decide) ?_)
              rw [ck_sd (by rw [z70, k6]; exact hpq)]
              refine wk (k := 1) rfl (by decide) (by decide) ?_
              refine wn fun z2 ez2 => ?_
              have y70 : z2 70 = z 70 := by rw [ez2, up_ne _ _ _ (by decide), z70]
              have y68 : z2 68 = z1 68 := by rw [ez2, up_ne _ _ _ (by decide)]
              have y691 : z2 69 1 = y + dDN q.2.2.2.2.2.toNatClampNeg := by rw [ez2, up_same, upd_same, z69, z70, k5, k6]
              have y690 : z2 69 0 = q.2.1 := by rw [ez2, up_same, upd_ne _ _ (by decide), z69, k2]
              have hA2 : AtC z2 (q.1, q.2.1, q.2.2.1, x + dAL q.2.2.2.2.2.toNatClampNeg, y + dDN q.2.2.2.2.2.toNatClampNeg, q.2.2.2.2.2) := ⟨by rw [y68, z680], y690, by rw [y70]; exact k3, by rw [y68]; exact z681, y691, by rw [y70]; exact k6⟩
              have hE2 : ExC σ z2 := fun c h1 h2 h3 => by rw [ez2, up_ne _ _ _ h2, ez1, up_ne _ _ _ h1]; exact gE c h1 h2 h3
              have hbad : ¬(0 ≤ x + dAL q.2.2.2.2.2.toNatClampNeg ∧ x + dAL q.2.2.2.2.2.toNatClampNeg < fl ∧ 0 ≤ y + dDN q.2.2.2.2.2.toNatClampNeg ∧ y + dDN q.2.2.2.2.2.toNatClampNeg < fl ∧ ¬(x + dAL q.2.2.2.2.2.toNatClampNeg = q.1 ∧ y + dDN q.2.2.2.2.2.toNatClampNeg = q.2.1)) → Q (K2 (z2, qN j + 1, 0)) := fun hb =>
                hK2 _ (by omega) ⟨hE2, y70.trans g70, q_add j 1, .inr ⟨rfl, hww, (hwn hww).trans (if_neg hb)⟩⟩
              have hgood : (0 ≤ x + dAL q.2.2.2.2.2.toNatClampNeg ∧ x + dAL q.2.2.2.2.2.toNatClampNeg < fl ∧ 0 ≤ y + dDN q.2.2.2.2.2.toNatClampNeg ∧ y + dDN q.2.2.2.2.2.toNatClampNeg < fl ∧ ¬(x + dAL q.2.2.2.2.2.toNatClampNeg = q.1 ∧ y + dDN q.2.2.2.2.2.toNatClampNeg = q.2.1)) → Q (K2 (z2, qN j + 1, 1)) := fun hb =>
                hK2 _ (by omega) ⟨hE2, y70.trans g70, q_add j 1, .inl ⟨rfl, .inr hww, _, _, hA2, fun h => absurd h (by omega), (hwn hww).trans (if_pos hb)⟩⟩
              rw [y68, z680, z681, y690, y691]
              refine wk (k := 1) rfl (by decide) (by decide) ?_
              refine wi (fun b1 => hbad (by grind)) fun b1 => ?_
              refine wk (k := 1) rfl (by decide) (by decide) ?_
              refine wi (fun b2 => hbad (by grind)) fun b2 => ?_
              refine wk (k := 1) rfl (by decide) (by decide) ?_
              refine wi (fun b3 => hbad (by grind)) fun b3 => ?_
              refine wk (k := 1) rfl (by decide) (by decide) ?_
              refine wi (fun b4 => hbad (by grind)) fun b4 => ?_
              refine wi (fun b5 => ?_) fun b5 => hgood (by grind)
              refine wi (fun b6 => hbad (by grind)) fun b6 => hgood (by grind)
            refine wi (fun b1 => hgo3 (.inl b1)) fun b1 => wi (fun b2 => hgo3 (.inr b2)) fun b2 => ?_
            have hww : ¬(w = 2 ∨ w = 1) := by
              intro h; rcases h with h | h
              · exact b1 h
              · exact b2 h
            obtain ⟨rfl, rfl⟩ := hj0 (hw.resolve_right hww)
            exact hnx _ gE g70 rfl (.inl ⟨q, by show (ph1 _ _ _ _).bind _ = _; rw [hph]; show ph2 _ _ _ _ = _; unfold ph2; rw [if_neg hww], rfl, hAz⟩)
        · have hno : PhR (phS fl w a1.toNatClampNeg a2.toNatClampNeg p (1 + 1)) 0 z := .inr ⟨by show (ph1 _ _ _ _).bind _ = _; rw [hph]; show ph2 _ _ _ _ = _; unfold ph2; rw [if_pos hw, hgo, hgo2]; rfl, rfl⟩
          refine wi (fun _ => hnx _ gE g70 rfl hno) fun _ => ?_
          rw [if_pos rfl]
          exact hnx _ gE g70 rfl hno
    · have hnone : PhR (phS fl w a1.toNatClampNeg a2.toNatClampNeg p (k + 1)) 0 u := by
        refine .inr ⟨?_, rfl⟩
        rcases (by omega : k = 0 ∨ k = 1) with rfl | rfl
        · simp [phS] at hq
        · simp only [phS] at hq ⊢
          rw [hq]; rfl
      have hF' : ∃ G, F = G + 1 := ⟨F - 1, by omega⟩
      obtain ⟨G, rfl⟩ := hF'
      rw [lp.eq_2]
      dsimp only
      refine wi (fun _ => ?_) (fun _ => ?_)
      · exact hnx _ hE h70 (q_add k 1) hnone
      · rw [if_pos rfl]; exact hnx _ hE h70 (q_add k 1) hnone
