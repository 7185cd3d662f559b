set_option linter.unusedVariables false
set_option linter.unusedSimpArgs false
set_option maxRecDepth 16384
/-! the reference's walk -/
def DXY (τ : St) : Prop := ∀ a, a < 4 → τ 3 a = dAL a ∧ τ 4 a = dDN a
theorem sd_at {s : Int32} (h : sdOk s) : s = qN s.toNatClampNeg ∧ s.toNatClampNeg < 4 := by
  obtain ⟨a, rfl, ha⟩ := h
  rw [q_clamp (by omega)]; exact ⟨rfl, ha⟩
theorem M_isOn {F : Nat} {τ : St} (x : Int32) : fX11_isOn F τ x = some (if 0 ≤ x ∧ x < τ 5 2 then 1 else 0) := by
  unfold fX11_isOn
  by_cases h1 : x < 0
  · rw [if_pos h1, if_neg (by grind)]
  · rw [if_neg h1]
    by_cases h2 : τ 5 2 ≤ x
    · rw [if_pos h2, if_neg (by grind)]
    · rw [if_neg h2, if_pos (by grind)]
theorem M_goes0 {F : Nat} (hF : 20 ≤ F) {τ : St} (hD : DXY τ) {far : Int32} {p : Po} (hA : AtM τ p) (hp : PoOk p) (h1 : far.toNatClampNeg ≤ 10) :
    ∃ x, fX11_goes F τ 0 far = some x ∧ ((∃ q, goS (τ 5 2) (dAL p.2.2.1.toNatClampNeg) (dDN p.2.2.1.toNatClampNeg) p.2.2.2.1 p.2.2.2.2.1 far.toNatClampNeg p.1 p.2.1 = some q ∧ x.1 = 1 ∧ AtM x.2 (q.1, q.2, p.2.2)) ∨ (goS (τ 5 2) (dAL p.2.2.1.toNatClampNeg) (dDN p.2.2.1.toNatClampNeg) p.2.2.2.1 p.2.2.2.2.1 far.toNatClampNeg p.1 p.2.1 = none ∧ x.1 = 0)) ∧ ExM τ x.2 ∧ x.2 23 = τ 23 := by
  refine wpI fun Q hQ => ?_
  unfold fX11_goes
  generalize hgo : goS (τ 5 2) (dAL p.2.2.1.toNatClampNeg) (dDN p.2.2.1.toNatClampNeg) p.2.2.2.1 p.2.2.2.2.1 far.toNatClampNeg p.1 p.2.1 = go at *
  refine lp_up Q (fun j (v : St × Int32) => ExM τ v.1 ∧ v.1 23 = τ 23 ∧ v.2 = qN j ∧ ∃ x y, AtM v.1 (x, y, p.2.2) ∧ go = goS (τ 5 2) (dAL p.2.2.1.toNatClampNeg) (dDN p.2.2.1.toNatClampNeg) p.2.2.2.1 p.2.2.2.2.1 (far.toNatClampNeg - j) x y) far.toNatClampNeg ?_ F 0 _ (by omega) (by omega) ⟨ExM.rfl, rfl, rfl, p.1, p.2.1, hA, hgo.symm⟩
  rintro j ⟨z, c⟩ K hj ⟨gE, g70, gc, x, y, hAz, hgo2⟩ hK
  dsimp only at gE g70 gc hAz
  subst gc
  dsimp only
  refine wi (fun hfar => ?_) (fun hfar => ?_)
  · rw [far_le (by omega)] at hfar
    have hjN : j = far.toNatClampNeg := by omega
    subst hjN
    rw [Nat.sub_self] at hgo2
    exact hQ _ ⟨.inl ⟨(x, y), hgo2, rfl, hAz⟩, gE, g70⟩
  · rw [far_le (by omega)] at hfar
    rw [goS_succ _ _ _ _ _ (m := far.toNatClampNeg - (j + 1)) (by omega)] at hgo2
    obtain ⟨k1, k2, k3, k4, k5, k6⟩ := hAz
    dsimp only at k1 k2 k3 k4 k5 k6
    have hfl : z 5 2 = τ 5 2 := by rw [gE 5 (by decide) (by decide) (by decide)]
    have hz3 : z 3 = τ 3 := gE 3 (by decide) (by decide) (by decide)
    have hz4 : z 4 = τ 4 := gE 4 (by decide) (by decide) (by decide)
    have hdd := hD p.2.2.1.toNatClampNeg (sd_at hp.1).2
    simp only [show (0 : Int32).toNatClampNeg = 0 from rfl, show (1 - 0 : Int32) = 1 from rfl, show (1 : Int32).toNatClampNeg = 1 from rfl]
    refine wk (k := 0) rfl (by decide) (by decide) (wk (k := 0) rfl (by decide) (by decide) ?_)
    rw [ck_sd (by rw [k3]; exact hp.1)]
    refine wn fun a ea => ?_
    rw [k1, k3, hz3, hdd.1] at ea
    refine wk (k := 0) rfl (by decide) (by decide) (wk (k := 0) rfl (by decide) (by decide) ?_)
    rw [ck_sd (by rw [k3]; exact hp.1)]
    refine wn fun b eb => ?_
    rw [k2, k3, hz4, hdd.2] at eb
    refine wb1 (M_isOn _) ?_
    rw [hfl]
    refine wi (fun c1 => ?_) fun c1 => ?_
    · exact hQ _ ⟨.inr ⟨hgo2.trans (if_neg (by rw [← ea, ← eb]; intro hh; rw [if_pos ⟨hh.1, hh.2.1⟩] at c1; exact absurd c1 (by decide))), rfl⟩, gE, g70⟩
    have c1' : 0 ≤ a ∧ a < τ 5 2 := by
      by_cases hh : 0 ≤ a ∧ a < τ 5 2
      · exact hh
      · rw [if_neg hh] at c1; exact absurd rfl c1
    refine wb1 (M_isOn _) ?_
    rw [hfl]
    refine wi (fun c2 => ?_) fun c2 => ?_
    · exact hQ _ ⟨.inr ⟨hgo2.trans (if_neg (by rw [← ea, ← eb]; intro hh; rw [if_pos ⟨hh.2.2.1, hh.2.2.2.1⟩] at c2; exact absurd c2 (by decide))), rfl⟩, gE, g70⟩
    have c2' : 0 ≤ b ∧ b < τ 5 2 := by
      by_cases hh : 0 ≤ b ∧ b < τ 5 2
      · exact hh
      · rw [if_neg hh] at c2; exact absurd rfl c2
    refine wk (k := 1) rfl (by decide) (by decide) ?_
    refine wj fun J hJ => ?_
    have hgood : ¬(a = p.2.2.2.1 ∧ b = p.2.2.2.2.1) → Q (J ()) := by
      intro hne
      rw [hJ]
      refine wk (k := 0) rfl (by decide) (by decide) (wn fun z1 ez1 => wk (k := 0) rfl (by decide) (by decide) (wn fun z2 ez2 => ?_))
      refine hK _ (by omega) ⟨?_, ?_, q_add j 1, a, b, ?_, ?_⟩
      · intro c h1 h2 h3
        show z2 c = _
        rw [ez2, up_ne _ _ _ h2, ez1, up_ne _ _ _ h1]; exact gE c h1 h2 h3
      · show z2 23 = _
        rw [ez2, up_ne _ _ _ (by decide), ez1, up_ne _ _ _ (by decide)]; exact g70
      · show AtM z2 _
        subst ez2 ez1
        simp [AtM, up, upd, k3, k4, k5, k6]
      · rw [hgo2, if_pos (by rw [← ea, ← eb]; exact ⟨c1'.1, c1'.2, c2'.1, c2'.2, hne⟩), ← ea, ← eb]
    have hbad : (a = p.2.2.2.1 ∧ b = p.2.2.2.2.1) → Q (some (0, z)) := fun he =>
      hQ _ ⟨.inr ⟨hgo2.trans (if_neg (by rw [← ea, ← eb]; intro hh; exact hh.2.2.2.2 he)), rfl⟩, gE, g70⟩
    rw [k4, k5]
    refine wi (fun c3 => ?_) fun c3 => hgood (fun h => c3 h.1)
    refine wk (k := 1) rfl (by decide) (by decide) ?_
    exact wi (fun c4 => hbad ⟨c3, c4⟩) fun c4 => hgood (fun h => c4 h.2)
theorem M_goes1 {F : Nat} (hF : 20 ≤ F) {τ : St} (hD : DXY τ) {far : Int32} {p : Po} (hA : AtM τ p) (hp : PoOk p) (h1 : far.toNatClampNeg ≤ 10) :
    ∃ x, fX11_goes F τ 1 far = some x ∧ ((∃ q, goS (τ 5 2) (dAL p.2.2.2.2.2.toNatClampNeg) (dDN p.2.2.2.2.2.toNatClampNeg) p.1 p.2.1 far.toNatClampNeg p.2.2.2.1 p.2.2.2.2.1 = some q ∧ x.1 = 1 ∧ AtM x.2 (p.1, p.2.1, p.2.2.1, q.1, q.2, p.2.2.2.2.2)) ∨ (goS (τ 5 2) (dAL p.2.2.2.2.2.toNatClampNeg) (dDN p.2.2.2.2.2.toNatClampNeg) p.1 p.2.1 far.toNatClampNeg p.2.2.2.1 p.2.2.2.2.1 = none ∧ x.1 = 0)) ∧ ExM τ x.2 ∧ x.2 23 = τ 23 := by
  refine wpI fun Q hQ => ?_
  unfold fX11_goes
  generalize hgo : goS (τ 5 2) (dAL p.2.2.2.2.2.toNatClampNeg) (dDN p.2.2.2.2.2.toNatClampNeg) p.1 p.2.1 far.toNatClampNeg p.2.2.2.1 p.2.2.2.2.1 = go at *
  refine lp_up Q (fun j (v : St × Int32) => ExM τ v.1 ∧ v.1 23 = τ 23 ∧ v.2 = qN j ∧ ∃ x y, AtM v.1 (p.1, p.2.1, p.2.2.1, x, y, p.2.2.2.2.2) ∧ go = goS (τ 5 2) (dAL p.2.2.2.2.2.toNatClampNeg) (dDN p.2.2.2.2.2.toNatClampNeg) p.1 p.2.1 (far.toNatClampNeg - j) x y) far.toNatClampNeg ?_ F 0 _ (by omega) (by omega) ⟨ExM.rfl, rfl, rfl, p.2.2.2.1, p.2.2.2.2.1, hA, hgo.symm⟩
  rintro j ⟨z, c⟩ K hj ⟨gE, g70, gc, x, y, hAz, hgo2⟩ hK
  dsimp only at gE g70 gc hAz
  subst gc
  dsimp only
  refine wi (fun hfar => ?_) (fun hfar => ?_)
  · rw [far_le (by omega)] at hfar
    have hjN : j = far.toNatClampNeg := by omega
    subst hjN
    rw [Nat.sub_self] at hgo2
    exact hQ _ ⟨.inl ⟨(x, y), hgo2, rfl, hAz⟩, gE, g70⟩
  · rw [far_le (by omega)] at hfar
    rw [goS_succ _ _ _ _ _ (m := far.toNatClampNeg - (j + 1)) (by omega)] at hgo2
    obtain ⟨k1, k2, k3, k4, k5, k6⟩ := hAz
    dsimp only at k1 k2 k3 k4 k5 k6
    have hfl : z 5 2 = τ 5 2 := by rw [gE 5 (by decide) (by decide) (by decide)]
    have hz3 : z 3 = τ 3 := gE 3 (by decide) (by decide) (by decide)
    have hz4 : z 4 = τ 4 := gE 4 (by decide) (by decide) (by decide)
    have hdd := hD p.2.2.2.2.2.toNatClampNeg (sd_at hp.2).2
    simp only [show (1 : Int32).toNatClampNeg = 1 from rfl, show (1 - 1 : Int32) = 0 from rfl, show (0 : Int32).toNatClampNeg = 0 from rfl]
    refine wk (k := 1) rfl (by decide) (by decide) (wk (k := 1) rfl (by decide) (by decide) ?_)
    rw [ck_sd (by rw [k6]; exact hp.2)]
    refine wn fun a ea => ?_
    rw [k4, k6, hz3, hdd.1] at ea
    refine wk (k := 1) rfl (by decide) (by decide) (wk (k := 1) rfl (by decide) (by decide) ?_)
    rw [ck_sd (by rw [k6]; exact hp.2)]
    refine wn fun b eb => ?_
    rw [k5, k6, hz4, hdd.2] at eb
    refine wb1 (M_isOn _) ?_
    rw [hfl]
    refine wi (fun c1 => ?_) fun c1 => ?_
    · exact hQ _ ⟨.inr ⟨hgo2.trans (if_neg (by rw [← ea, ← eb]; intro hh; rw [if_pos ⟨hh.1, hh.2.1⟩] at c1; exact absurd c1 (by decide))), rfl⟩, gE, g70⟩
    have c1' : 0 ≤ a ∧ a < τ 5 2 := by
      by_cases hh : 0 ≤ a ∧ a < τ 5 2
      · exact hh
      · rw [if_neg hh] at c1; exact absurd rfl c1
    refine wb1 (M_isOn _) ?_
    rw [hfl]
    refine wi (fun c2 => ?_) fun c2 => ?_
    · exact hQ _ ⟨.inr ⟨hgo2.trans (if_neg (by rw [← ea, ← eb]; intro hh; rw [if_pos ⟨hh.2.2.1, hh.2.2.2.1⟩] at c2; exact absurd c2 (by decide))), rfl⟩, gE, g70⟩
    have c2' : 0 ≤ b ∧ b < τ 5 2 := by
      by_cases hh : 0 ≤ b ∧ b < τ 5 2
      · exact hh
      · rw [if_neg hh] at c2; exact absurd rfl c2
    refine wk (k := 0) rfl (by decide) (by decide) ?_
    refine wj fun J hJ => ?_
    have hgood : ¬(a = p.1 ∧ b = p.2.1) → Q (J ()) := by
      intro hne
      rw [hJ]
      refine wk (k := 1) rfl (by decide) (by decide) (wn fun z1 ez1 => wk (k := 1) rfl (by decide) (by decide) (wn fun z2 ez2 => ?_))
      refine hK _ (by omega) ⟨?_, ?_, q_add j 1, a, b, ?_, ?_⟩
      · intro c h1 h2 h3
        show z2 c = _
        rw [ez2, up_ne _ _ _ h2, ez1, up_ne _ _ _ h1]; exact gE c h1 h2 h3
      · show z2 23 = _
        rw [ez2, up_ne _ _ _ (by decide), ez1, up_ne _ _ _ (by decide)]; exact g70
      · show AtM z2 _
        subst ez2 ez1
        simp [AtM, up, upd, k1, k2, k3, k6]
      · rw [hgo2, if_pos (by rw [← ea, ← eb]; exact ⟨c1'.1, c1'.2, c2'.1, c2'.2, hne⟩), ← ea, ← eb]
    have hbad : (a = p.1 ∧ b = p.2.1) → Q (some (0, z)) := fun he =>
      hQ _ ⟨.inr ⟨hgo2.trans (if_neg (by rw [← ea, ← eb]; intro hh; exact hh.2.2.2.2 he)), rfl⟩, gE, g70⟩
    rw [k1, k2]
    refine wi (fun c3 => ?_) fun c3 => hgood (fun h => c3 h.1)
    refine wk (k := 0) rfl (by decide) (by decide) ?_
    exact wi (fun c4 => hbad ⟨c3, c4⟩) fun c4 => hgood (fun h => c4 h.2)
/-! one step, of both sides -/
def stS (fl k w n k0 k1 : Int32) (p : Po) : Option Po :=
  if k = 0 ∨ k = 2 then advS fl w (n - k0).toNatClampNeg (n - k1).toNatClampNeg p
  else if k = 1 then some (p.1, p.2.1, (if w = 1 then p.2.2.1 else (p.2.2.1 + n) &&& 3), p.2.2.2.1, p.2.2.2.2.1, (if w = 0 then p.2.2.2.2.2 else (p.2.2.2.2.2 + n) &&& 3))
  else if k = 4 then some (p.2.2.2.1, p.2.2.2.2.1, p.2.2.1, p.1, p.2.1, p.2.2.2.2.2)
  else some p
theorem and3 {s n : Int32} (h : sdOk s) (h0 : 0 ≤ n) (h9 : n ≤ 9) : sdOk ((s + n) &&& 3) ∧ (s + n) - (s + n) / 4 * 4 = (s + n) &&& 3 := by
  obtain ⟨a, rfl, ha⟩ := h
  obtain ⟨b, rfl, hb⟩ := q_get (x := n) (n := 10) (by grind) (by
    show n < 10
    grind) (by decide)
  have hh : ∀ a : Fin 4, ∀ b : Fin 10, ((qN a.1 + qN b.1) &&& 3) = qN ((a.1 + b.1) % 4) ∧ (qN a.1 + qN b.1) - (qN a.1 + qN b.1) / 4 * 4 = (qN a.1 + qN b.1) &&& 3 := by decide
  have := hh ⟨a, ha⟩ ⟨b, hb⟩
  exact ⟨⟨(a + b) % 4, this.1, Nat.mod_lt _ (by decide)⟩, this.2⟩
theorem adv_sd {fl w : Int32} {f0 f1 : Nat} {p q : Po} (hp : PoOk p) (h : advS fl w f0 f1 p = some q) : PoOk q := by
  unfold advS at h
  simp only [Option.bind_eq_some_iff] at h
  obtain ⟨a, h1, h2⟩ := h
  have e1 := ph1_sd h1
  unfold ph2 at h2
  split at h2
  · simp only [Option.map_eq_some_iff] at h2
    obtain ⟨b, _, rfl⟩ := h2
    exact ⟨by show sdOk a.2.2.1; rw [e1]; exact hp.1, by show sdOk a.2.2.2.2.2; rw [e1]; exact hp.2⟩
  · injection h2 with h2; subst h2
    exact ⟨by rw [e1]; exact hp.1, by rw [e1]; exact hp.2⟩
theorem st_sd {fl k w n k0 k1 : Int32} {p q : Po} (h0 : 0 ≤ n) (h9 : n ≤ 9) (hp : PoOk p) (h : stS fl k w n k0 k1 p = some q) : PoOk q := by
  unfold stS at h
  split at h
  · exact adv_sd hp h
  · split at h
    · injection h with h; subst h
      refine ⟨?_, ?_⟩
      · show sdOk (if _ then _ else _)
        split
        · exact hp.1
        · exact (and3 hp.1 h0 h9).1
      · show sdOk (if _ then _ else _)
        split
        · exact hp.2
        · exact (and3 hp.2 h0 h9).1
    · split at h
      · injection h with h; subst h; exact hp
      · injection h with h; subst h; exact hp
theorem st_get {fl k w n k0 k1 : Int32} {p : Po} (h0 : 0 ≤ n) (h9 : n ≤ 9) (hp : PoOk p) : PoOk ((stS fl k w n k0 k1 p).getD p) := by
  cases h : stS fl k w n k0 k1 p with
  | none => exact hp
  | some q => exact st_sd h0 h9 hp h
theorem far10 {n k : Int32} (h9 : n ≤ 9) (hk : 0 ≤ k) (hk2 : k ≤ 1000) (h0 : 0 ≤ n) : (n - k).toNatClampNeg ≤ 10 := by
  have : n - k ≤ 9 := by grind
  rw [Int32.le_iff_toInt_le] at this
  have e : (9 : Int32).toInt = 9 := rfl
  rw [e] at this
  rw [Int32.toNatClampNeg]; omega
theorem C_takes {F : Nat} (hF : 20 ≤ F) {σ : St} {d i : Nat} (hd : d < 8) (hi : i < 10) (h3 : σ 66 3 = qN d) {fl k w n k0 k1 : Int32} {p : Po}
    (hk : σ 8 (10 * d + i) = k) (hw : σ 9 (10 * d + i) = w) (hn : σ 71 i = n) (hk0 : σ 66 5 = k0) (hk1 : σ 66 6 = k1) (hfl : σ 2 2 = fl)
    (bn : 0 ≤ n ∧ n ≤ 9) (b0 : 0 ≤ k0 ∧ k0 ≤ 1000) (b1 : 0 ≤ k1 ∧ k1 ≤ 1000) (bk : 0 ≤ k ∧ k ≤ 4) (bw : 0 ≤ w ∧ w ≤ 2) (hA : AtC σ p) (hp : PoOk p) :
    ∃ x, fX2_takes F σ (qN i) = some x ∧ x.1 = oN (stS fl k w n k0 k1 p) ∧ AtC x.2 ((stS fl k w n k0 k1 p).getD p) ∧ ExC σ x.2 := by
  refine wpI fun Q hQ => ?_
  unfold fX2_takes
  have hpl : qN d * 10 + qN i = qN (10 * d + i) := by simp only [q_lit]; rw [q_mul, q_add]; congr 1; omega
  refine wb1 (r := qN (10 * d + i)) (by unfold fX10_placeOf; rw [h3, hpl]) ?_
  refine wk (k := 10 * d + i) rfl (by omega) (by omega) (wn fun w' ew => ?_)
  refine wk (k := 10 * d + i) rfl (by omega) (by omega) (wn fun k' ek => ?_)
  rw [q_clamp (by omega)] at ek ew
  rw [hw] at ew; rw [hk] at ek; rw [ew, ek]
  rw [q_clamp (k := i) (by omega), hn, hk0, hk1, hfl]
  obtain ⟨x, hx, x1, x2, x3⟩ := C_advance hF (w := w) (a1 := n - k0) (a2 := n - k1) (fl := fl) hA hp (far10 bn.2 b0.1 b0.2 bn.1) (far10 bn.2 b1.1 b1.2 bn.1)
  have hadv : (k = 0 ∨ k = 2) → Q (bd2 (fX3_advance F σ w (n - k0) (n - k1) fl) fun r4 u5 => ckB r4 (some (r4, u5))) := by
    intro hk
    refine wb2 (r := x.1) (u := x.2) hx ?_
    have hc : ckB x.1 (some (x.1, x.2)) = some x := by
      rw [x1]; unfold oN; split
      · rw [ckB1]; rw [← show x.1 = 1 from by rw [x1]; unfold oN; rw [if_pos (by assumption)]]
      · rw [ckB0]; rw [← show x.1 = 0 from by rw [x1]; unfold oN; rw [if_neg (by assumption)]]
    rw [hc]
    have : stS fl k w n k0 k1 p = advS fl w (n - k0).toNatClampNeg (n - k1).toNatClampNeg p := by unfold stS; rw [if_pos hk]
    exact hQ _ (by rw [this]; exact ⟨x1, x2, x3⟩)
  refine wi (fun c0 => ?_) fun c0 => ?_
  · exact wk (k := i) rfl (by omega) (by omega) (wk (k := i) rfl (by omega) (by omega) (hadv (.inl c0)))
  refine wi (fun c1 => ?_) fun c1 => ?_
  · refine wk (k := i) rfl (by omega) (by omega) ?_
    subst c1
    obtain ⟨g1, g2, g3, g4, g5, g6⟩ := hA
    have hst : stS fl 1 w n k0 k1 p = some (p.1, p.2.1, (if w = 1 then p.2.2.1 else (p.2.2.1 + n) &&& 3), p.2.2.2.1, p.2.2.2.2.1, (if w = 0 then p.2.2.2.2.2 else (p.2.2.2.2.2 + n) &&& 3)) := rfl
    unfold fX3_turn
    rw [hst] at hQ
    simp only [jn, nm]
    by_cases c2 : w = 0
    · subst c2
      refine hQ (1, up σ 70 0 ((σ 70 0 + n) &&& 3)) ⟨rfl, ?_, ?_⟩
      · simp [AtC, up, upd, g1, g2, g3, g4, g5, g6]
      · intro c h1 h2 h3; simp [up, h3]
    · rw [if_neg c2]
      by_cases c3 : w = 1
      · subst c3
        refine hQ (1, up σ 70 1 ((σ 70 1 + n) &&& 3)) ⟨rfl, ?_, ?_⟩
        · simp [AtC, up, upd, g1, g2, g3, g4, g5, g6]
        · intro c h1 h2 h3; simp [up, h3]
      · rw [if_neg c3, if_neg c2]
        refine hQ (1, up (up σ 70 0 ((σ 70 0 + n) &&& 3)) 70 1 (((up σ 70 0 ((σ 70 0 + n) &&& 3)) 70 1 + n) &&& 3)) ⟨rfl, ?_, ?_⟩
        · simp [AtC, up, upd, g1, g2, g3, g4, g5, g6, c2, c3]
        · intro c h1 h2 h3; simp [up, h3]
  refine wi (fun c2 => ?_) fun c2 => ?_
  · exact wk (k := i) rfl (by omega) (by omega) (wk (k := i) rfl (by omega) (by omega) (hadv (.inr c2)))
  refine wi (fun c3 => ?_) fun c3 => ?_
  · have : stS fl k w n k0 k1 p = some p := by unfold stS; rw [c3]; rfl
    exact hQ _ (by rw [this]; exact ⟨rfl, hA, ExC.rfl⟩)
  refine wi (fun c4 => ?_) fun c4 => ?_
  · have : stS fl k w n k0 k1 p = some (p.2.2.2.1, p.2.2.2.2.1, p.2.2.1, p.1, p.2.1, p.2.2.2.2.2) := by unfold stS; rw [c4]; rfl
    obtain ⟨g1, g2, g3, g4, g5, g6⟩ := hA
    unfold fX3_changePlaces
    refine hQ _ ?_
    rw [this]
    refine ⟨rfl, ?_, ?_⟩
    · simp [AtC, up, upd, nm, g1, g2, g3, g4, g5, g6]
    · intro c h1 h2 h3
      simp [up, nm, h1, h2]
  · exfalso; grind
def tn0 (w n : Int32) (p : Po) : Po := (p.1, p.2.1, (if w = 1 then p.2.2.1 else (p.2.2.1 + n) &&& 3), p.2.2.2)
def tn1 (w n : Int32) (p : Po) : Po := (p.1, p.2.1, p.2.2.1, p.2.2.2.1, p.2.2.2.2.1, (if w = 0 then p.2.2.2.2.2 else (p.2.2.2.2.2 + n) &&& 3))
def phM (fl k w n k0 k1 : Int32) (p : Po) : Nat → Option Po
  | 0 => some p
  | 1 => if k = 0 ∨ k = 2 then ph1 fl w (n - k0).toNatClampNeg p else if k = 1 then some (tn0 w n p) else some p
  | _ => if k = 0 ∨ k = 2 then advS fl w (n - k0).toNatClampNeg (n - k1).toNatClampNeg p else if k = 1 then some (tn1 w n (tn0 w n p)) else some p
theorem phM1 (fl k w n k0 k1 : Int32) (p : Po) : phM fl k w n k0 k1 p 1 = if k = 0 ∨ k = 2 then ph1 fl w (n - k0).toNatClampNeg p else if k = 1 then some (tn0 w n p) else some p := rfl
theorem phM2 (fl k w n k0 k1 : Int32) (p : Po) : phM fl k w n k0 k1 p 2 = if k = 0 ∨ k = 2 then advS fl w (n - k0).toNatClampNeg (n - k1).toNatClampNeg p else if k = 1 then some (tn1 w n (tn0 w n p)) else some p := rfl
def PhM (τ : St) (k : Int32) (o : Option Po) (can : Int32) (σ : St) : Prop := (∃ q, o = some q ∧ can = 1 ∧ AtM σ q ∧ PoOk q ∧ (k = 1 ∨ σ 23 = τ 23)) ∨ (o = none ∧ can = 0 ∧ σ 23 = τ 23)
theorem ph1_ok {fl w : Int32} {f0 : Nat} {p q : Po} (hp : PoOk p) (h : ph1 fl w f0 p = some q) : PoOk q := by
  have := ph1_sd h
  exact ⟨by rw [this]; exact hp.1, by rw [this]; exact hp.2⟩
theorem M_dances {F : Nat} (hF : 20 ≤ F) {τ : St} (hD : DXY τ) {d i : Nat} (hd : d < 8) (hi : i < 10) {k w n k0 k1 : Int32} {p : Po}
    (hk : τ 11 (10 * d + i) = k) (hw : τ 12 (10 * d + i) = w) (hn : τ 13 (10 * d + i) = n)
    (hs0 : ∀ τ', ExM τ τ' → fX11_stiff F τ' (qN d) 0 = some k0) (hs1 : ∀ τ', ExM τ τ' → fX11_stiff F τ' (qN d) 1 = some k1)
    (bn : 0 ≤ n ∧ n ≤ 9) (b0 : 0 ≤ k0 ∧ k0 ≤ 1000) (b1 : 0 ≤ k1 ∧ k1 ≤ 1000) (bk : 0 ≤ k ∧ k ≤ 4) (bw : 0 ≤ w ∧ w ≤ 2) (hA : AtM τ p) (hp : PoOk p) :
    ∃ x, fX11_dances F τ (qN d) (qN i) = some x ∧ x.1 = oN (stS (τ 5 2) k w n k0 k1 p) ∧ AtM x.2 ((stS (τ 5 2) k w n k0 k1 p).getD p) ∧ ExM τ x.2 := by
  refine wpI fun Q hQ => ?_
  unfold fX11_dances
  have hpl : 10 * qN d + qN i = qN (10 * d + i) := by simp only [q_lit]; rw [q_mul, q_add]
  refine wn fun x1 ex1 => wn fun b1' e1 => wn fun b2 e2 => wn fun b3 e3 => wn fun b4 e4 => ?_
  rw [hpl] at ex1
  subst ex1
  obtain ⟨g1, g2, g3, g4, g5, g6⟩ := id hA
  rw [g1] at e1; rw [g2] at e2; rw [g4] at e3; rw [g5] at e4
  refine lp_up Q (fun j (v : St × Int32 × Int32) => ExM τ v.1 ∧ v.2.1 = qN j ∧ PhM τ k (phM (τ 5 2) k w n k0 k1 p j) v.2.2 v.1) 2 ?_ F 0 _ (by omega) (by omega) ⟨ExM.rfl, rfl, (.inl ⟨p, rfl, rfl, hA, hp, .inr rfl⟩)⟩
  rintro j ⟨u, c, can⟩ K hj ⟨hE, hc, hm⟩ hK
  dsimp only at hE hc hm
  subst hc
  dsimp only
  have u11 : u 11 = τ 11 := hE 11 (by decide) (by decide) (by decide)
  have u12 : u 12 = τ 12 := hE 12 (by decide) (by decide) (by decide)
  have u13 : u 13 = τ 13 := hE 13 (by decide) (by decide) (by decide)
  have u5 : u 5 = τ 5 := hE 5 (by decide) (by decide) (by decide)
  have uD : DXY u := fun a ha => by
    rw [hE 3 (by decide) (by decide) (by decide), hE 4 (by decide) (by decide) (by decide)]; exact hD a ha
  have hcl : (qN (10 * d + i)).toNatClampNeg = 10 * d + i := q_clamp (by omega)
  simp only [hcl, u11, u12, u13, hk, hw, hn]
  refine wj fun J hJ => ?_
  have hfail : can = 0 → phM (τ 5 2) k w n k0 k1 p j = none → Q (J ()) := by
    intro hc hq
    subst hc
    have hk02 : k = 0 ∨ k = 2 := by
      rcases (by omega : j = 0 ∨ j = 1 ∨ j = 2) with rfl | rfl | rfl
      · simp [phM] at hq
      · rw [phM1] at hq
        by_cases hh : k = 0 ∨ k = 2
        · exact hh
        · rw [if_neg hh] at hq; split at hq <;> cases hq
      · rw [phM2] at hq
        by_cases hh : k = 0 ∨ k = 2
        · exact hh
        · rw [if_neg hh] at hq; split at hq <;> cases hq
    have hst : stS (τ 5 2) k w n k0 k1 p = none := by
      unfold stS; rw [if_pos hk02]
      rcases (by omega : j = 0 ∨ j = 1 ∨ j = 2) with rfl | rfl | rfl
      · simp [phM] at hq
      · rw [phM1, if_pos hk02] at hq
        unfold advS; rw [hq]; rfl
      · rw [phM2, if_pos hk02] at hq; exact hq
    rw [hJ]
    refine wk (k := 10 * d + i) rfl (by omega) (by omega) (wj fun J2 hJ2 => ?_)
    rw [if_neg (by rcases hk02 with h | h <;> rw [h] <;> decide), hJ2, if_pos rfl]
    have h23 : u 23 = τ 23 := by
      rcases hm with ⟨q, hq', _⟩ | ⟨_, _, h⟩
      · rw [hq] at hq'; cases hq'
      · exact h
    refine hQ _ ?_
    rw [hst]
    refine ⟨rfl, ?_, ?_⟩
    · simp [nm, AtM, up, upd, e1, e2, e3, e4, g3, g6, h23]
    · intro x e1 e2 e3
      simp only [nm, up, e1, e2, if_false]
      exact hE x e1 e2 e3
  have hnx : ∀ v' : St × Int32 × Int32, j < 2 → ExM τ v'.1 → v'.2.1 = qN (j + 1) → PhM τ k (phM (τ 5 2) k w n k0 k1 p (j + 1)) v'.2.2 v'.1 → Q (K v') := fun v' h1 e1 e3 e4 => hK v' h1 ⟨e1, e3, e4⟩
  clear hK
  refine wi (fun hj2 => ?_) fun hj2 => ?_
  · have hj2 : j = 2 := by
      simp only [q_lit] at hj2; rw [q_le (by decide) (by omega)] at hj2; omega
    subst hj2
    rcases hm with ⟨q, hq, rfl, hAq, hqs, q23⟩ | ⟨hq, rfl, h23⟩
    · rw [hJ]
      refine wk (k := 10 * d + i) rfl (by omega) (by omega) (wj fun J2 hJ2 => ?_)
      refine wi (fun c4 => ?_) fun c4 => ?_
      · subst c4
        have hq' : q = p := by
          rw [phM2, if_neg (by decide), if_neg (by decide)] at hq; injection hq with hq; exact hq.symm
        subst hq'
        unfold fX11_bow
        simp only [nm, bd1]
        rw [hJ2, if_neg (by decide)]
        refine hQ _ ⟨rfl, ?_, ?_⟩
        · obtain ⟨a1, a2, a3, a4, a5, a6⟩ := hAq
          simp [AtM, stS, up, upd, a1, a2, a3, a4, a5, a6]
        · intro c h1 h2 h3
          simp only [up, h1, h2, if_false]
          exact hE c h1 h2 h3
      · rw [hJ2, if_neg (by decide)]
        have hst : stS (τ 5 2) k w n k0 k1 p = some q := by
          rw [← hq]
          rw [phM2]
          unfold stS
          by_cases h1 : k = 0 ∨ k = 2
          · rw [if_pos h1, if_pos h1]
          · rw [if_neg h1, if_neg h1]
            by_cases h2 : k = 1
            · rw [if_pos h2, if_pos h2]; rfl
            · rw [if_neg h2, if_neg h2, if_neg c4]
        exact hQ _ ⟨by rw [hst]; rfl, by rw [hst]; exact hAq, hE⟩
    · exact hfail rfl hq
  · have hj1 : j < 2 := by
      simp only [q_lit] at hj2; rw [q_le (by decide) (by omega)] at hj2; omega
    clear hj2
    rcases hm with ⟨q, hq, rfl, hAq, hqs, q23⟩ | ⟨hq, rfl, h23⟩
    · rw [if_neg (by decide)]
      refine wk (k := 10 * d + i) rfl (by omega) (by omega) (wj fun J2 hJ2 => ?_)
      have hskip : ¬(w = 2 ∨ w = qN j) → Q (K (u, qN j + 1, 1)) := by
        intro hw2
        refine hnx _ hj1 hE (q_add j 1) (.inl ⟨q, ?_, rfl, hAq, hqs, q23⟩)
        rcases (by omega : j = 0 ∨ j = 1) with rfl | rfl
        · have hq' : q = p := by injection hq with hq; exact hq.symm
          subst hq'
          show phM _ _ _ _ _ _ _ 1 = _
          rw [phM1]
          split
          · exact if_neg hw2
          · split
            · unfold tn0
              have : w = 1 := by
                have h1 : ¬ w = 2 := fun h => hw2 (.inl h)
                have h2 : ¬ w = 0 := fun h => hw2 (.inr h)
                grind
              rw [if_pos this]
            · rfl
        · show phM _ _ _ _ _ _ _ 2 = _
          rw [← hq]
          rw [phM1, phM2]
          split
          · unfold advS
            cases hph : ph1 (τ 5 2) w (n - k0).toNatClampNeg p with
            | none => rfl
            | some a => exact if_neg hw2
          · split
            · have : w = 0 := by
                have h1 : ¬ w = 2 := fun h => hw2 (.inl h)
                have h2 : ¬ w = 1 := fun h => hw2 (.inr h)
                grind
              unfold tn1; rw [if_pos this]
            · rfl
      have hgo : (w = 2 ∨ w = qN j) → Q (J2 ()) := by
        intro hw2
        rw [hJ2]
        refine wk (k := 10 * d + i) rfl (by omega) (by omega) (wj fun J3 hJ3 => ?_)
        refine wi (fun c1 => ?_) fun c1 => ?_
        · subst c1
          refine wk (k := j) rfl (by omega) (by omega) (wk (k := 10 * d + i) rfl (by omega) (by omega) (wk (k := j) rfl (by omega) (by omega) (wn fun u2 eu2 => ?_)))
          rw [hJ3]
          have u2E : ExM τ u2 := fun c h1 h2 h3 => by rw [eu2, up_ne _ _ _ h3]; exact hE c h1 h2 h3
          have e11 : u2 11 = τ 11 := u2E 11 (by decide) (by decide) (by decide)
          simp only [e11, hk]
          refine wk (k := 10 * d + i) rfl (by omega) (by omega) (wj fun J4 hJ4 => ?_)
          rw [if_neg (by decide)]
          refine wk (k := 10 * d + i) rfl (by omega) (by omega) ?_
          rw [if_neg (by decide)]
          obtain ⟨a1, a2, a3, a4, a5, a6⟩ := hAq
          rcases (by omega : j = 0 ∨ j = 1) with rfl | rfl
          · have hq' : q = p := by injection hq with hq; exact hq.symm
            subst hq'
            have hw1 : ¬ w = 1 := by intro h; subst h; rcases hw2 with h | h <;> exact absurd h (by decide)
            refine hnx _ hj1 u2E (q_add 0 1) (.inl ⟨tn0 w n q, rfl, rfl, ?_, ?_, .inl rfl⟩)
            · rw [eu2]
              simp [AtM, tn0, up, upd, a1, a2, a3, a4, a5, a6, hw1, show (qN 0).toNatClampNeg = 0 from rfl, (and3 hqs.1 bn.1 bn.2).2]
            · refine ⟨?_, hqs.2⟩
              unfold tn0; rw [if_neg hw1]; exact (and3 hqs.1 bn.1 bn.2).1
          · have hq' : q = tn0 w n p := by injection hq with hq; exact hq.symm
            subst hq'
            have hw1 : ¬ w = 0 := by intro h; subst h; rcases hw2 with h | h <;> exact absurd h (by decide)
            refine hnx _ hj1 u2E (q_add 1 1) (.inl ⟨tn1 w n (tn0 w n p), rfl, rfl, ?_, ?_, .inl rfl⟩)
            · have hk2 := (and3 hqs.2 bn.1 bn.2).2
              generalize tn0 w n p = q at *
              rw [eu2]
              simp [AtM, tn1, up, upd, a1, a2, a3, a4, a5, a6, hw1, show (qN 1).toNatClampNeg = 1 from rfl, hk2]
            · refine ⟨hqs.1, ?_⟩
              generalize tn0 w n p = q at *
              unfold tn1; rw [if_neg hw1]; exact (and3 hqs.2 bn.1 bn.2).1
        · rw [hJ3]
          simp only [u11, u13, hk, hn]
          refine wk (k := 10 * d + i) rfl (by omega) (by omega) (wj fun J4 hJ4 => ?_)
          have hst : (k = 0 ∨ k = 2) → Q (J4 ()) := by
            intro hk02
            rw [hJ4]
            refine wk (k := 10 * d + i) rfl (by omega) (by omega) ?_
            rcases (by omega : j = 0 ∨ j = 1) with rfl | rfl
            · have hq' : q = p := by injection hq with hq; exact hq.symm
              subst hq'
              refine wb1 (hs0 u hE) ?_
              obtain ⟨x, hx, hor, xE, x23⟩ := M_goes0 hF uD (far := n - k0) hAq hqs (far10 bn.2 b0.1 b0.2 bn.1)
              refine wb2 (r := x.1) (u := x.2) hx ?_
              rw [u5] at hor
              refine hnx _ hj1 (hE.trans xE) (q_add 0 1) ?_
              have hph : phM (τ 5 2) k w n k0 k1 q (0 + 1) = (goS (τ 5 2) (dAL q.2.2.1.toNatClampNeg) (dDN q.2.2.1.toNatClampNeg) q.2.2.2.1 q.2.2.2.2.1 (n - k0).toNatClampNeg q.1 q.2.1).map (fun r => (r.1, r.2, q.2.2)) := by
                show phM _ _ _ _ _ _ _ 1 = _
                rw [phM1, if_pos hk02]; exact if_pos hw2
              have q23' : x.2 23 = τ 23 := x23.trans (q23.resolve_left c1)
              rcases hor with ⟨r, hr, hx1, hxA⟩ | ⟨hr, hx1⟩
              · refine .inl ⟨_, ?_, hx1, hxA, hqs, .inr q23'⟩
                rw [hph, hr]; rfl
              · exact .inr ⟨by rw [hph, hr]; rfl, hx1, q23'⟩
            · have hq' : ph1 (τ 5 2) w (n - k0).toNatClampNeg p = some q := by rw [← hq, phM1, if_pos hk02]
              refine wb1 (hs1 u hE) ?_
              obtain ⟨x, hx, hor, xE, x23⟩ := M_goes1 hF uD (far := n - k1) hAq hqs (far10 bn.2 b1.1 b1.2 bn.1)
              refine wb2 (r := x.1) (u := x.2) hx ?_
              rw [u5] at hor
              refine hnx _ hj1 (hE.trans xE) (q_add 1 1) ?_
              have hph : phM (τ 5 2) k w n k0 k1 p (1 + 1) = (goS (τ 5 2) (dAL q.2.2.2.2.2.toNatClampNeg) (dDN q.2.2.2.2.2.toNatClampNeg) q.1 q.2.1 (n - k1).toNatClampNeg q.2.2.2.1 q.2.2.2.2.1).map (fun r => (q.1, q.2.1, q.2.2.1, r.1, r.2, q.2.2.2.2.2)) := by
                show phM _ _ _ _ _ _ _ 2 = _
                rw [phM2, if_pos hk02]; unfold advS; rw [hq']; exact if_pos hw2
              have q23' : x.2 23 = τ 23 := x23.trans (q23.resolve_left c1)
              rcases hor with ⟨r, hr, hx1, hxA⟩ | ⟨hr, hx1⟩
              · refine .inl ⟨_, ?_, hx1, hxA, hqs, .inr q23'⟩
                rw [hph, hr]; rfl
              · exact .inr ⟨by rw [hph, hr]; rfl, hx1, q23'⟩
          refine wi (fun c0 => hst (.inl c0)) fun c0 => ?_
          refine wk (k := 10 * d + i) rfl (by omega) (by omega) ?_
          refine wi (fun c2 => hst (.inr c2)) fun c2 => ?_
          refine hnx _ hj1 hE (q_add j 1) (.inl ⟨q, ?_, rfl, hAq, hqs, q23⟩)
          rw [← hq]
          rcases (by omega : j = 0 ∨ j = 1) with rfl | rfl
          · show phM _ _ _ _ _ _ _ 1 = phM _ _ _ _ _ _ _ 0
            rw [phM1, if_neg (by intro h; rcases h with h | h; exact c0 h; exact c2 h), if_neg c1]; rfl
          · show phM _ _ _ _ _ _ _ 2 = phM _ _ _ _ _ _ _ 1
            rw [phM1, phM2, if_neg (by intro h; rcases h with h | h; exact c0 h; exact c2 h), if_neg c1, if_neg (by intro h; rcases h with h | h; exact c0 h; exact c2 h), if_neg c1]
      exact wi (fun c2 => hgo (.inl c2)) fun c2 => wk (k := 10 * d + i) rfl (by omega) (by omega) (wi (fun c3 => hgo (.inr c3)) fun c3 => hskip (by intro h; rcases h with h | h; exact c2 h; exact c3 h))
    · rw [if_pos rfl]
      exact hfail rfl hq
