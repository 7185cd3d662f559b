set_option linter.unusedVariables false
set_option linter.unusedSimpArgs false
set_option maxRecDepth 16384
/-! the costliest stumble -/
section
variable {F d S : Nat} {fl k0 k1 : Int32} {kd wh ns : Nat → Int32}
def c2N (fl k0 k1 : Int32) (kd wh : Nat → Int32) (S : Nat) (ns : Nat → Int32) (i : Nat) (k : Nat) : Option Nat :=
  if k = 0 then (if ns i ≤ 0 then none else if efN fl k0 k1 kd wh S (upd ns i (ns i - 1)) then none else some (10 * i + (ns i).toNatClampNeg - 1))
  else (if 9 ≤ ns i then none else if efN fl k0 k1 kd wh S (upd ns i (ns i + 1)) then none else some (10 * i + (ns i).toNatClampNeg + 1))
def coN (fl k0 k1 : Int32) (kd wh : Nat → Int32) (S : Nat) (ns : Nat → Int32) (i : Nat) : Option Nat := if cgK kd i then fO (c2N fl k0 k1 kd wh S ns i) 2 else none
theorem c2_lt {i k x : Nat} (hn : ns i ≤ 9) (h : c2N fl k0 k1 kd wh S ns i k = some x) : x < 10 * i + 12 := by
  have h9 : (ns i).toNatClampNeg ≤ 9 := by
    have := (far_le (far := ns i) (j := 9) (by decide)).1 hn
    exact this
  unfold c2N at h
  split at h
  · split at h
    · cases h
    · split at h
      · cases h
      · injection h with h; omega
  · split at h
    · cases h
    · split at h
      · cases h
      · injection h with h; omega
theorem co_lt {i x : Nat} (hn : ns i ≤ 9) (h : coN fl k0 k1 kd wh S ns i = some x) : x < 10 * i + 12 := by
  unfold coN at h
  split at h
  · obtain ⟨k, hk, e⟩ := fO_ex h
    exact c2_lt hn e
  · cases h
theorem C_firstCost (hF : 20 ≤ F) (hB : PB S k0 k1 kd wh ns) {σ : St} (hC : CP σ d S fl k0 k1 kd wh ns) {i : Nat} (hi : i < S) :
    ∃ u, fX5_firstCost F σ (qN i) = some (nO (fO (c2N fl k0 k1 kd wh S ns i) 2), u) ∧ HE σ u ∧ (∀ j, j < S → u 71 j = ns j) := by
  have hS := hB.1
  have hni := (hB.2.2.2 i hi).2.2
  obtain ⟨b, hb, hb10⟩ := q_get (x := ns i) (n := 10) (by grind) (by show ns i < 10; grind) (by decide)
  have hm : ∃ x, fX5_firstCost F σ (qN i) = some x ∧ x.1 = nO (fO (c2N fl k0 k1 kd wh S ns i) 2) ∧ HE σ x.2 ∧ (∀ j, j < S → x.2 71 j = ns j) := by
    refine wpI fun Q hQ => ?_
    unfold fX5_firstCost
    refine wk (k := i) rfl (by omega) (by omega) (wn fun x1 e1 => ?_)
    rw [q_clamp (by omega), (hC.2.2.2.2.2.2 i hi).2.2] at e1
    subst e1
    refine wn fun x2 e2 => ?_
    refine lp_up Q (fun n (v : St × Int32 × Int32) => HE σ v.1 ∧ (∀ j, j < S → j ≠ i → v.1 71 j = ns j) ∧ v.2.1 = ns i - 1 + qN (2 * n) ∧ v.2.2 = nO (fO (c2N fl k0 k1 kd wh S ns i) n)) 2 ?_ F 0 _ (by omega) (by omega) ⟨HE.rfl, fun j hj _ => (hC.2.2.2.2.2.2 j hj).2.2, by show x2 = _; rw [e2]; exact (Int32.add_zero _).symm, rfl⟩
    rintro n ⟨v, c, f⟩ K hn ⟨hE, h71, hc, hf⟩ hK
    dsimp only at hE h71 hc hf
    subst hf
    dsimp only
    refine wj fun J hJ => ?_
    have hJQ : fO (c2N fl k0 k1 kd wh S ns i) n = fO (c2N fl k0 k1 kd wh S ns i) 2 → Q (J ()) := by
      intro he
      rw [hJ]
      refine wk (k := i) rfl (by omega) (by omega) (wn fun u8 e8 => hQ _ ⟨by rw [he], ?_, fun j hj => ?_⟩)
      · show HE σ u8; rw [e8]; exact hE.trans (HE_up (by decide))
      · show u8 71 j = _
        rw [e8, q_clamp (by omega), up_same]
        by_cases hji : j = i
        · subst hji; rw [upd_same]
        · rw [upd_ne _ _ hji]; exact h71 j hj hji
    have hlt : ∀ x, fO (c2N fl k0 k1 kd wh S ns i) n = some x → x < 2147483648 := by
      intro x hx
      obtain ⟨k, hk, e⟩ := fO_ex hx
      have := c2_lt hni.2 e
      omega
    by_cases h2 : n = 2
    · subst h2
      rw [if_pos (by rw [hc, show qN (2 * 2) = 4 from rfl]; grind)]; exact hJQ rfl
    · have hcn : ¬ ns i + 1 < c := by
        rw [hc]
        rcases (by omega : n = 0 ∨ n = 1) with rfl | rfl
        · rw [show qN (2 * 0) = 0 from rfl]; grind
        · rw [show qN (2 * 1) = 2 from rfl]; grind
      rw [if_neg hcn]
      cases hfo : fO (c2N fl k0 k1 kd wh S ns i) n with
      | some x =>
        rw [hfo] at hlt
        rw [if_neg (by rw [nO_m1 hlt]; intro h; cases h)]
        exact hJQ (by rw [hfo]; exact (fO_some hfo 2 (by omega)).symm)
      | none =>
        rw [if_pos (show nO none = -1 from rfl)]
        refine wk (k := i) rfl (by omega) (by omega) (wn fun u9 e9 => ?_)
        rw [q_clamp (by omega)] at e9
        have hE9 : HE σ u9 := by rw [e9]; exact hE.trans (HE_up (by decide))
        have h9 : ∀ j, j < S → u9 71 j = upd ns i c j := fun j hj => by
          rw [e9, up_same]
          by_cases hji : j = i
          · subst hji; rw [upd_same, upd_same]
          · rw [upd_ne _ _ hji, upd_ne _ _ hji]; exact h71 j hj hji
        have hnx : c + 2 = ns i - 1 + qN (2 * (n + 1)) := by
          rw [hc, show 2 * (n + 1) = 2 * n + 2 by omega, ← q_add, show (2 : Int32) = qN 2 from rfl]; grind
        have hg0 : n = 0 → c2N fl k0 k1 kd wh S ns i n = if ns i ≤ 0 then none else if efN fl k0 k1 kd wh S (upd ns i c) then none else some (10 * i + (ns i).toNatClampNeg - 1) := by
          intro h; subst h
          have : c = ns i - 1 := by rw [hc, show qN (2 * 0) = 0 from rfl]; exact Int32.add_zero _
          rw [this]; rfl
        have hg1 : n = 1 → c2N fl k0 k1 kd wh S ns i n = if 9 ≤ ns i then none else if efN fl k0 k1 kd wh S (upd ns i c) then none else some (10 * i + (ns i).toNatClampNeg + 1) := by
          intro h; subst h
          have : c = ns i + 1 := by rw [hc, show qN (2 * 1) = 2 from rfl]; grind
          rw [this]; rfl
        have hskip : c2N fl k0 k1 kd wh S ns i n = none → ∀ w : St, HE σ w → (∀ j, j < S → j ≠ i → w 71 j = ns j) → Q (K (w, c + 2, nO none)) := by
          intro hh w hw hw7
          refine hK _ (by omega) ⟨hw, hw7, hnx, ?_⟩
          show nO none = nO (fO _ (n + 1))
          rw [fO_none hfo, hh]
        have h97 : ∀ j, j < S → j ≠ i → u9 71 j = ns j := fun j hj hji => by rw [h9 j hj, upd_ne _ _ hji]
        refine wi (fun hneg => ?_) fun hneg => wi (fun hbig => ?_) fun hbig => ?_
        · refine hskip ?_ u9 hE9 h97
          rcases (by omega : n = 0 ∨ n = 1) with h0 | h1
          · rw [hg0 h0, if_pos (by subst h0; rw [hc, show qN (2 * 0) = 0 from rfl] at hneg; grind)]
          · exfalso; subst h1; rw [hc, show qN (2 * 1) = 2 from rfl] at hneg; grind
        · refine hskip ?_ u9 hE9 h97
          rcases (by omega : n = 0 ∨ n = 1) with h0 | h1
          · exfalso; subst h0; rw [hc, show qN (2 * 0) = 0 from rfl] at hbig; grind
          · rw [hg1 h1, if_pos (by subst h1; rw [hc, show qN (2 * 1) = 2 from rfl] at hbig; grind)]
        · obtain ⟨y, hy, y1, y2⟩ := C_endsFacing hF (hB.upd (i := i) (x := c) ⟨by grind, by grind⟩) (hC.he hE9 h9)
          refine wb2 (r := y.1) (u := y.2) hy ?_
          have hEy := hE9.trans y2.he
          have h7y : ∀ j, j < S → j ≠ i → y.2 71 j = ns j := fun j hj hji => by rw [y2 71 (by decide) (by decide) (by decide), h9 j hj, upd_ne _ _ hji]
          rw [y1]
          show Q (if bI (efN fl k0 k1 kd wh S (upd ns i c)) = 0 then _ else _)
          have hbc : (ns i).toNatClampNeg = b := by rw [hb, q_clamp (by omega)]
          have hcc : c = qN (b + 2 * n - 1) ∧ 1 ≤ b + 2 * n := by
            rcases (by omega : n = 0 ∨ n = 1) with h0 | h1
            · subst h0
              have hb1 : 1 ≤ b := by
                rw [hc, hb, show qN (2 * 0) = 0 from rfl] at hneg
                rcases Nat.eq_zero_or_pos b with h | h
                · subst h; exact absurd (by decide) hneg
                · exact h
              refine ⟨?_, by omega⟩
              rw [hc, hb, show qN (2 * 0) = 0 from rfl, Int32.add_zero]; exact q_sub hb1
            · subst h1
              refine ⟨?_, by omega⟩
              rw [hc, hb, show qN (2 * 1) = 2 from rfl, show b + 2 * 1 - 1 = b + 1 by omega, ← q_add, show qN 1 = 1 from rfl]; grind
          cases hef : efN fl k0 k1 kd wh S (upd ns i c) with
          | true =>
            rw [if_neg (show ¬ bI true = 0 by decide)]
            refine hskip ?_ y.2 hEy h7y
            rcases (by omega : n = 0 ∨ n = 1) with h0 | h1
            · rw [hg0 h0, hef]; split <;> rfl
            · rw [hg1 h1, hef]; split <;> rfl
          | false =>
            rw [if_pos (show bI false = 0 from rfl)]
            refine wn fun x12 e12 => hK _ (by omega) ⟨hEy, h7y, hnx, ?_⟩
            show x12 = nO (fO _ (n + 1))
            rw [fO_none hfo, e12, hcc.1, pl_m]
            rcases (by omega : n = 0 ∨ n = 1) with h0 | h1
            · subst h0
              have hz : ¬ ns i ≤ 0 := by rw [hb, show (0 : Int32) = qN 0 from rfl, q_le (by omega) (by omega)]; omega
              rw [hg0 rfl, if_neg hz, hef, hbc, show 10 * i + b - 1 = 10 * i + (b + 2 * 0 - 1) by omega]; rfl
            · subst h1
              have hz : ¬ 9 ≤ ns i := by
                rw [hc, show qN (2 * 1) = 2 from rfl] at hbig; grind
              rw [hg1 rfl, if_neg hz, hef, hbc, show 10 * i + b + 1 = 10 * i + (b + 2 * 1 - 1) by omega]; rfl
  obtain ⟨x, hx, x1, x2, x3⟩ := hm
  exact ⟨x.2, by rw [hx, ← x1], x2, x3⟩
theorem C_costliest (hF : 20 ≤ F) (hB : PB S k0 k1 kd wh ns) {σ : St} (hC : CP σ d S fl k0 k1 kd wh ns) :
    ∃ u, fX5_costliest F σ = some (nO (fO (coN fl k0 k1 kd wh S ns) S), u) ∧ HE σ u := by
  have hS := hB.1
  have hm : ∃ x, fX5_costliest F σ = some x ∧ x.1 = nO (fO (coN fl k0 k1 kd wh S ns) S) ∧ HE σ x.2 := by
    refine wpI fun Q hQ => ?_
    unfold fX5_costliest
    refine lp_up Q (fun i (v : St × Int32 × Int32) => HE σ v.1 ∧ (∀ j, j < S → v.1 71 j = ns j) ∧ v.2.1 = qN i ∧ v.2.2 = nO (fO (coN fl k0 k1 kd wh S ns) i)) S ?_ F 0 _ (by omega) (by omega) ⟨HE.rfl, fun j hj => (hC.2.2.2.2.2.2 j hj).2.2, rfl, rfl⟩
    rintro i ⟨v, c, f⟩ K hi ⟨hE, h71, hc, hf⟩ hK
    dsimp only at hE h71 hc hf
    subst hc hf
    dsimp only
    have hCv := hC.he hE h71
    have hlt : ∀ x, fO (coN fl k0 k1 kd wh S ns) i = some x → x < 2147483648 := by
      intro x hx
      obtain ⟨k, hk, e⟩ := fO_ex hx
      have := co_lt (hB.2.2.2 k (by omega)).2.2.2 e
      omega
    by_cases hiS : i = S
    · refine wiT (by rw [hCv.2.2.1, hiS]; exact Int32.le_refl _) ?_
      subst hiS
      exact hQ _ ⟨rfl, hE⟩
    · refine wiF (by rw [hCv.2.2.1, q_le (by omega) (by omega)]; omega) ?_
      cases hfo : fO (coN fl k0 k1 kd wh S ns) i with
      | some x =>
        rw [hfo] at hlt
        rw [if_neg (by rw [nO_m1 hlt]; intro h; cases h)]
        exact hQ _ ⟨by show nO (some x) = _; rw [fO_some hfo S (by omega)], hE⟩
      | none =>
        rw [if_pos (show nO none = -1 from rfl)]
        refine wb1 (C_chg5 hCv hS (by omega)) ?_
        have hg : coN fl k0 k1 kd wh S ns i = if cgK kd i then fO (c2N fl k0 k1 kd wh S ns i) 2 else none := rfl
        cases hcg : cgK kd i with
        | false =>
          rw [if_pos (show bI false = 0 from rfl)]
          refine hK _ (by omega) ⟨hE, h71, q_add i 1, ?_⟩
          show nO none = nO (fO _ (i + 1))
          rw [fO_none hfo, hg, hcg]; rfl
        | true =>
          rw [if_neg (show ¬ bI true = 0 by decide)]
          obtain ⟨u, hu, u1, u2⟩ := C_firstCost hF hB hCv (i := i) (by omega)
          refine wb2 hu (hK _ (by omega) ⟨hE.trans u1, u2, q_add i 1, ?_⟩)
          show nO _ = nO (fO _ (i + 1))
          rw [fO_none hfo, hg, hcg]; rfl
  obtain ⟨x, hx, x1, x2⟩ := hm
  exact ⟨x.2, by rw [hx, ← x1], x2⟩
end
section
variable {F : Nat}
theorem sm_costly (hF : 800 ≤ F) : Sm_costly F Rl := by
  intro σ τ a R
  show G1 1 _ _
  unfold fX10_costly fX11_costly
  refine wnG1 fun τ0 h0 => ?_
  have R0 : Rl σ τ0 := by rw [h0]; exact R.fr CE.rfl ME4
  have h4 : τ0 0 4 = 0 := by rw [h0]; exact up4
  clear h0
  have T := R0.2.1
  have N := R0.nw
  rw [C_chkD, M_isDance T, bd1_some, bd1_some]
  by_cases hv : 0 ≤ a ∧ a < σ 2 1
  · rw [if_pos hv, if_pos hv, if_pos rfl, if_neg i10n]
    obtain ⟨d, rfl, hd⟩ := get_d T hv
    have hB := PB_of T N hd (more := 0) (by decide)
    have hM := MP_of (F := F) T N hd R0.2.2.2.2.1
    have hS := hB.1
    have hd8 := hM.1
    obtain ⟨x, hx, x1, x2, xC⟩ := C_isBinding hF T N hd
    have hx' : fX10_isBinding F σ (qN d) = some (bI (bnS σ 0 d), x.2) := by rw [hx, ← x1]
    obtain ⟨u, hu, uE⟩ := C_costliest (F := F) (by omega) hB xC
    rw [hx', bd2_some, hu, bd2_some]
    have hm : ∃ w : St, (lp (fun (K5 : (St × Int32) → Option (Int32 × St)) (v4 : St × Int32) => ckI (qN d) 16 (if (v4.1 10 (Int32.toNatClampNeg (qN d))) ≤ v4.2 then (some ((-1), v4.1)) else bd2 (fX11_isBinding F v4.1 (qN d)) fun r7 u8 => if r7 = 0 then (some ((-1), u8)) else bd1 (fX11_isLimp F u8 (qN d) v4.2) fun r9 => if r9 = 0 then (K5 ((u8, v4.2 + 1))) else ckI ((10 * (qN d)) + v4.2) 160 (nm (u8 13 (Int32.toNatClampNeg ((10 * (qN d)) + v4.2))) fun x10 => jn (fun v11 : St => if (9 : Int32) ≤ x10 then (K5 ((v11, v4.2 + 1))) else bd2 (fX11_endsWellBy F v11 (qN d) v4.2 (x10 + 1)) fun r14 u15 => if r14 = 0 then (some (((10 * v4.2) + x10) + 1, u15)) else K5 ((u15, v4.2 + 1))) fun J12 => if x10 ≤ 0 then (J12 u8) else bd2 (fX11_endsWellBy F u8 (qN d) v4.2 (x10 - 1)) fun r16 u17 => if r16 = 0 then (some (((10 * v4.2) + x10) - 1, u17)) else J12 u17))) F ((τ0, 0))) = some ((if bnS σ 0 d then nO (fO (coN (σ 2 2) (kn0 30 31 σ 0 d) (kn1 30 31 σ 0 d) (kdF σ d) (whF σ d) (nS σ d) (nsF 33 σ d)) (nS σ d)) else -1), w) ∧ ExM τ0 w := by
      have hmm := wpI (e := lp (fun (K5 : (St × Int32) → Option (Int32 × St)) (v4 : St × Int32) => ckI (qN d) 16 (if (v4.1 10 (Int32.toNatClampNeg (qN d))) ≤ v4.2 then (some ((-1), v4.1)) else bd2 (fX11_isBinding F v4.1 (qN d)) fun r7 u8 => if r7 = 0 then (some ((-1), u8)) else bd1 (fX11_isLimp F u8 (qN d) v4.2) fun r9 => if r9 = 0 then (K5 ((u8, v4.2 + 1))) else ckI ((10 * (qN d)) + v4.2) 160 (nm (u8 13 (Int32.toNatClampNeg ((10 * (qN d)) + v4.2))) fun x10 => jn (fun v11 : St => if (9 : Int32) ≤ x10 then (K5 ((v11, v4.2 + 1))) else bd2 (fX11_endsWellBy F v11 (qN d) v4.2 (x10 + 1)) fun r14 u15 => if r14 = 0 then (some (((10 * v4.2) + x10) + 1, u15)) else K5 ((u15, v4.2 + 1))) fun J12 => if x10 ≤ 0 then (J12 u8) else bd2 (fX11_endsWellBy F u8 (qN d) v4.2 (x10 - 1)) fun r16 u17 => if r16 = 0 then (some (((10 * v4.2) + x10) - 1, u17)) else J12 u17))) F ((τ0, 0))) (P := fun x => x.1 = (if bnS σ 0 d then nO (fO (coN (σ 2 2) (kn0 30 31 σ 0 d) (kn1 30 31 σ 0 d) (kdF σ d) (whF σ d) (nS σ d) (nsF 33 σ d)) (nS σ d)) else -1) ∧ ExM τ0 x.2) ?_
      · obtain ⟨x, hx, x1, x2⟩ := hmm
        exact ⟨x.2, by rw [hx, ← x1], x2⟩
      intro Q hQ
      generalize hgl : coN (σ 2 2) (kn0 30 31 σ 0 d) (kn1 30 31 σ 0 d) (kdF σ d) (whF σ d) (nS σ d) (nsF 33 σ d) = g at *
      refine lp_up Q (fun i (v : St × Int32) => ExM τ0 v.1 ∧ v.2 = qN i ∧ fO g i = none ∧ (i = 0 ∨ bnS σ 0 d = true)) (nS σ d) ?_ F 0 _ (by omega) (by omega) ⟨ExM.rfl, rfl, rfl, .inl rfl⟩
      rintro i ⟨v, c⟩ K hi ⟨hE, hc, hf, hor⟩ hK
      dsimp only at hE hc
      subst hc
      dsimp only
      refine wk (k := d) rfl (by omega) (by omega) ?_
      by_cases hiS : i = nS σ d
      · refine wiT (by rw [q_clamp (by omega), hE 10 (by decide) (by decide) (by decide), hM.2.2.2.1, hiS]; exact Int32.le_refl _) ?_
        refine hQ _ ⟨?_, hE⟩
        rw [← hiS, hf]
        split <;> rfl
      · have hiS' : i < nS σ d := by omega
        refine wiF (by rw [q_clamp (by omega), hE 10 (by decide) (by decide) (by decide), hM.2.2.2.1, q_le (by omega) (by omega)]; omega) ?_
        obtain ⟨y, hy, y1, y2⟩ := M_isBinding (F := F) (by omega) (T.fr CE.rfl hE.me) (N.fr (by decide) CE.rfl hE.me) (more := 0) (by decide) (by rw [hE 0 (by decide) (by decide) (by decide)]; exact R0.2.2.2.2.1) hd
        refine wb2 (r := y.1) (u := y.2) hy ?_
        have hEy := hE.trans y2
        rw [y1]
        cases hbn : bnS σ 0 d with
        | false =>
          rw [if_pos (show bI false = 0 from rfl)]
          exact hQ _ ⟨by rw [hbn]; rfl, hEy⟩
        | true =>
          rw [if_neg (show ¬ bI true = 0 by decide)]
          have hMy := hM.ex hEy
          refine wb1 (M_chg hMy hS hiS') ?_
          have hg : g i = if cgK (kdF σ d) i then fO (c2N (σ 2 2) (kn0 30 31 σ 0 d) (kn1 30 31 σ 0 d) (kdF σ d) (whF σ d) (nS σ d) (nsF 33 σ d) i) 2 else none := by rw [← hgl]; rfl
          cases hcg : cgK (kdF σ d) i with
          | false =>
            rw [if_pos (show bI false = 0 from rfl)]
            refine hK _ hiS' ⟨hEy, q_add i 1, ?_, .inr hbn⟩
            rw [fO_none hf, hg, hcg]; rfl
          | true =>
            rw [if_neg (show ¬ bI true = 0 by decide), pl_m]
            refine wk (k := 10 * d + i) rfl (by omega) (by omega) (wn fun x10 e10 => ?_)
            rw [q_clamp (by omega), (hMy.2.2.2.2.2.2 i hiS').2.2] at e10
            have hni := (hB.2.2.2 i hiS').2.2
            rw [hcg, if_pos rfl] at hg
            obtain ⟨b, hb, hb10⟩ := q_get (x := nsF 33 σ d i) (n := 10) (by grind) (by show nsF 33 σ d i < 10; grind) (by decide)
            have hbc : (nsF 33 σ d i).toNatClampNeg = b := by rw [hb, q_clamp (by omega)]
            generalize hc2 : c2N (σ 2 2) (kn0 30 31 σ 0 d) (kn1 30 31 σ 0 d) (kdF σ d) (whF σ d) (nS σ d) (nsF 33 σ d) i = g2 at *
            have hg0 : g2 0 = if nsF 33 σ d i ≤ 0 then none else if efN (σ 2 2) (kn0 30 31 σ 0 d) (kn1 30 31 σ 0 d) (kdF σ d) (whF σ d) (nS σ d) (upd (nsF 33 σ d) i (nsF 33 σ d i - 1)) then none else some (10 * i + (nsF 33 σ d i).toNatClampNeg - 1) := by rw [← hc2]; rfl
            have hg1 : g2 1 = if 9 ≤ nsF 33 σ d i then none else if efN (σ 2 2) (kn0 30 31 σ 0 d) (kn1 30 31 σ 0 d) (kdF σ d) (whF σ d) (nS σ d) (upd (nsF 33 σ d) i (nsF 33 σ d i + 1)) then none else some (10 * i + (nsF 33 σ d i).toNatClampNeg + 1) := by rw [← hc2]; rfl
            rw [e10]
            refine wj fun J hJ => ?_
            have hJQ : ∀ w : St, ExM τ0 w → g2 0 = none → Q (J w) := by
              intro w hw hz0
              have f1 : fO g2 1 = none := by rw [fO_none (show fO g2 0 = none from rfl)]; exact hz0
              have f2 : fO g2 2 = g2 1 := fO_none f1
              rw [hJ]
              refine wi (fun h9 => ?_) fun h9 => ?_
              · refine hK _ hiS' ⟨hw, q_add i 1, ?_, .inr hbn⟩
                rw [fO_none hf, hg, f2, hg1, if_pos h9]
              · obtain ⟨z, hz, z1⟩ := M_endsBy (F := F) (by omega) hB (hM.ex hw) hiS' (x := nsF 33 σ d i + 1) ⟨by grind, by grind⟩
                refine wb2 hz ?_
                rw [if_neg h9] at hg1
                cases hef : efN (σ 2 2) (kn0 30 31 σ 0 d) (kn1 30 31 σ 0 d) (kdF σ d) (whF σ d) (nS σ d) (upd (nsF 33 σ d) i (nsF 33 σ d i + 1)) with
                | true =>
                  rw [if_neg (show ¬ bI true = 0 by decide)]
                  refine hK _ hiS' ⟨hw.trans z1, q_add i 1, ?_, .inr hbn⟩
                  rw [fO_none hf, hg, f2, hg1, hef]; rfl
                | false =>
                  rw [if_pos (show bI false = 0 from rfl)]
                  refine hQ _ ⟨?_, hw.trans z1⟩
                  have h3 : fO g (i + 1) = some (10 * i + b + 1) := by rw [fO_none hf, hg, f2, hg1, hef, hbc]; rfl
                  rw [fO_some h3 _ (by omega), hbn, if_pos rfl, hb, pl_m]
                  exact q_add _ 1
            refine wi (fun h0 => ?_) fun h0 => ?_
            · exact hJQ _ hEy (by rw [hg0, if_pos h0])
            · obtain ⟨z, hz, z1⟩ := M_endsBy (F := F) (by omega) hB hMy hiS' (x := nsF 33 σ d i - 1) ⟨by grind, by grind⟩
              refine wb2 hz ?_
              rw [if_neg h0] at hg0
              cases hef : efN (σ 2 2) (kn0 30 31 σ 0 d) (kn1 30 31 σ 0 d) (kdF σ d) (whF σ d) (nS σ d) (upd (nsF 33 σ d) i (nsF 33 σ d i - 1)) with
              | true =>
                rw [if_neg (show ¬ bI true = 0 by decide)]
                exact hJQ _ (hEy.trans z1) (by rw [hg0, hef]; rfl)
              | false =>
                rw [if_pos (show bI false = 0 from rfl)]
                refine hQ _ ⟨?_, hEy.trans z1⟩
                have hb1 : 1 ≤ b := by
                  rw [hb, show (0 : Int32) = qN 0 from rfl, q_le (by omega) (by omega)] at h0; omega
                have f1 : fO g2 1 = some (10 * i + b - 1) := by rw [fO_none (show fO g2 0 = none from rfl), hg0, hef, hbc]; rfl
                have h3 : fO g (i + 1) = some (10 * i + b - 1) := by rw [fO_none hf, hg]; exact fO_some f1 2 (by decide)
                rw [fO_some h3 _ (by omega), hbn, if_pos rfl, hb, pl_m]
                exact q_sub (a := 10 * i + b) (b := 1) (by omega)
    obtain ⟨w, hw, w1⟩ := hm
    have h4w : w 0 4 = 0 := by rw [mq4 w1.mq]; exact h4
    rw [hw]
    cases bnS σ 0 d with
    | false => rw [if_pos (show bI false = 0 from rfl)]; exact G1_ok R0 rfl rfl rfl x2 w1.me h4w
    | true => rw [if_neg (show ¬ bI true = 0 by decide)]; exact G1_ok R0 rfl rfl rfl (x2.trans uE.ce) w1.me h4w
  · rw [if_neg hv, if_neg hv, if_neg (by decide), if_pos rfl, M_fail]
    exact G1_no (by decide) R0 rfl rfl CE.rfl ME4 up4
end
