set_option linter.unusedVariables false
set_option linter.unusedSimpArgs false
set_option maxRecDepth 16384
/-! a ball taken over -/
def tkH (c : Nat) (h : Int32) (N : Nat) (F : Nat) (σ : St) : Option St := lp (fun (K2 : (St × Int32) → Option St) (v1 : St × Int32) => if h ≤ v1.2 then (some v1.1) else ckI (h + v1.2) N (ckI (v1.2) N (nm (up v1.1 c (Int32.toNatClampNeg v1.2) (v1.1 c (Int32.toNatClampNeg (h + v1.2)))) fun u4 => K2 ((u4, v1.2 + 1))))) F ((σ, 0))
theorem tkH_ok {c m N F : Nat} {h : Int32} (hh : h = qN m) (hm : 2 * m = N) (hN : N < 10000) (hF : m < F) (σ : St) : tkH c h N F σ = some (acp σ c m c 0 m) := by
  subst hh
  unfold tkH
  rw [show (0 : Int32) = qN 0 from rfl, cp_lp 0 m c c m 0 (.inr (Nat.zero_le _)) ?_ ?_ hF]
  · dsimp only
    rw [if_pos (by rw [Nat.zero_add]; exact Int32.le_refl _)]
  · intro K u i hi
    dsimp only
    rw [Nat.zero_add, if_neg (by rw [q_le (by omega) (by omega)]; omega), q_add, ck_ok (by omega) (by omega), ck_ok (by omega) (by omega), q_clamp (by omega), q_clamp (by omega)]
    show K (_, qN i + qN 1) = _
    rw [q_add, Nat.zero_add]
  · intro K K' u
    dsimp only
    rw [if_pos (by rw [Nat.zero_add]; exact Int32.le_refl _), if_pos (by rw [Nat.zero_add]; exact Int32.le_refl _)]
def hfD (c : Nat) : Nat := if c = 5 then 4 else if c = 6 then 6 else if c ≤ 10 then 8 else if c ≤ 14 then 80 else 700
def TO (w y : St) : Prop := (∀ c j, 5 ≤ c → c ≤ 15 → j < hfD c → y c j = w c (hfD c + j)) ∧ (∀ k, k < 8 → y 18 k = 0) ∧ (∀ k, k < 48 → y 19 k = 0) ∧ (y 0 31 = 0 ∧ y 0 32 = 0 ∧ y 0 33 = 0 ∧ y 0 34 = 0 ∧ y 0 50 = 0) ∧ (∀ j, j ≠ 31 → j ≠ 32 → j ≠ 33 → j ≠ 34 → j ≠ 50 → y 0 j = w 0 j) ∧ (∀ c, c ≠ 0 → ¬ (5 ≤ c ∧ c ≤ 15) → c ≠ 18 → c ≠ 19 → y c = w c)
def hv (w : St) (c : Nat) : St := acp w c (hfD c) c 0 (hfD c)
theorem hv_ne {w : St} {c a : Nat} (h : a ≠ c) : hv w c a = w a := acp_ne _ _ _ _ _ _ h
theorem hv_in {w : St} {c j : Nat} (h : j < hfD c) : hv w c c j = w c (hfD c + j) := by
  have := acp_in w c (hfD c) c 0 (hfD c) h
  rw [Nat.zero_add] at this; exact this
def hvs (w : St) : St := hv (hv (hv (hv (hv (hv (hv (hv (hv (hv (hv w 5) 6) 7) 8) 9) 10) 11) 12) 13) 14) 15
theorem hvs_ne {w : St} {a : Nat} (h : ¬ (5 ≤ a ∧ a ≤ 15)) : hvs w a = w a := by
  unfold hvs
  rw [hv_ne (by omega), hv_ne (by omega), hv_ne (by omega), hv_ne (by omega), hv_ne (by omega), hv_ne (by omega), hv_ne (by omega), hv_ne (by omega), hv_ne (by omega), hv_ne (by omega), hv_ne (by omega)]
theorem hvs_in {w : St} {c j : Nat} (h1 : 5 ≤ c) (h2 : c ≤ 15) (h : j < hfD c) : hvs w c j = w c (hfD c + j) := by
  unfold hvs
  rcases (by omega : c = 5 ∨ c = 6 ∨ c = 7 ∨ c = 8 ∨ c = 9 ∨ c = 10 ∨ c = 11 ∨ c = 12 ∨ c = 13 ∨ c = 14 ∨ c = 15) with rfl | rfl | rfl | rfl | rfl | rfl | rfl | rfl | rfl | rfl | rfl
  · rw [hv_ne (by decide), hv_ne (by decide), hv_ne (by decide), hv_ne (by decide), hv_ne (by decide), hv_ne (by decide), hv_ne (by decide), hv_ne (by decide), hv_ne (by decide), hv_ne (by decide), hv_in h]
  · rw [hv_ne (by decide), hv_ne (by decide), hv_ne (by decide), hv_ne (by decide), hv_ne (by decide), hv_ne (by decide), hv_ne (by decide), hv_ne (by decide), hv_ne (by decide), hv_in h, hv_ne (by decide)]
  · rw [hv_ne (by decide), hv_ne (by decide), hv_ne (by decide), hv_ne (by decide), hv_ne (by decide), hv_ne (by decide), hv_ne (by decide), hv_ne (by decide), hv_in h, hv_ne (by decide), hv_ne (by decide)]
  · rw [hv_ne (by decide), hv_ne (by decide), hv_ne (by decide), hv_ne (by decide), hv_ne (by decide), hv_ne (by decide), hv_ne (by decide), hv_in h, hv_ne (by decide), hv_ne (by decide), hv_ne (by decide)]
  · rw [hv_ne (by decide), hv_ne (by decide), hv_ne (by decide), hv_ne (by decide), hv_ne (by decide), hv_ne (by decide), hv_in h, hv_ne (by decide), hv_ne (by decide), hv_ne (by decide), hv_ne (by decide)]
  · rw [hv_ne (by decide), hv_ne (by decide), hv_ne (by decide), hv_ne (by decide), hv_ne (by decide), hv_in h, hv_ne (by decide), hv_ne (by decide), hv_ne (by decide), hv_ne (by decide), hv_ne (by decide)]
  · rw [hv_ne (by decide), hv_ne (by decide), hv_ne (by decide), hv_ne (by decide), hv_in h, hv_ne (by decide), hv_ne (by decide), hv_ne (by decide), hv_ne (by decide), hv_ne (by decide), hv_ne (by decide)]
  · rw [hv_ne (by decide), hv_ne (by decide), hv_ne (by decide), hv_in h, hv_ne (by decide), hv_ne (by decide), hv_ne (by decide), hv_ne (by decide), hv_ne (by decide), hv_ne (by decide), hv_ne (by decide)]
  · rw [hv_ne (by decide), hv_ne (by decide), hv_in h, hv_ne (by decide), hv_ne (by decide), hv_ne (by decide), hv_ne (by decide), hv_ne (by decide), hv_ne (by decide), hv_ne (by decide), hv_ne (by decide)]
  · rw [hv_ne (by decide), hv_in h, hv_ne (by decide), hv_ne (by decide), hv_ne (by decide), hv_ne (by decide), hv_ne (by decide), hv_ne (by decide), hv_ne (by decide), hv_ne (by decide), hv_ne (by decide)]
  · rw [hv_in h, hv_ne (by decide), hv_ne (by decide), hv_ne (by decide), hv_ne (by decide), hv_ne (by decide), hv_ne (by decide), hv_ne (by decide), hv_ne (by decide), hv_ne (by decide), hv_ne (by decide)]
section
variable {F : Nat}
theorem M_take (hF : 800 ≤ F) (w : St) : ∃ y, fX11_takeOver F w = some y ∧ TO w y := by
  have g1 : ∀ σ, fX11_takeHalf F σ = some (hv σ 5) := fun σ => tkH_ok (c := 5) (m := 4) (N := 8) (h := 8 / 2) (by decide) rfl (by decide) (by omega) σ
  have g2 : ∀ σ, fX11_takeHalf_2 F σ = some (hv σ 6) := fun σ => tkH_ok (c := 6) (m := 6) (N := 12) (h := 12 / 2) (by decide) rfl (by decide) (by omega) σ
  have g3 : ∀ σ, fX11_takeHalf_3 F σ = some (hv σ 7) := fun σ => tkH_ok (c := 7) (m := 8) (N := 16) (h := 16 / 2) (by decide) rfl (by decide) (by omega) σ
  have g4 : ∀ σ, fX11_takeHalf_4 F σ = some (hv σ 8) := fun σ => tkH_ok (c := 8) (m := 8) (N := 16) (h := 16 / 2) (by decide) rfl (by decide) (by omega) σ
  have g5 : ∀ σ, fX11_takeHalf_5 F σ = some (hv σ 9) := fun σ => tkH_ok (c := 9) (m := 8) (N := 16) (h := 16 / 2) (by decide) rfl (by decide) (by omega) σ
  have g6 : ∀ σ, fX11_takeHalf_6 F σ = some (hv σ 10) := fun σ => tkH_ok (c := 10) (m := 8) (N := 16) (h := 16 / 2) (by decide) rfl (by decide) (by omega) σ
  have g7 : ∀ σ, fX11_takeHalf_7 F σ = some (hv σ 11) := fun σ => tkH_ok (c := 11) (m := 80) (N := 160) (h := 160 / 2) (by decide) rfl (by decide) (by omega) σ
  have g8 : ∀ σ, fX11_takeHalf_8 F σ = some (hv σ 12) := fun σ => tkH_ok (c := 12) (m := 80) (N := 160) (h := 160 / 2) (by decide) rfl (by decide) (by omega) σ
  have g9 : ∀ σ, fX11_takeHalf_9 F σ = some (hv σ 13) := fun σ => tkH_ok (c := 13) (m := 80) (N := 160) (h := 160 / 2) (by decide) rfl (by decide) (by omega) σ
  have g10 : ∀ σ, fX11_takeHalf_10 F σ = some (hv σ 14) := fun σ => tkH_ok (c := 14) (m := 80) (N := 160) (h := 160 / 2) (by decide) rfl (by decide) (by omega) σ
  have g11 : ∀ σ, fX11_takeHalf_11 F σ = some (hv σ 15) := fun σ => tkH_ok (c := 15) (m := 700) (N := 1400) (h := 1400 / 2) (by decide) rfl (by decide) (by omega) σ
  refine wpI fun Q hQ => ?_
  unfold fX11_takeOver
  rw [g1, bd1_some, g2, bd1_some, g3, bd1_some, g4, bd1_some, g5, bd1_some, g6, bd1_some, g7, bd1_some, g8, bd1_some, g9, bd1_some, g10, bd1_some, g11, bd1_some]
  refine wn fun u13 e13 => wn fun u15 e15 => ?_
  have h15 : u15 = up (up (hvs w) 0 31 0) 0 32 0 := by rw [e15, e13]; rfl
  clear e13 e15
  refine lp_up Q (fun i (v : St × Int32) => v.2 = qN i ∧ (∀ c, c ≠ 18 → v.1 c = u15 c) ∧ ∀ j, j < i → v.1 18 j = 0) 8 ?_ F 0 _ (by omega) (by omega) ⟨rfl, fun _ _ => rfl, fun j h => absurd h (by omega)⟩
  rintro i ⟨v, c⟩ K hi ⟨hc, hE, hx⟩ hK
  dsimp only at hc hE hx
  subst hc
  dsimp only
  by_cases h8 : i = 8
  · subst h8
    refine wiT (by decide) ?_
    clear hK
    refine lp_up Q (fun i (p : St × Int32) => p.2 = qN i ∧ (∀ c, c ≠ 19 → p.1 c = v c) ∧ ∀ j, j < i → p.1 19 j = 0) 48 ?_ F 0 _ (by omega) (by omega) ⟨rfl, fun _ _ => rfl, fun j h => absurd h (by omega)⟩
    rintro i ⟨p, c⟩ K2 hi2 ⟨hc2, hE2, hx2⟩ hK2
    dsimp only at hc2 hE2 hx2
    subst hc2
    dsimp only
    by_cases h48 : i = 48
    · subst h48
      refine wiT (by decide) (wn fun z1 e1 => wn fun z2 e2 => wn fun z3 e3 => hQ _ ?_)
      have hz : ∀ c, c ≠ 0 → z3 c = p c := fun c h0 => by rw [e3, up_ne _ _ _ h0, e2, up_ne _ _ _ h0, e1, up_ne _ _ _ h0]
      have hz0 : z3 0 = upd (upd (upd (upd (upd (w 0) 31 0) 32 0) 33 0) 34 0) 50 0 := by
        rw [e3, up_same, e2, up_same, e1, up_same, hE2 0 (by decide), hE 0 (by decide), h15, up_same, up_same, hvs_ne (by decide)]
      refine ⟨fun c j h1 h2 hj => ?_, fun k hk => ?_, fun k hk => ?_, ⟨?_, ?_, ?_, ?_, ?_⟩, fun j a1 a2 a3 a4 a5 => ?_, fun c a1 a2 a3 a4 => ?_⟩
      · rw [hz c (by omega), hE2 c (by omega), hE c (by omega), h15, up_ne _ _ _ (by omega), up_ne _ _ _ (by omega), hvs_in h1 h2 hj]
      · rw [hz 18 (by decide), hE2 18 (by decide)]; exact hx k hk
      · rw [hz 19 (by decide)]; exact hx2 k hk
      · rw [hz0, upd_ne _ _ (by decide), upd_ne _ _ (by decide), upd_ne _ _ (by decide), upd_ne _ _ (by decide), upd_same]
      · rw [hz0, upd_ne _ _ (by decide), upd_ne _ _ (by decide), upd_ne _ _ (by decide), upd_same]
      · rw [hz0, upd_ne _ _ (by decide), upd_ne _ _ (by decide), upd_same]
      · rw [hz0, upd_ne _ _ (by decide), upd_same]
      · rw [hz0, upd_same]
      · rw [hz0, upd_ne _ _ a5, upd_ne _ _ a4, upd_ne _ _ a3, upd_ne _ _ a2, upd_ne _ _ a1]
      · rw [hz c a1, hE2 c a4, hE c a3, h15, up_ne _ _ _ a1, up_ne _ _ _ a1, hvs_ne a2]
    · refine wiF (by rw [show (48 : Int32) = qN 48 from rfl, q_le (by omega) (by omega)]; omega) (wk (k := i) rfl (by omega) (by omega) (wn fun u e => ?_))
      rw [q_clamp (by omega)] at e
      refine hK2 _ (by omega) ⟨q_add i 1, fun c hc => by dsimp only; rw [e, up_ne _ _ _ hc]; exact hE2 c hc, fun j hj => ?_⟩
      dsimp only
      rw [e, up_same]
      by_cases hji : j = i
      · subst hji; rw [upd_same]
      · rw [upd_ne _ _ hji]; exact hx2 j (by omega)
  · refine wiF (by rw [show (8 : Int32) = qN 8 from rfl, q_le (by omega) (by omega)]; omega) (wk (k := i) rfl (by omega) (by omega) (wn fun u e => ?_))
    rw [q_clamp (by omega)] at e
    refine hK _ (by omega) ⟨q_add i 1, fun c hc => by dsimp only; rw [e, up_ne _ _ _ hc]; exact hE c hc, fun j hj => ?_⟩
    dsimp only
    rw [e, up_same]
    by_cases hji : j = i
    · subst hji; rw [upd_same]
    · rw [upd_ne _ _ hji]; exact hx j (by omega)
def flG (k n : Nat) (F : Nat) (σ : St) (a1 : Int32) : Option St := lp (fun (K2 : (St × Int32) → Option St) (v1 : St × Int32) => if qN n ≤ v1.2 then (some v1.1) else ckI (v1.2) n (nm (up v1.1 k (Int32.toNatClampNeg v1.2) a1) fun u4 => K2 ((u4, v1.2 + 1)))) F ((σ, 0))
theorem flG_ok {k n : Nat} (hn : n ≤ 100) (hF : 800 ≤ F) (σ : St) (a : Int32) : ∃ z, flG k n F σ a = some z ∧ (∀ c, c ≠ k → z c = σ c) ∧ ∀ j, j < n → z k j = a := by
  refine wpI fun Q hQ => ?_
  unfold flG
  refine lp_up Q (fun i (v : St × Int32) => v.2 = qN i ∧ (∀ c, c ≠ k → v.1 c = σ c) ∧ (∀ j, j < i → v.1 k j = a)) n ?_ F 0 _ (by omega) (by omega) ⟨rfl, fun _ _ => rfl, fun j h => absurd h (by omega)⟩
  rintro i ⟨v, c⟩ K hi ⟨hc, hE, hx⟩ hK
  dsimp only at hc hE hx
  subst hc
  dsimp only
  by_cases h8 : i = n
  · subst h8
    exact wiT (Int32.le_refl _) (hQ _ ⟨hE, hx⟩)
  · refine wiF (by rw [q_le (by omega) (by omega)]; omega) ?_
    refine wk (k := i) rfl (by omega) (by omega) (wn fun u e => ?_)
    rw [q_clamp (by omega)] at e
    refine hK _ (by omega) ⟨q_add i 1, fun c hc => by dsimp only; rw [e, up_ne _ _ _ hc]; exact hE c hc, fun j hj => ?_⟩
    dsimp only
    rw [e, up_same]
    by_cases hji : j = i
    · subst hji; rw [upd_same]
    · rw [upd_ne _ _ hji]; exact hx j (by omega)
/-- what the class makes of its draft -/
def BC (u x : St) : Prop := (∀ j, j < 5 → x 2 j = u 15 j) ∧ (∀ j, j < 6 → x 3 j = u 16 j) ∧ (∀ c j, 4 ≤ c → c ≤ 7 → j < 8 → x c j = u (13 + c) j) ∧ (∀ c j, 8 ≤ c → c ≤ 11 → j < 80 → x c j = u (13 + c) j) ∧ x 12 0 = u 25 0 ∧ (∀ j, j < 700 → x 13 j = u 26 j) ∧ (∀ j, j < 3 → x 30 j = 0) ∧ (∀ j, j < 8 → x 31 j = 0) ∧ (∀ j, j < 8 → x 32 j = 0) ∧ (∀ j, j < 80 → x 33 j = u 23 j) ∧ (∀ j, j < 48 → x 34 j = 0) ∧ x 0 = u 0 ∧ ∀ c, 35 ≤ c ∨ c = 1 → x c = u c
theorem acp0 (σ : St) (a b N j : Nat) (h : j < N) : acp σ a 0 b 0 N b j = σ a j := by
  have := acp_in σ a 0 b 0 N h
  rw [Nat.zero_add] at this; exact this
theorem C_become (hF : 800 ≤ F) {u : St} {b3 b4 : Bool} (e3 : u 15 3 = bI b3) (e4 : u 15 4 = bI b4) : ∃ x, (bd1 (fX0_become F u) fun u10 => fX9_begin F u10) = some x ∧ BC u x := by
  refine wpI fun Q hQ => ?_
  have cb : ∀ {α : Type} (b : Bool) (z : Option α), ckB (bI b) z = z := fun b z => by cases b; exact ckB0 z; exact ckB1 z
  have hbec : ∃ p, fX0_become F u = some p ∧ (∀ j, j < 5 → p 2 j = u 15 j) ∧ (∀ j, j < 6 → p 3 j = u 16 j) ∧ (∀ c j, 4 ≤ c → c ≤ 7 → j < 8 → p c j = u (13 + c) j) ∧ (∀ c j, 8 ≤ c → c ≤ 11 → j < 80 → p c j = u (13 + c) j) ∧ p 12 0 = u 25 0 ∧ (∀ j, j < 700 → p 13 j = u 26 j) ∧ ∀ c, c < 2 ∨ 14 ≤ c → p c = u c := by
    refine wpI fun Q hQ => ?_
    unfold fX0_become
    refine wn fun p1 h1 => wn fun p2 h2 => wn fun p3 h3 => ?_
    have k3 : ∀ c, c ≠ 2 → p3 c = u c := fun c hc => by rw [h3, up_ne _ _ _ hc, h2, up_ne _ _ _ hc, h1, up_ne _ _ _ hc]
    rw [k3 15 (by decide), e3, cb]
    refine wn fun p4 h4 => ?_
    have k4 : ∀ c, c ≠ 2 → p4 c = u c := fun c hc => by rw [h4, up_ne _ _ _ hc, k3 c hc]
    rw [k4 15 (by decide), e4, cb]
    refine wn fun p5 h5 => wn fun q1 g1 => wn fun q2 g2 => wn fun q3 g3 => wn fun q4 g4 => wn fun q5 g5 => wn fun q6 g6 => wn fun q7 g7 => wn fun q8 g8 => wn fun q9 g9 => ?_
    have k5 : ∀ c, c ≠ 2 → p5 c = u c := fun c hc => by rw [h5, up_ne _ _ _ hc, k4 c hc]
    unfold fX8_become
    refine wb1 (r := acp (up q9 12 0 (q9 25 0)) 26 0 13 0 700) rfl (hQ _ ?_)
    have kq : ∀ c, (c < 2 ∨ 12 ≤ c) → q9 c = u c := fun c hc => by
      rw [g9, acp_ne _ _ _ _ _ _ (by omega), g8, acp_ne _ _ _ _ _ _ (by omega), g7, acp_ne _ _ _ _ _ _ (by omega), g6, acp_ne _ _ _ _ _ _ (by omega), g5, acp_ne _ _ _ _ _ _ (by omega), g4, acp_ne _ _ _ _ _ _ (by omega), g3, acp_ne _ _ _ _ _ _ (by omega), g2, acp_ne _ _ _ _ _ _ (by omega), g1, acp_ne _ _ _ _ _ _ (by omega), k5 c (by omega)]
    have kl : ∀ c, c ≠ 12 → c ≠ 13 → acp (up q9 12 0 (q9 25 0)) 26 0 13 0 700 c = q9 c := fun c a b => by rw [acp_ne _ _ _ _ _ _ b, up_ne _ _ _ a]
    refine ⟨fun j hj => ?_, fun j hj => ?_, fun c j c1 c2 hj => ?_, fun c j c1 c2 hj => ?_, ?_, fun j hj => ?_, fun c hc => ?_⟩
    · rw [kl 2 (by decide) (by decide), g9, acp_ne _ _ _ _ _ _ (by decide), g8, acp_ne _ _ _ _ _ _ (by decide), g7, acp_ne _ _ _ _ _ _ (by decide), g6, acp_ne _ _ _ _ _ _ (by decide), g5, acp_ne _ _ _ _ _ _ (by decide), g4, acp_ne _ _ _ _ _ _ (by decide), g3, acp_ne _ _ _ _ _ _ (by decide), g2, acp_ne _ _ _ _ _ _ (by decide), g1, acp_ne _ _ _ _ _ _ (by decide)]
      have e5 : p5 2 = upd (upd (upd (upd (upd (u 2) 0 (u 15 0)) 1 (u 15 1)) 2 (u 15 2)) 3 (u 15 3)) 4 (u 15 4) := by
        rw [h5, up_same, e4, h4, up_same, e3, h3, up_same, h2, up_same, h1, up_same, up_ne _ _ _ (by decide), up_ne _ _ _ (by decide), up_ne _ _ _ (by decide)]
      rw [e5]
      rcases (by omega : j = 0 ∨ j = 1 ∨ j = 2 ∨ j = 3 ∨ j = 4) with rfl | rfl | rfl | rfl | rfl <;> rfl
    · rw [kl 3 (by decide) (by decide), g9, acp_ne _ _ _ _ _ _ (by decide), g8, acp_ne _ _ _ _ _ _ (by decide), g7, acp_ne _ _ _ _ _ _ (by decide), g6, acp_ne _ _ _ _ _ _ (by decide), g5, acp_ne _ _ _ _ _ _ (by decide), g4, acp_ne _ _ _ _ _ _ (by decide), g3, acp_ne _ _ _ _ _ _ (by decide), g2, acp_ne _ _ _ _ _ _ (by decide), g1, acp0 _ _ _ _ _ hj, k5 16 (by decide)]
    · rw [kl c (by omega) (by omega)]
      rcases (by omega : c = 4 ∨ c = 5 ∨ c = 6 ∨ c = 7) with rfl | rfl | rfl | rfl
      · rw [g9, acp_ne _ _ _ _ _ _ (by decide), g8, acp_ne _ _ _ _ _ _ (by decide), g7, acp_ne _ _ _ _ _ _ (by decide), g6, acp_ne _ _ _ _ _ _ (by decide), g5, acp_ne _ _ _ _ _ _ (by decide), g4, acp_ne _ _ _ _ _ _ (by decide), g3, acp_ne _ _ _ _ _ _ (by decide), g2, acp0 _ _ _ _ _ hj, g1, acp_ne _ _ _ _ _ _ (by decide), k5 17 (by decide)]
      · rw [g9, acp_ne _ _ _ _ _ _ (by decide), g8, acp_ne _ _ _ _ _ _ (by decide), g7, acp_ne _ _ _ _ _ _ (by decide), g6, acp_ne _ _ _ _ _ _ (by decide), g5, acp_ne _ _ _ _ _ _ (by decide), g4, acp_ne _ _ _ _ _ _ (by decide), g3, acp0 _ _ _ _ _ hj, g2, acp_ne _ _ _ _ _ _ (by decide), g1, acp_ne _ _ _ _ _ _ (by decide), k5 18 (by decide)]
      · rw [g9, acp_ne _ _ _ _ _ _ (by decide), g8, acp_ne _ _ _ _ _ _ (by decide), g7, acp_ne _ _ _ _ _ _ (by decide), g6, acp_ne _ _ _ _ _ _ (by decide), g5, acp_ne _ _ _ _ _ _ (by decide), g4, acp0 _ _ _ _ _ hj, g3, acp_ne _ _ _ _ _ _ (by decide), g2, acp_ne _ _ _ _ _ _ (by decide), g1, acp_ne _ _ _ _ _ _ (by decide), k5 19 (by decide)]
      · rw [g9, acp_ne _ _ _ _ _ _ (by decide), g8, acp_ne _ _ _ _ _ _ (by decide), g7, acp_ne _ _ _ _ _ _ (by decide), g6, acp_ne _ _ _ _ _ _ (by decide), g5, acp0 _ _ _ _ _ hj, g4, acp_ne _ _ _ _ _ _ (by decide), g3, acp_ne _ _ _ _ _ _ (by decide), g2, acp_ne _ _ _ _ _ _ (by decide), g1, acp_ne _ _ _ _ _ _ (by decide), k5 20 (by decide)]
    · rw [kl c (by omega) (by omega)]
      rcases (by omega : c = 8 ∨ c = 9 ∨ c = 10 ∨ c = 11) with rfl | rfl | rfl | rfl
      · rw [g9, acp_ne _ _ _ _ _ _ (by decide), g8, acp_ne _ _ _ _ _ _ (by decide), g7, acp_ne _ _ _ _ _ _ (by decide), g6, acp0 _ _ _ _ _ hj, g5, acp_ne _ _ _ _ _ _ (by decide), g4, acp_ne _ _ _ _ _ _ (by decide), g3, acp_ne _ _ _ _ _ _ (by decide), g2, acp_ne _ _ _ _ _ _ (by decide), g1, acp_ne _ _ _ _ _ _ (by decide), k5 21 (by decide)]
      · rw [g9, acp_ne _ _ _ _ _ _ (by decide), g8, acp_ne _ _ _ _ _ _ (by decide), g7, acp0 _ _ _ _ _ hj, g6, acp_ne _ _ _ _ _ _ (by decide), g5, acp_ne _ _ _ _ _ _ (by decide), g4, acp_ne _ _ _ _ _ _ (by decide), g3, acp_ne _ _ _ _ _ _ (by decide), g2, acp_ne _ _ _ _ _ _ (by decide), g1, acp_ne _ _ _ _ _ _ (by decide), k5 22 (by decide)]
      · rw [g9, acp_ne _ _ _ _ _ _ (by decide), g8, acp0 _ _ _ _ _ hj, g7, acp_ne _ _ _ _ _ _ (by decide), g6, acp_ne _ _ _ _ _ _ (by decide), g5, acp_ne _ _ _ _ _ _ (by decide), g4, acp_ne _ _ _ _ _ _ (by decide), g3, acp_ne _ _ _ _ _ _ (by decide), g2, acp_ne _ _ _ _ _ _ (by decide), g1, acp_ne _ _ _ _ _ _ (by decide), k5 23 (by decide)]
      · rw [g9, acp0 _ _ _ _ _ hj, g8, acp_ne _ _ _ _ _ _ (by decide), g7, acp_ne _ _ _ _ _ _ (by decide), g6, acp_ne _ _ _ _ _ _ (by decide), g5, acp_ne _ _ _ _ _ _ (by decide), g4, acp_ne _ _ _ _ _ _ (by decide), g3, acp_ne _ _ _ _ _ _ (by decide), g2, acp_ne _ _ _ _ _ _ (by decide), g1, acp_ne _ _ _ _ _ _ (by decide), k5 24 (by decide)]
    · rw [acp_ne _ _ _ _ _ _ (by decide), up_same, upd_same, kq 25 (by omega)]
    · rw [acp0 _ _ _ _ _ hj, up_ne _ _ _ (by decide), kq 26 (by omega)]
    · rw [kl c (by omega) (by omega), kq c (by omega)]
  obtain ⟨p, hp, b1, b2, b3', b4', b5, b6, b7⟩ := hbec
  refine wb1 hp ?_
  unfold fX9_begin
  refine wn fun q1 g1 => wn fun q2 g2 => wn fun q3 g3 => ?_
  obtain ⟨z1, f1, z1e, z1v⟩ := flG_ok (F := F) (k := 31) (n := 8) (by decide) hF q3 0
  obtain ⟨z2, f2, z2e, z2v⟩ := flG_ok (F := F) (k := 32) (n := 8) (by decide) hF z1 0
  obtain ⟨z3, f3, z3e, z3v⟩ := flG_ok (F := F) (k := 34) (n := 48) (by decide) hF z2 0
  refine wb1 (show fJ7_fill_53178 F q3 0 = some z1 from f1) (wb1 (show fJ7_fill_53178_2 F z1 0 = some z2 from f2) (wb1 (show fJ7_fill_53178_3 F z2 0 = some z3 from f3) (wn fun z4 e4' => hQ _ ?_)))
  have kz : ∀ c, c ≠ 30 → c ≠ 31 → c ≠ 32 → c ≠ 33 → c ≠ 34 → z4 c = p c := fun c a0 a1 a2 a3 a4 => by
    rw [e4', acp_ne _ _ _ _ _ _ a3, z3e c a4, z2e c a2, z1e c a1, g3, up_ne _ _ _ a0, g2, up_ne _ _ _ a0, g1, up_ne _ _ _ a0]
  refine ⟨fun j hj => ?_, fun j hj => ?_, fun c j c1 c2 hj => ?_, fun c j c1 c2 hj => ?_, ?_, fun j hj => ?_, fun j hj => ?_, fun j hj => ?_, fun j hj => ?_, fun j hj => ?_, fun j hj => ?_, ?_, fun c hc => ?_⟩
  · rw [kz 2 (by decide) (by decide) (by decide) (by decide) (by decide)]; exact b1 j hj
  · rw [kz 3 (by decide) (by decide) (by decide) (by decide) (by decide)]; exact b2 j hj
  · rw [kz c (by omega) (by omega) (by omega) (by omega) (by omega)]; exact b3' c j c1 c2 hj
  · rw [kz c (by omega) (by omega) (by omega) (by omega) (by omega)]; exact b4' c j c1 c2 hj
  · rw [kz 12 (by decide) (by decide) (by decide) (by decide) (by decide)]; exact b5
  · rw [kz 13 (by decide) (by decide) (by decide) (by decide) (by decide)]; exact b6 j hj
  · rw [e4', acp_ne _ _ _ _ _ _ (by decide), z3e 30 (by decide), z2e 30 (by decide), z1e 30 (by decide), g3, up_same, g2, up_same, g1, up_same]
    rcases (by omega : j = 0 ∨ j = 1 ∨ j = 2) with rfl | rfl | rfl <;> rfl
  · rw [e4', acp_ne _ _ _ _ _ _ (by decide), z3e 31 (by decide), z2e 31 (by decide)]; exact z1v j hj
  · rw [e4', acp_ne _ _ _ _ _ _ (by decide), z3e 32 (by decide)]; exact z2v j hj
  · rw [e4', acp0 _ _ _ _ _ hj, z3e 10 (by decide), z2e 10 (by decide), z1e 10 (by decide), g3, up_ne _ _ _ (by decide), g2, up_ne _ _ _ (by decide), g1, up_ne _ _ _ (by decide)]
    exact b4' 10 j (by decide) (by decide) hj
  · rw [e4', acp_ne _ _ _ _ _ _ (by decide)]; exact z3v j hj
  · rw [kz 0 (by decide) (by decide) (by decide) (by decide) (by decide)]; exact b7 0 (by omega)
  · rw [kz c (by omega) (by omega) (by omega) (by omega) (by omega)]; exact b7 c (by omega)
end
