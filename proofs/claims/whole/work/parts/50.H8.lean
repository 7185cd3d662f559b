set_option linter.unusedVariables false
set_option linter.unusedSimpArgs false
set_option maxRecDepth 16384
/-! lines that tell a dance -/
section
variable {R R' V : Type} {Q : Option R → Option R' → Prop}
theorem rk {x : Option R} {i : Int32} {n k : Nat} {y : Option R'} (hi : i = qN k) (h : k < n) (h2 : k < 2147483648) (hq : Q x y) : Q x (ckI i n y) := by rw [hi, ck_ok h h2]; exact hq
theorem lk {y : Option R'} {i : Int32} {n k : Nat} {x : Option R} (hi : i = qN k) (h : k < n) (h2 : k < 2147483648) (hq : Q x y) : Q (ckI i n x) y := by rw [hi, ck_ok h h2]; exact hq
end
section
variable {F : Nat} {t : Nat → Int32} {n : Nat}
theorem M_now (hF : 800 ≤ F) (hn : n ≤ 700) {σ τ : St} {s : Nat} (h : PL t n σ τ s) :
    (∃ v, nmA t n s = some v ∧ v ≤ 9999 ∧ fX11_numberNow F τ 0 9999 = some (qN v, τ)) ∨
    (nmA t n s = none ∧ ∃ f, (1 ≤ f ∧ f ≤ 5) ∧ fX11_numberNow F τ 0 9999 = some (0, wrS τ f s) ∧ fX7_takeNumber F σ 0 9999 = some (-1, rfS σ f s)) := by
  have h' := h
  obtain ⟨hC, hM, hs, hbad⟩ := h
  obtain ⟨t1, t2, t3⟩ := te_le (t := t) hn hs
  have hk6 := kd_lt (t := t) (n := n) s
  have hCk := hC.2.2.2.1
  unfold fX11_numberNow
  simp only [jn, hbad, ↓reduceIte]
  by_cases hk : kdA t n s = 2
  · have hc2 : σ 28 3 = 2 := by rw [hCk, hk]; rfl
    have hm2 : τ 0 21 = 2 := by rw [hM.2.2.1]; exact (mkT_1 hk6).2.1.2 hk
    have h22 := hM.2.2.2.2.2.2 hk
    have hst : τ 0 24 - τ 0 23 = qN (teA t n s - s) := by rw [hM.2.2.2.2.1, hM.2.2.2.1, q_sub t1]
    rw [if_pos hm2, hst, h22]
    by_cases h4 : teA t n s - s ≤ 4
    · have hnm : nmA t n s = some (nuM t s (teA t n s - s)) := by unfold nmA; rw [if_pos ⟨hk, h4⟩]
      have hlt := (nu_lt hk hn hs (teA t n s - s) (Nat.le_refl _) h4).1
      have hpw : 10 ^ (teA t n s - s) ≤ 10000 := by
        have : ∀ k : Fin 5, 10 ^ k.1 ≤ 10000 := by decide
        exact this ⟨_, by omega⟩
      refine .inl ⟨_, hnm, by omega, ?_⟩
      rw [if_neg (show ¬ 4 < qN (teA t n s - s) by rw [show (4 : Int32) = qN 4 from rfl, q_lt (by omega) (by omega)]; omega), if_neg (show ¬ qN (nuM t s (teA t n s - s)) < 0 by rw [show (0 : Int32) = qN 0 from rfl, q_lt (by omega) (by omega)]; omega), if_pos (show qN (nuM t s (teA t n s - s)) ≤ 9999 by rw [show (9999 : Int32) = qN 9999 from rfl, q_le (by omega) (by omega)]; omega)]
    · have hnm : nmA t n s = none := by unfold nmA; rw [if_neg (fun h => h4 h.2)]
      refine .inr ⟨hnm, 2, by decide, ?_, ?_⟩
      · rw [if_pos (show 4 < qN (teA t n s - s) by rw [show (4 : Int32) = qN 4 from rfl, q_lt (by omega) (by omega)]; omega), show fX11_wrong F τ 2 = some (wrS τ 2 s) from M_wr h' 2, bd1_some, if_neg (wr_bad (by decide))]
      · unfold fX7_takeNumber
        rw [if_pos hc2, C_numHere hF hn hs hC, bd1_some, hnm]
        simp only [jn]
        rw [if_pos (show nO none < 0 by decide), show fX7_refuse F σ 2 = some (0, rfS σ 2 s) from C_ref h' 2]; rfl
  · have hc2 : ¬ σ 28 3 = 2 := by rw [hCk, show (2 : Int32) = qN 2 from rfl, q_eq (by omega) (by omega)]; exact hk
    have hm2 : ¬ τ 0 21 = 2 := by rw [hM.2.2.1]; exact fun h => hk ((mkT_1 hk6).2.1.1 h)
    have hnm : nmA t n s = none := by unfold nmA; rw [if_neg (fun h => hk h.1)]
    refine .inr ⟨hnm, 1, by decide, ?_, ?_⟩
    · rw [if_neg hm2, show fX11_wrong F τ 1 = some (wrS τ 1 s) from M_wr h' 1, bd1_some, if_neg (wr_bad (by decide))]
    · unfold fX7_takeNumber
      rw [if_neg hc2, show fX7_refuse F σ 1 = some (0, rfS σ 1 s) from C_ref h' 1]; rfl
/-- a valley's number, taken by both -/
theorem P_vtk (hF : 800 ≤ F) (hn : n ≤ 700) (hb : ∀ k, 0 ≤ t k ∧ t k ≤ 255) {σ τ : St} {s V : Nat} (h : PL t n σ τ s) (hV : V ≤ 6) (c0 : σ 15 0 = qN V) (m4 : τ 5 4 = qN V) :
    (∃ v u w, fX7_takeValley F σ = some (qN v, u) ∧ fX11_valleyNow F τ = some (qN v, τ) ∧ fX11_stepOn F τ = some w ∧ v < V ∧ PL t n u w (nxA t n s) ∧ s < nxA t n s ∧ FL σ u ∧ FLm τ w ∧ nmA t n s = some v) ∨
    (∃ u w, fX7_takeValley F σ = some (-1, u) ∧ fX11_valleyNow F τ = some (0, w) ∧ BDp u w ∧ FL σ u ∧ FLm τ w ∧ ∀ v, nmA t n s = some v → V ≤ v ∧ v ≤ 9999) := by
  have hC := h.1
  have hbad := h.2.2.2
  unfold fX7_takeValley fX11_valleyNow
  rw [C_numHere hF hn h.2.2.1 hC, bd1_some]
  simp only [jn]
  rcases M_now (F := F) hF hn h with ⟨v, hv, hv9, hm⟩ | ⟨hv, f, hf, hm, hc⟩
  · rw [hm, bd2_some, if_pos hbad, hv, m4, c0]
    rw [if_neg (show ¬ nO (some v) = -1 by intro hh; exact (q_neg1 (by omega)).1 hh)]
    by_cases hvV : v < V
    · rw [if_pos (show nO (some v) < qN V by show qN v < qN V; rw [q_lt (by omega) (by omega)]; exact hvV), if_pos (show qN v < qN V by rw [q_lt (by omega) (by omega)]; exact hvV), if_pos hbad]
      rcases P_num (F := F) hF hn hb h (lo := 0) (hi := 9999) (by decide) (by decide) with ⟨v2, u', w', r1', r2', hlo, hhi, hP2, hs2, fu', fw', hv2⟩ | ⟨u', w', r1', r2', hbd, fu', fw'⟩
      · have : v2 = v := by rw [hv] at hv2; injection hv2 with e; exact e.symm
        subst this
        obtain ⟨u, w, hu, hw, hP1, fu, fw, _⟩ := P_next (F := F) hF hn hb h
        refine .inl ⟨v2, u', w', by rw [show fX7_takeNumber F σ 0 9999 = some (qN v2, u') from r1']; rfl, rfl, ?_, hvV, hP2, hs2, fu', fw', rfl⟩
        unfold fX11_readNumber at r2'
        rw [show fX11_numberNow F τ (qN 0) (qN 9999) = some (qN v2, τ) from hm, bd2_some, if_pos hbad, hw, bd1_some] at r2'
        injection r2' with e
        injection e with _ e
        rw [← e]; exact hw
      · exfalso
        unfold fX11_readNumber at r2'
        obtain ⟨u, w, hu, hw, hP1, fu, fw, _⟩ := P_next (F := F) hF hn hb h
        rw [show fX11_numberNow F τ (qN 0) (qN 9999) = some (qN v, τ) from hm, bd2_some, if_pos hbad, hw, bd1_some] at r2'
        injection r2' with e
        injection e with _ e
        exact hbd.bad (by rw [← e]; exact hP1.2.2.2)
    · rw [if_neg (show ¬ nO (some v) < qN V by show ¬ qN v < qN V; rw [q_lt (by omega) (by omega)]; exact hvV), if_neg (show ¬ qN v < qN V by rw [q_lt (by omega) (by omega)]; exact hvV), show fX7_refuse F σ 3 = some (0, rfS σ 3 s) from C_ref h 3, bd2_some, show fX11_wrong F τ 3 = some (wrS τ 3 s) from M_wr h 3, bd1_some, if_neg (wr_bad (by decide))]
      refine .inr ⟨_, _, rfl, rfl, rw_BD (by decide), rf_FL, wr_FLm, fun v2 e => ?_⟩
      injection e with e; omega
  · rw [hm, hv, bd2_some, if_pos (show nO none = -1 from rfl), hc, bd2_some, if_neg (wr_bad hf), if_neg (wr_bad hf)]
    exact .inr ⟨_, _, rfl, rfl, rw_BD hf, rf_FL, wr_FLm, fun v2 e => by cases e⟩
theorem M_now_bad {τ : St} (hbad : τ 0 25 ≠ 0) (a b : Int32) : fX11_numberNow F τ a b = some (0, τ) := by unfold fX11_numberNow; rw [if_neg hbad]
theorem M_vnow_bad {τ : St} (hbad : τ 0 25 ≠ 0) : fX11_valleyNow F τ = some (0, τ) := by
  unfold fX11_valleyNow
  rw [M_now_bad hbad, bd2_some]
  simp only [jn]
  rw [if_neg hbad, if_neg hbad]
/-- two that may not dance with each other -/
def jnB (L R : Nat → Int32) (a b : Int32) (k : Nat) : Bool := (decide (L k = a) && decide (R k = b)) || (decide (L k = b) && decide (R k = a))
def ilB (L R : Nat → Int32) (a b : Int32) : Nat → Bool
  | 0 => decide (a = b)
  | k + 1 => ilB L R a b k || jnB L R a b k
theorem C_joins {σ : St} {a b : Int32} {k : Nat} (hk : k < 8) : fX0_joins F σ (qN k) a b = some (bI (jnB (σ 17) (σ 18) a b k)) := by
  unfold fX0_joins jnB
  simp only [jn]
  rw [ck_ok hk (by omega), q_clamp (by omega), ck_ok hk (by omega), ck_ok hk (by omega), ck_ok hk (by omega)]
  by_cases c1 : σ 17 k = a
  · rw [if_pos c1, decide_eq_true c1]
    by_cases c2 : σ 18 k = b
    · rw [if_pos c2, decide_eq_true c2]; rfl
    · rw [if_neg c2, decide_eq_false c2]
      by_cases c3 : σ 17 k = b
      · rw [if_pos c3, decide_eq_true c3]
        by_cases c4 : σ 18 k = a
        · rw [if_pos c4, decide_eq_true c4]; rfl
        · rw [if_neg c4, decide_eq_false c4]; rfl
      · rw [if_neg c3, decide_eq_false c3]; rfl
  · rw [if_neg c1, decide_eq_false c1]
    by_cases c3 : σ 17 k = b
    · rw [if_pos c3, decide_eq_true c3]
      by_cases c4 : σ 18 k = a
      · rw [if_pos c4, decide_eq_true c4]; rfl
      · rw [if_neg c4, decide_eq_false c4]; rfl
    · rw [if_neg c3, decide_eq_false c3]; rfl
theorem C_ill (hF : 800 ≤ F) {σ : St} {a b : Int32} {D : Nat} (hD : D ≤ 8) (c1 : σ 15 1 = qN D) : fX7_isIllPaired F σ a b = some (bI (ilB (σ 17) (σ 18) a b D)) := by
  unfold fX7_isIllPaired
  refine wpE fun Q hQ => ?_
  refine wj fun J2 hJ2 => ?_
  have hJ : Q (J2 (bI (decide (a = b)))) := by
    rw [hJ2]
    refine lp_up Q (fun k (v : Int32 × Int32) => v.1 = qN k ∧ v.2 = bI (ilB (σ 17) (σ 18) a b k)) D ?_ F 0 _ (by omega) (by omega) ⟨rfl, rfl⟩
    rintro k ⟨i, c⟩ K hk ⟨hi, hc⟩ hK
    dsimp only at hi hc
    subst hi hc
    dsimp only
    rw [c1]
    by_cases hkD : k = D
    · subst hkD
      refine wiT (Int32.le_refl _) ?_
      have : ∀ x : Bool, ckB (bI x) (some (bI x)) = some (bI x) := fun x => by cases x <;> rfl
      rw [this]; exact hQ
    · refine wiF (by rw [q_le (by omega) (by omega)]; omega) ?_
      cases hb : ilB (σ 17) (σ 18) a b k with
      | false =>
        refine wiT (show bI false = 0 from rfl) (wb1 (C_joins (by omega)) ?_)
        cases hj : jnB (σ 17) (σ 18) a b k with
        | false => exact wiT (show bI false = 0 from rfl) (hK _ (by omega) ⟨q_add k 1, by rw [ilB, hb, hj]; rfl⟩)
        | true => exact wiF (show ¬ bI true = 0 by decide) (hK _ (by omega) ⟨q_add k 1, by rw [ilB, hb, hj]; rfl⟩)
      | true => exact wiF (show ¬ bI true = 0 by decide) (hK _ (by omega) ⟨q_add k 1, by rw [ilB, hb]; rfl⟩)
  by_cases hab : a = b
  · rw [decide_eq_true hab] at hJ
    exact wiT hab hJ
  · rw [decide_eq_false hab] at hJ
    exact wiF hab hJ
theorem il_cg {L R L' R' : Nat → Int32} {a b : Int32} : ∀ D, (∀ k, k < D → L k = L' k ∧ R k = R' k) → ilB L R a b D = ilB L' R' a b D := by
  intro D
  induction D with
  | zero => intro _; rfl
  | succ D ih => intro h; rw [ilB, ilB, ih (fun k hk => h k (by omega))]; unfold jnB; rw [(h D (by omega)).1, (h D (by omega)).2]
theorem il_not {L R : Nat → Int32} {a b : Int32} : ∀ D, a ≠ b → (∀ k, k < D → L k ≠ b ∧ R k ≠ b) → ilB L R a b D = false := by
  intro D
  induction D with
  | zero => intro h _; exact decide_eq_false h
  | succ D ih =>
    intro h h2
    rw [ilB, ih h (fun k hk => h2 k (by omega))]
    unfold jnB
    rw [decide_eq_false (h2 D (by omega)).1, decide_eq_false (h2 D (by omega)).2, Bool.and_false, Bool.false_and]; rfl
/-- the parts of the reference's text -/
def dnW (F : Nat) (r5 r10 : Int32) (v21 : St) : Option St := nm (8 + (v21 5 5)) fun x24 => ckI (x24) 16 (nm (up v21 7 (Int32.toNatClampNeg x24) r5) fun u25 => ckI (x24) 16 (nm (up u25 8 (Int32.toNatClampNeg x24) r10) fun u26 => bd2 (fX11_readNumber F u26 1 4) fun r27 u28 => ckI (x24) 16 (nm (up u28 9 (Int32.toNatClampNeg x24) r27) fun u29 => ckI (x24) 16 (nm (up u29 10 (Int32.toNatClampNeg x24) 0) fun u30 => nm (up u30 5 5 ((u30 5 5) + 1)) fun u31 => some u31))))
def dnV (F : Nat) (r5 r10 : Int32) (u11 : St) (c : Int32) : Option St := jn (fun v18 : St => jn (fun v21 : St => dnW F r5 r10 v21) fun J22 => if (v18 0 25) = 0 then (bd1 (fX11_stepOn F v18) fun u32 => J22 u32) else J22 v18) fun J19 => if (u11 0 25) = 0 then (if c = 0 then (J19 u11) else bd1 (fX11_wrong F u11 4) fun u33 => J19 u33) else J19 u11
def dnU (F : Nat) (r5 r10 : Int32) (u11 : St) : Option St := jn (fun v12 : Int32 => lp (fun (K16 : (Int32 × Int32) → Option St) (v15 : Int32 × Int32) => if (8 + (u11 5 5)) ≤ v15.1 then (dnV F r5 r10 u11 v15.2) else if v15.2 = 0 then (ckI (v15.1) 16 (jn (fun v34 : Unit => ckI (v15.1) 16 (if (u11 7 (Int32.toNatClampNeg v15.1)) = r10 then (ckI (v15.1) 16 (if (u11 8 (Int32.toNatClampNeg v15.1)) = r5 then (K16 ((v15.1 + 1, 1))) else K16 ((v15.1 + 1, 0)))) else K16 ((v15.1 + 1, 0)))) fun J35 => if (u11 7 (Int32.toNatClampNeg v15.1)) = r5 then (ckI (v15.1) 16 (if (u11 8 (Int32.toNatClampNeg v15.1)) = r10 then (K16 ((v15.1 + 1, 1))) else J35 (()))) else J35 (()))) else K16 ((v15.1 + 1, 1))) F ((8, v12))) fun J13 => if r5 = r10 then (J13 1) else J13 0
theorem dn_eq (F : Nat) (σ : St) : fX11_readDance F σ = jn (fun v1 : St => if (v1 0 25) = 0 then (bd1 (fX11_stepOn F v1) fun u4 => bd2 (fX11_valleyNow F u4) fun r5 u6 => jn (fun v7 : St => bd2 (fX11_valleyNow F v7) fun r10 u11 => dnU F r5 r10 u11) fun J8 => if (u6 0 25) = 0 then (bd1 (fX11_stepOn F u6) fun u37 => J8 u37) else J8 u6) else some v1) fun J2 => if (σ 5 5) = (8 : Int32) then (bd1 (fX11_wrong F σ 2) fun u38 => J2 u38) else J2 σ := rfl
theorem dnU_il (hF : 800 ≤ F) {r5 r10 : Int32} {w : St} {D : Nat} (hD : D ≤ 8) (m5 : w 5 5 = qN D) : dnU F r5 r10 w = dnV F r5 r10 w (bI (ilB (fun k => w 7 (8 + k)) (fun k => w 8 (8 + k)) r5 r10 D)) := by
  suffices h : ∀ Q : Option St → Prop, Q (dnV F r5 r10 w (bI (ilB (fun k => w 7 (8 + k)) (fun k => w 8 (8 + k)) r5 r10 D))) → Q (dnU F r5 r10 w) from h (fun z => z = _) rfl
  intro Q hQ
  unfold dnU
  refine wj fun J2 hJ2 => ?_
  have hJ : Q (J2 (bI (decide (r5 = r10)))) := by
    rw [hJ2]
    refine lp_up Q (fun k (v : Int32 × Int32) => v.1 = qN (8 + k) ∧ v.2 = bI (ilB (fun k => w 7 (8 + k)) (fun k => w 8 (8 + k)) r5 r10 k)) D ?_ F 0 _ (by omega) (by omega) ⟨rfl, rfl⟩
    rintro k ⟨i, c⟩ K hk ⟨hi, hc⟩ hK
    dsimp only at hi hc
    subst hi hc
    dsimp only
    rw [m5, show (8 : Int32) + qN D = qN (8 + D) from q_add 8 D]
    by_cases hkD : k = D
    · subst hkD
      exact wiT (Int32.le_refl _) hQ
    · refine wiF (by rw [q_le (by omega) (by omega)]; omega) ?_
      have hq : qN (8 + k) + 1 = qN (8 + (k + 1)) := q_add (8 + k) 1
      cases hb : ilB (fun k => w 7 (8 + k)) (fun k => w 8 (8 + k)) r5 r10 k with
      | true => exact wiF (show ¬ bI true = 0 by decide) (hK _ (by omega) ⟨hq, by rw [ilB, hb]; rfl⟩)
      | false =>
        have kT : jnB (fun k => w 7 (8 + k)) (fun k => w 8 (8 + k)) r5 r10 k = true → Q (K (qN (8 + k) + 1, 1)) := fun hj => hK _ (by omega) ⟨hq, by rw [ilB, hb, hj]; rfl⟩
        have kF : jnB (fun k => w 7 (8 + k)) (fun k => w 8 (8 + k)) r5 r10 k = false → Q (K (qN (8 + k) + 1, 0)) := fun hj => hK _ (by omega) ⟨hq, by rw [ilB, hb, hj]; rfl⟩
        refine wiT (show bI false = 0 from rfl) (wk (k := 8 + k) rfl (by omega) (by omega) (wj fun J35 hJ35 => ?_))
        rw [q_clamp (by omega)]
        by_cases e1 : w 7 (8 + k) = r5
        · refine wiT e1 (wk (k := 8 + k) rfl (by omega) (by omega) ?_)
          by_cases e2 : w 8 (8 + k) = r10
          · exact wiT e2 (kT (by unfold jnB; rw [decide_eq_true e1, decide_eq_true e2]; rfl))
          · refine wiF e2 ?_
            rw [hJ35, q_clamp (by omega)]
            refine wk (k := 8 + k) rfl (by omega) (by omega) ?_
            by_cases e3 : w 7 (8 + k) = r10
            · refine wiT e3 (wk (k := 8 + k) rfl (by omega) (by omega) ?_)
              by_cases e4 : w 8 (8 + k) = r5
              · exact wiT e4 (kT (by unfold jnB; rw [decide_eq_true e3, decide_eq_true e4]; simp))
              · exact wiF e4 (kF (by unfold jnB; rw [decide_eq_false e2, decide_eq_false e4]; simp))
            · exact wiF e3 (kF (by unfold jnB; rw [decide_eq_false e2, decide_eq_false e3]; simp))
        · refine wiF e1 ?_
          rw [hJ35, q_clamp (by omega)]
          refine wk (k := 8 + k) rfl (by omega) (by omega) ?_
          by_cases e3 : w 7 (8 + k) = r10
          · refine wiT e3 (wk (k := 8 + k) rfl (by omega) (by omega) ?_)
            by_cases e4 : w 8 (8 + k) = r5
            · exact wiT e4 (kT (by unfold jnB; rw [decide_eq_true e3, decide_eq_true e4]; simp))
            · exact wiF e4 (kF (by unfold jnB; rw [decide_eq_false e1, decide_eq_false e4]; simp))
          · exact wiF e3 (kF (by unfold jnB; rw [decide_eq_false e1, decide_eq_false e3]; simp))
  by_cases hab : r5 = r10
  · rw [decide_eq_true hab] at hJ
    exact wiT hab hJ
  · rw [decide_eq_false hab] at hJ
    exact wiF hab hJ
theorem dnW_bad {r5 r10 : Int32} {w : St} {D : Nat} (hD : D < 8) (m5 : w 5 5 = qN D) (hb : w 0 25 ≠ 0) : ∃ y, dnW F r5 r10 w = some y ∧ FDm w y ∧ y 0 = w 0 := by
  unfold dnW
  simp only [nm]
  rw [m5, show (8 : Int32) + qN D = qN (8 + D) from q_add 8 D, ck_ok (by omega) (by omega), ck_ok (by omega) (by omega), q_clamp (by omega), M_num_bad (by rw [up_ne _ _ _ (by decide), up_ne _ _ _ (by decide)]; exact hb), bd2_some, ck_ok (by omega) (by omega), ck_ok (by omega) (by omega)]
  refine ⟨_, rfl, (FDm_up (by simp [okD])).trans ((FDm_up (by simp [okD])).trans ((FDm_up (by simp [okD])).trans ((FDm_up (by simp [okD])).trans (FDm_up (by decide))))), ?_⟩
  rw [up_ne _ _ _ (by decide), up_ne _ _ _ (by decide), up_ne _ _ _ (by decide), up_ne _ _ _ (by decide), up_ne _ _ _ (by decide)]
theorem dnV_bad {r5 r10 c : Int32} {w : St} {D : Nat} (hD : D < 8) (m5 : w 5 5 = qN D) (hb : w 0 25 ≠ 0) : ∃ y, dnV F r5 r10 w c = some y ∧ FDm w y ∧ y 0 = w 0 := by
  unfold dnV
  simp only [jn]
  rw [if_neg hb, if_neg hb]
  exact dnW_bad hD m5 hb
theorem DD_dance {σ τ x y : St} {V D a b c : Nat} (h : DD σ τ V D) (hD : D < 8) (x0 : x 15 0 = σ 15 0) (x1 : x 15 1 = qN (D + 1)) (x2 : x 15 2 = σ 15 2) (y4 : y 5 4 = τ 5 4) (y5 : y 5 5 = qN (D + 1)) (y6 : y 5 6 = τ 5 6) (x16 : x 16 = σ 16) (z6 : y 6 = τ 6)
    (x17 : x 17 = upd (σ 17) D (qN a)) (x18 : x 18 = upd (σ 18) D (qN b)) (x19 : x 19 = upd (σ 19) D (qN c)) (x20 : x 20 = upd (σ 20) D 0) (y7 : y 7 = upd (τ 7) (8 + D) (qN a)) (y8 : y 8 = upd (τ 8) (8 + D) (qN b)) (y9 : y 9 = upd (τ 9) (8 + D) (qN c)) (y10 : y 10 = upd (τ 10) (8 + D) 0)
    (hx : ∀ c, 21 ≤ c → c ≤ 24 → x c = σ c) (hy : ∀ c, 11 ≤ c → c ≤ 14 → y c = τ c) (ha : a < V) (hb : b < V) (hab : a ≠ b) (hc : 1 ≤ c ∧ c ≤ 4) : DD x y V (D + 1) := by
  obtain ⟨q1, q2, q3, q4, q5, q6, q7, q8, q9, q10⟩ := h
  refine ⟨q1, by omega, by rw [x0]; exact q3, by rw [y4]; exact q4, x1, y5, by rw [y6, x2]; exact q7, by rw [x2]; exact q8, by rw [x16, z6]; exact q9, fun d hd => ?_⟩
  unfold DN
  rw [x17, x18, x19, x20, y7, y8, y9, y10]
  by_cases hdD : d = D
  · subst hdD
    rw [upd_same, upd_same, upd_same, upd_same, upd_same, upd_same, upd_same, upd_same]
    refine ⟨rfl, rfl, rfl, rfl, ⟨a, rfl, ha⟩, ⟨b, rfl, hb⟩, ?_, ⟨?_, ?_⟩, 0, by decide, rfl, fun i hi => absurd hi (by omega)⟩
    · intro hh; rw [q_eq (by omega) (by omega)] at hh; exact hab hh
    · rw [show (1 : Int32) = qN 1 from rfl, q_le (by omega) (by omega)]; exact hc.1
    · rw [show (4 : Int32) = qN 4 from rfl, q_le (by omega) (by omega)]; exact hc.2
  · rw [upd_ne _ _ hdD, upd_ne _ _ hdD, upd_ne _ _ hdD, upd_ne _ _ hdD, upd_ne _ _ (by omega), upd_ne _ _ (by omega), upd_ne _ _ (by omega), upd_ne _ _ (by omega)]
    have := q10 d (by omega)
    unfold DN DS at this
    unfold DS
    rw [hx 21 (by decide) (by decide), hx 22 (by decide) (by decide), hx 23 (by decide) (by decide), hx 24 (by decide) (by decide), hy 11 (by decide) (by decide), hy 12 (by decide) (by decide), hy 13 (by decide) (by decide), hy 14 (by decide) (by decide)]
    exact this
end
