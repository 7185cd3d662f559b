set_option linter.unusedVariables false
set_option linter.unusedSimpArgs false
set_option maxRecDepth 16384
/-! a line read by both -/
def dnI (b3 b4 : Bool) : Int32 := if b3 then (if b4 then 3 else 1) else (if b4 then 2 else 0)
section
variable {F : Nat} {t : Nat → Int32} {n : Nat}
theorem LO.ck {σ τ : St} {s : Nat} {b3 b4 : Bool} {x0 : Int32} {x1 y : St} (h : LO t n σ τ s b3 b4 (x0, x1) y) {α : Type} (z : Option α) : ckB x0 z = z := by
  rcases h.2.2 with ⟨e, _⟩ | ⟨e, _⟩
  · rw [show x0 = 1 from e]; exact ckB1 z
  · rw [show x0 = 0 from e]; exact ckB0 z
theorem isW_not {s i j : Nat} (hi : i < 17) (hj : j < 17) (hij : i ≠ j) (h : isW t n s i = true) : isW t n s j = false := by
  cases hh : isW t n s j with
  | false => rfl
  | true => exact absurd (isW_one hi hj h hh) hij
theorem kw_none {s i : Nat} (hi : i < 17) (h5 : 5 ≤ i) (h : isW t n s i = true) : kwA t n s = none := by
  cases hh : kwA t n s with
  | none => rfl
  | some k =>
    obtain ⟨k1, k2⟩ := kw_ex hh
    exact absurd (isW_one (by omega) hi k2 h) (by omega)
theorem P_line (hF : 800 ≤ F) (hn : n ≤ 700) (hb : ∀ k, 0 ≤ t k ∧ t k ≤ 255) {σ τ : St} {s : Nat} {b3 b4 : Bool} (h : DR t n σ τ s b3 b4) (hk0 : kdA t n s ≠ 0) :
    ∃ x y b3' b4' z, fX7_readLine F σ = some x ∧ fX11_readLine F τ (dnI b3 b4) = (bd1 (fX11_mark F y 59) fun u12 => some (z, u12)) ∧ LO t n σ τ s b3' b4' x y ∧ (x.1 = 1 → z = dnI b3' b4') := by
  have hP := h.pl
  have hbad := hP.2.2.2
  have hW : ∀ i, i < 17 → fX7_isWord F σ i = some (bI (isW t n s i)) := fun i hi => C_isWord hF hn hP.2.2.1 hP.1 hi
  have hI : ∀ i, i < 17 → fX11_is F τ i = some (bI (isW t n s i)) := fun i hi => M_is hF hn hP.2.2.1 hP.2.1 hbad hi
  have hK : fX11_which_2 F τ = some (nO (kwA t n s)) := M_which2 hF hn hP.2.2.1 hP.2.1 hbad
  have bT : ¬ bI true = 0 := by decide
  have bF : bI false = 0 := rfl
  have h5b : wrS τ 5 s 0 25 ≠ 0 := wr_bad (by decide)
  have hE : ∀ {y : St} {z : Int32}, (∀ Q : Option (Int32 × St) → Prop, Q (bd1 (fX11_mark F y 59) fun u12 => some (z, u12)) → Q (fX11_readLine F τ (dnI b3 b4))) → fX11_readLine F τ (dnI b3 b4) = (bd1 (fX11_mark F y 59) fun u12 => some (z, u12)) := fun {y z} hq => hq (fun o => o = bd1 (fX11_mark F y 59) fun u12 => some (z, u12)) rfl
  unfold fX7_readLine
  rw [hW 13 (by decide), bd1_some, hW 14 (by decide), bd1_some, hW 15 (by decide), bd1_some, hW 16 (by decide), bd1_some]
  cases h15 : isW t n s 15 with
  | true =>
    rw [isW_not (by decide) (by decide) (by decide) h15, isW_not (j := 14) (by decide) (by decide) (by decide) h15, if_pos bF, if_pos bF, if_neg bT]
    cases b3 with
    | false =>
      obtain ⟨⟨x0, x1⟩, y, g1, g2, g3⟩ := P_floor (F := F) hF hn hb h hk0
      rw [g1, bd2_some, g3.ck]
      refine ⟨_, y, true, b4, dnI false b4 ||| 1, rfl, hE fun Q hQ => ?_, g3, fun _ => by cases b4 <;> rfl⟩
      unfold fX11_readLine
      refine wb1 (hI 15 (by decide)) ?_
      rw [h15]
      refine wj fun J3 hJ3 => wiF bT ?_
      rw [hJ3]
      refine wb1 hK (wj fun J7 hJ7 => wiT (by cases b4 <;> rfl) ?_)
      rw [hJ7]
      refine wj fun J10 hJ10 => wiF (by decide) (wj fun J20 hJ20 => wiT hbad ?_)
      rw [show (fun u26 => J20 u26) = fun u26 => bd2 (fX11_readNumber F u26 4 20) fun r23 u24 => nm (up u24 5 6 r23) fun u25 => J10 u25 from funext fun v => by rw [hJ20, if_pos rfl], g2, hJ10]
      exact hQ
    | true =>
      have e3 : σ 15 3 = 1 := h.2.1
      unfold fX7_readFloor
      rw [if_neg (show ¬ σ 15 3 = 0 by rw [e3]; decide), show fX7_refuse F σ 5 = some (0, rfS σ 5 s) from C_ref hP 5, bd2_some, ckB0, bd2_some, ckB0]
      refine ⟨_, up (wrS τ 5 s) 5 6 0, true, b4, dnI true b4 ||| 1, rfl, hE fun Q hQ => ?_, LO_no rf_FL.fd (wr_FLm.fd.trans (FDm_up (by decide))) ((rw_BD (by decide)).w0 (up_ne _ _ _ (by decide))), fun hh => absurd (show (0 : Int32) = 1 from hh) (by decide)⟩
      unfold fX11_readLine
      refine wb1 (hI 15 (by decide)) ?_
      rw [h15]
      refine wj fun J3 hJ3 => wiF bT ?_
      rw [hJ3]
      refine wb1 hK (wj fun J7 hJ7 => wiF (by cases b4 <;> decide) (wb1 (show fX11_wrong F τ 5 = some (wrS τ 5 s) from M_wr hP 5) ?_))
      rw [hJ7]
      refine wj fun J10 hJ10 => wiF (by decide) (wj fun J20 hJ20 => wiF h5b ?_)
      rw [hJ20]
      refine wiT rfl (wb2 (M_num_bad h5b _ _) (wn fun u25 hu => ?_))
      rw [hJ10, hu]
      exact hQ
  | false =>
    rw [if_pos bF]
    cases h16 : isW t n s 16 with
    | true =>
      rw [isW_not (by decide) (by decide) (by decide) h16, isW_not (j := 14) (by decide) (by decide) (by decide) h16, if_pos bF, if_pos bF, if_neg bT]
      cases b4 with
      | false =>
        obtain ⟨⟨x0, x1⟩, y, g1, g2, g3⟩ := P_limit (F := F) hF hn hb h hk0
        rw [g1, bd2_some, g3.ck]
        refine ⟨_, y, b3, true, dnI b3 false ||| 2, rfl, hE fun Q hQ => ?_, g3, fun _ => by cases b3 <;> rfl⟩
        unfold fX11_readLine
        refine wb1 (hI 15 (by decide)) ?_
        rw [h15]
        refine wj fun J3 hJ3 => wiT bF (wb1 (hI 16 (by decide)) ?_)
        rw [h16]
        refine wiF bT ?_
        rw [hJ3]
        refine wb1 hK (wj fun J7 hJ7 => wiT (by cases b3 <;> rfl) ?_)
        rw [hJ7]
        refine wj fun J10 hJ10 => wiF (by decide) (wj fun J20 hJ20 => wiT hbad ?_)
        rw [show (fun u26 => J20 u26) = fun u26 => bd1 (fX11_readExpression F 10 u26 0) fun u22 => J10 u22 from funext fun v => by rw [hJ20, if_neg (by decide)], g2, hJ10]
        exact hQ
      | true =>
        have e4 : σ 15 4 = 1 := h.2.2.1
        unfold fX7_readLimit
        rw [if_neg (show ¬ σ 15 4 = 0 by rw [e4]; decide), show fX7_refuse F σ 5 = some (0, rfS σ 5 s) from C_ref hP 5, bd2_some, ckB0, bd2_some, ckB0]
        refine ⟨_, wrS τ 5 s, b3, true, dnI b3 true ||| 2, rfl, hE fun Q hQ => ?_, LO_no rf_FL.fd wr_FLm.fd (rw_BD (by decide)), fun hh => absurd (show (0 : Int32) = 1 from hh) (by decide)⟩
        unfold fX11_readLine
        refine wb1 (hI 15 (by decide)) ?_
        rw [h15]
        refine wj fun J3 hJ3 => wiT bF (wb1 (hI 16 (by decide)) ?_)
        rw [h16]
        refine wiF bT ?_
        rw [hJ3]
        refine wb1 hK (wj fun J7 hJ7 => wiF (by cases b3 <;> decide) (wb1 (show fX11_wrong F τ 5 = some (wrS τ 5 s) from M_wr hP 5) ?_))
        rw [hJ7]
        refine wj fun J10 hJ10 => wiF (by decide) (wj fun J20 hJ20 => wiF h5b ?_)
        rw [hJ20]
        refine wiF (by decide) (wb1 (show fX11_readExpression F 10 (wrS τ 5 s) 0 = some (wrS τ 5 s) from SB_expr _ _ h5b) ?_)
        rw [hJ10]
        exact hQ
    | false =>
      rw [if_pos bF]
      have pre : ∀ {y : St} (Q : Option (Int32 × St) → Prop), (∀ J10 : St → Option (Int32 × St), J10 y = (bd1 (fX11_mark F y 59) fun u12 => some (dnI b3 b4 ||| 0, u12)) → Q (if nO (kwA t n s) = (-1 : Int32) then (bd1 (fX11_is F τ 13) fun r13 => if r13 = 0 then (bd1 (fX11_is F τ 14) fun r14 => if r14 = 0 then (bd1 (fX11_wrong F τ 1) fun u15 => J10 u15) else bd1 (fX11_readDance F τ) fun u16 => J10 u16) else bd1 (fX11_readValley F τ) fun u17 => J10 u17) else bd1 (fX11_readStep F τ (nO (kwA t n s))) fun u18 => J10 u18)) → Q (fX11_readLine F τ (dnI b3 b4)) := by
        intro y Q hq
        unfold fX11_readLine
        refine wb1 (hI 15 (by decide)) ?_
        rw [h15]
        refine wj fun J3 hJ3 => wiT bF (wb1 (hI 16 (by decide)) ?_)
        rw [h16]
        refine wiT bF ?_
        rw [hJ3]
        refine wb1 hK (wj fun J7 hJ7 => wiT (by cases b3 <;> cases b4 <;> rfl) ?_)
        rw [hJ7]
        refine wj fun J10 hJ10 => wiT (by decide) ?_
        exact hq J10 (hJ10 y)
      have hz : dnI b3 b4 ||| 0 = dnI b3 b4 := by cases b3 <;> cases b4 <;> rfl
      cases h13 : isW t n s 13 with
      | true =>
        rw [if_neg bT]
        obtain ⟨⟨x0, x1⟩, y, g1, g2, g3⟩ := P_valley (F := F) hF hn hb h hk0
        rw [g1, bd2_some, g3.ck]
        refine ⟨_, y, b3, b4, dnI b3 b4 ||| 0, rfl, hE fun Q hQ => pre (y := y) Q fun J10 hJ10 => ?_, g3, fun _ => hz⟩
        rw [kw_none (by decide) (by decide) h13]
        refine wiT rfl (wb1 (hI 13 (by decide)) ?_)
        rw [h13]
        refine wiF bT (wb1 g2 ?_)
        rw [hJ10]; exact hQ
      | false =>
        rw [if_pos bF]
        cases h14 : isW t n s 14 with
        | true =>
          rw [if_neg bT]
          obtain ⟨⟨x0, x1⟩, y, g1, g2, g3⟩ := P_dance (F := F) hF hn hb h hk0
          rw [g1, bd2_some, g3.ck]
          refine ⟨_, y, b3, b4, dnI b3 b4 ||| 0, rfl, hE fun Q hQ => pre (y := y) Q fun J10 hJ10 => ?_, g3, fun _ => hz⟩
          rw [kw_none (by decide) (by decide) h14]
          refine wiT rfl (wb1 (hI 13 (by decide)) ?_)
          rw [h13]
          refine wiT bF (wb1 (hI 14 (by decide)) ?_)
          rw [h14]
          refine wiF bT (wb1 g2 ?_)
          rw [hJ10]; exact hQ
        | false =>
          rw [if_pos bF]
          cases hkw : kwA t n s with
          | some k =>
            obtain ⟨⟨x0, x1⟩, y, g1, g2, g3⟩ := P_step (F := F) hF hn hb h hk0 hkw
            rw [g1, bd2_some, g3.ck]
            refine ⟨_, y, b3, b4, dnI b3 b4 ||| 0, rfl, hE fun Q hQ => pre (y := y) Q fun J10 hJ10 => ?_, g3, fun _ => hz⟩
            have hk5 := (kw_ex hkw).1
            rw [hkw]
            refine wiF (show ¬ qN k = -1 by intro hh; exact (q_neg1 (by omega)).1 hh) (wb1 g2 ?_)
            rw [hJ10]; exact hQ
          | none =>
            have g1 : fX7_readStep F σ = some (0, rfS σ 1 s) := by
              unfold fX7_readStep
              refine wpE fun Q hQ => ?_
              refine wb1 (C_kind hF hn hP.2.2.1 hP.1) ?_
              rw [hkw]
              refine wj fun J3 hJ3 => wiT rfl ?_
              rw [hJ3]
              refine wb2 (show fX7_refuse F σ 1 = some (0, rfS σ 1 s) from C_ref hP 1) ?_
              rw [ckB0]; exact hQ
            rw [g1, bd2_some, ckB0]
            refine ⟨_, wrS τ 1 s, b3, b4, dnI b3 b4 ||| 0, rfl, hE fun Q hQ => pre (y := wrS τ 1 s) Q fun J10 hJ10 => ?_, LO_bad (by decide), fun hh => absurd (show (0 : Int32) = 1 from hh) (by decide)⟩
            rw [hkw]
            refine wiT rfl (wb1 (hI 13 (by decide)) ?_)
            rw [h13]
            refine wiT bF (wb1 (hI 14 (by decide)) ?_)
            rw [h14]
            refine wiT bF (wb1 (show fX11_wrong F τ 1 = some (wrS τ 1 s) from M_wr hP 1) ?_)
            rw [hJ10]; exact hQ
/-- a line and the sign behind it -/
theorem P_lineS (hF : 800 ≤ F) (hn : n ≤ 700) (hb : ∀ k, 0 ≤ t k ∧ t k ≤ 255) {σ τ : St} {s : Nat} {b3 b4 : Bool} (h : DR t n σ τ s b3 b4) (hk0 : kdA t n s ≠ 0) :
    ∃ y z, fX11_readLine F τ (dnI b3 b4) = some (z, y) ∧ FDm τ y ∧
      ((∃ u u2 s' b3' b4', fX7_readLine F σ = some (1, u) ∧ fX7_takeSign F u 59 = some (1, u2) ∧ FD σ u2 ∧ s < s' ∧ DR t n u2 y s' b3' b4' ∧ z = dnI b3' b4') ∨
       (∃ u, fX7_readLine F σ = some (0, u) ∧ FD σ u ∧ BDp u y) ∨ (∃ u u2, fX7_readLine F σ = some (1, u) ∧ fX7_takeSign F u 59 = some (0, u2) ∧ FD σ u2 ∧ BDp u2 y)) := by
  obtain ⟨⟨x0, u⟩, y, b3', b4', z, g1, g2, ⟨f1, f2, hor⟩, hz⟩ := P_line (F := F) hF hn hb h hk0
  dsimp only at f1 hor hz
  rcases hor with ⟨rfl, s', hs', hd⟩ | ⟨rfl, hbd⟩
  · rcases P_sign (F := F) hF hn hb hd.pl 59 with ⟨u2, w, k1, k2, hP2, hs2, fu, fw⟩ | ⟨u2, w, k1, k2, hbd, fu, fw⟩
    · refine ⟨w, z, by rw [g2, k2]; rfl, f2.trans fw.fd, .inl ⟨u, u2, nxA t n s', b3', b4', g1, k1, f1.trans fu.fd, by omega, ?_, hz rfl⟩⟩
      obtain ⟨⟨L, x, hL, hL0⟩, e3, e4, V, D, d⟩ := hd
      refine ⟨⟨L, x.lex hP2 fu fw, by omega, hL0⟩, by rw [fu 15 (by decide)]; exact e3, by rw [fu 15 (by decide)]; exact e4, V, D, ?_⟩
      exact d.cg (fun j _ => by rw [fu 15 (by decide)]) (fun c _ _ => fu c (by omega)) (fun j _ _ => by rw [fw.1 5 (by decide)]) (fun c _ _ => fw.1 c (by omega))
    · exact ⟨w, z, by rw [g2, k2]; rfl, f2.trans fw.fd, .inr (.inr ⟨u, u2, g1, k1, f1.trans fu.fd, hbd⟩)⟩
  · exact ⟨y, z, by rw [g2, M_mark_bad hbd.bad]; rfl, f2, .inr (.inl ⟨u, g1, f1, hbd⟩)⟩
end
