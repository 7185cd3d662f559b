set_option linter.unusedVariables false
set_option linter.unusedSimpArgs false
set_option maxRecDepth 16384
/-! a dance read by both -/
section
variable {F : Nat} {t : Nat → Int32} {n : Nat}
theorem P_dance (hF : 800 ≤ F) (hn : n ≤ 700) (hb : ∀ k, 0 ≤ t k ∧ t k ≤ 255) {σ τ : St} {s : Nat} {b3 b4 : Bool} (h : DR t n σ τ s b3 b4) (hk0 : kdA t n s ≠ 0) :
    ∃ x y, fX7_readDance F σ = some x ∧ fX11_readDance F τ = some y ∧ LO t n σ τ s b3 b4 x y := by
  have hP := h.pl
  obtain ⟨⟨L, x, hL, hL0⟩, e3, e4, V, D, d⟩ := h
  have d' := d
  obtain ⟨hV, hD, c0, m4, c1, m5, m6, hfl, hkn, hdn⟩ := d'
  have hs1 := (nx_le (t := t) hn hP.2.2.1).2.2.1 hk0
  unfold fX7_readDance
  rw [dn_eq]
  simp only [jn]
  rw [c1, m5]
  by_cases hD8 : D = 8
  · rw [if_neg (show ¬ qN D < 8 by rw [hD8]; decide), if_pos (show qN D = 8 by rw [hD8]; rfl), show fX7_refuse F σ 2 = some (0, rfS σ 2 s) from C_ref hP 2, bd2_some, ckB0, show fX11_wrong F τ 2 = some (wrS τ 2 s) from M_wr hP 2, bd1_some, if_neg (wr_bad (by decide))]
    exact ⟨_, _, rfl, rfl, LO_bad (by decide)⟩
  · have hDl : D < 8 := by omega
    rw [if_pos (show qN D < 8 by rw [show (8 : Int32) = qN 8 from rfl, q_lt (by omega) (by omega)]; omega), if_neg (show ¬ qN D = 8 by rw [show (8 : Int32) = qN 8 from rfl, q_eq (by omega) (by omega)]; exact hD8), if_pos hP.2.2.2]
    obtain ⟨u, w, hu, hw, hP1, fu, fw, _⟩ := P_next (F := F) hF hn hb hP
    rw [hu, hw, bd1_some, bd1_some]
    have u15 : u 15 = σ 15 := fu 15 (by decide)
    have w5 : w 5 = τ 5 := fw.1 5 (by decide)
    rcases P_vtk (F := F) hF hn hb hP1 hV (by rw [u15]; exact c0) (by rw [w5]; exact m4) with ⟨v, u1, w1, g1, g2, g3, hvV, hP2, hs2, fu1, fw1, hnm⟩ | ⟨u1, w1, g1, g2, hbd, fu1, fw1, hnm⟩
    · rw [g1, g2, bd2_some, bd2_some, if_neg (show ¬ qN v = -1 by intro hh; exact (q_neg1 (by omega)).1 hh), if_pos hP1.2.2.2, g3, bd1_some]
      have fu2 := fu.trans fu1
      have fw2 := fw.trans fw1
      have x15 : u1 15 = σ 15 := fu2 15 (by decide)
      have y5 : w1 5 = τ 5 := fw2.1 5 (by decide)
      rw [C_numHere hF hn hP2.2.2.1 hP2.1, bd1_some, C_ill hF hD (by rw [x15]; exact c1), bd1_some]
      rcases P_vtk (F := F) hF hn hb hP2 hV (by rw [x15]; exact c0) (by rw [y5]; exact m4) with ⟨v2, u2, w2, i1, i2, i3, hvV2, hP3, hs3, fu3, fw3, hnm2⟩ | ⟨u2, w2, i1, i2, hbd, fu3, fw3, hnm2⟩
      · rw [i2, bd2_some, hnm2, dnU_il hF hD (by rw [y5]; exact m5)]
        have hil : ilB (fun k => w1 7 (8 + k)) (fun k => w1 8 (8 + k)) (qN v) (qN v2) D = ilB (u1 17) (u1 18) (qN v) (nO (some v2)) D := by
          refine il_cg D fun k hk => ?_
          rw [fw2.1 7 (by decide), fw2.1 8 (by decide), fu2 17 (by decide), fu2 18 (by decide)]
          exact ⟨(hdn k hk).1, (hdn k hk).2.1⟩
        rw [hil]
        cases hB : ilB (u1 17) (u1 18) (qN v) (nO (some v2)) D with
        | true =>
          rw [if_neg (show ¬ bI true = 0 by decide), show fX7_refuse F u1 4 = some (0, rfS u1 4 _) from C_ref hP2 4, bd2_some, ckB0]
          unfold dnV
          simp only [jn]
          rw [if_pos hP2.2.2.2, if_neg (show ¬ bI true = 0 by decide), show fX11_wrong F w1 4 = some (wrS w1 4 _) from M_wr hP2 4, bd1_some, if_neg (wr_bad (by decide))]
          obtain ⟨y, hy, fy, y0⟩ := dnW_bad (F := F) (r5 := qN v) (r10 := qN v2) (w := wrS w1 4 (nxA t n (nxA t n s))) hDl (by unfold wrS; rw [up_ne _ _ _ (by decide), up_ne _ _ _ (by decide), y5]; exact m5) (wr_bad (by decide))
          exact ⟨_, y, rfl, hy, LO_no (fu2.trans rf_FL).fd ((fw2.trans wr_FLm).fd.trans fy) ((rw_BD (by decide)).w0 y0)⟩
        | false =>
          rw [if_pos (show bI false = 0 from rfl), i1, bd2_some, if_neg (show ¬ qN v2 = -1 by intro hh; exact (q_neg1 (by omega)).1 hh)]
          unfold dnV
          simp only [jn]
          rw [if_pos hP2.2.2.2, if_pos (show bI false = 0 from rfl), if_pos hP2.2.2.2, i3, bd1_some]
          have hvv : v ≠ v2 := by
            rintro rfl
            have : ∀ k, ilB (u1 17) (u1 18) (qN v) (nO (some v)) k = true := by
              intro k
              induction k with
              | zero => exact decide_eq_true rfl
              | succ k ih => rw [ilB, ih]; rfl
            rw [this] at hB; cases hB
          have fu4 := fu2.trans fu3
          have fw4 := fw2.trans fw3
          have x15' : u2 15 = σ 15 := fu4 15 (by decide)
          have y5' : w2 5 = τ 5 := fw4.1 5 (by decide)
          unfold dnW
          simp only [nm]
          rw [y5', m5, show (8 : Int32) + qN D = qN (8 + D) from q_add 8 D, ck_ok (by omega) (by omega), ck_ok (by omega) (by omega), q_clamp (by omega)]
          have hP4 : PL t n u2 (up (up w2 7 (8 + D) (qN v)) 8 (8 + D) (qN v2)) (nxA t n (nxA t n (nxA t n s))) := hP3.cg rfl rfl (by rw [up_ne _ _ _ (by decide), up_ne _ _ _ (by decide)]) (by rw [up_ne _ _ _ (by decide), up_ne _ _ _ (by decide)])
          rcases P_num (F := F) hF hn hb hP4 (lo := 1) (hi := 4) (by decide) (by decide) with ⟨c, u5, w5', r1', r2', hlo, hhi, hP5, hs5, fu5, fw5, _⟩ | ⟨u5, w5', r1', r2', hbd, fu5, fw5⟩
          · rw [show fX7_takeNumber F u2 1 4 = some (qN c, u5) from r1', bd2_some, show fX11_readNumber F (up (up w2 7 (8 + D) (qN v)) 8 (8 + D) (qN v2)) 1 4 = some (qN c, w5') from r2', bd2_some, if_neg (show ¬ qN c = -1 by intro hh; exact (q_neg1 (by omega)).1 hh)]
            have x15'' : u5 15 = σ 15 := by rw [fu5 15 (by decide)]; exact x15'
            have y5'' : w5' 5 = τ 5 := by rw [fw5.1 5 (by decide), up_ne _ _ _ (by decide), up_ne _ _ _ (by decide)]; exact y5'
            simp only [up_ne _ _ _ (show (15 : Nat) ≠ 17 by decide), up_ne _ _ _ (show (15 : Nat) ≠ 18 by decide), up_ne _ _ _ (show (15 : Nat) ≠ 19 by decide), up_ne _ _ _ (show (15 : Nat) ≠ 20 by decide), up_ne _ _ _ (show (5 : Nat) ≠ 9 by decide), up_ne _ _ _ (show (5 : Nat) ≠ 10 by decide)]
            rw [x15'', c1, y5'', m5, ck_ok (by omega) (by omega), ck_ok (by omega) (by omega), ck_ok (by omega) (by omega), ck_ok (by omega) (by omega), ck_ok (by omega) (by omega), ck_ok (by omega) (by omega), q_clamp (by omega), show qN D + 1 = qN (D + 1) from q_add D 1]
            have fux := fu4.trans fu5
            refine ⟨_, _, rfl, rfl, LO_ok (s' := nxA t n (nxA t n (nxA t n (nxA t n s)))) ?_ ?_ (by omega) ⟨⟨L, ?_, by omega, hL0⟩, ?_, ?_, V, D + 1, ?_⟩⟩
            · exact fux.fd.trans ((FD_up (by decide)).trans ((FD_up (by decide)).trans ((FD_up (by decide)).trans ((FD_up (by decide)).trans (FD_up (by decide))))))
            · exact fw4.fd.trans ((FDm_up (by simp [okD])).trans ((FDm_up (by simp [okD])).trans (fw5.fd.trans ((FDm_up (by simp [okD])).trans ((FDm_up (by simp [okD])).trans (FDm_up (by decide)))))))
            · have x3 := (x.lex hP3 fu4 fw4)
              have x4 : XR t n u2 (up (up w2 7 (8 + D) (qN v)) 8 (8 + D) (qN v2)) (nxA t n (nxA t n (nxA t n s))) L (bN b4) := x3.cg rfl rfl rfl rfl (by rw [up_ne _ _ _ (by decide), up_ne _ _ _ (by decide)]) (by rw [up_ne _ _ _ (by decide), up_ne _ _ _ (by decide)]) (by rw [up_ne _ _ _ (by decide), up_ne _ _ _ (by decide)]) (by rw [up_ne _ _ _ (by decide), up_ne _ _ _ (by decide)])
              have x5 := x4.lex hP5 fu5 fw5
              refine x5.cg ?_ ?_ ?_ ?_ ?_ ?_ ?_ ?_
              · rw [up_ne _ _ _ (by decide), up_ne _ _ _ (by decide), up_ne _ _ _ (by decide), up_ne _ _ _ (by decide), up_ne _ _ _ (by decide)]
              · rw [up_ne _ _ _ (by decide), up_ne _ _ _ (by decide), up_ne _ _ _ (by decide), up_ne _ _ _ (by decide), up_ne _ _ _ (by decide)]
              · rw [up_ne _ _ _ (by decide), up_ne _ _ _ (by decide), up_ne _ _ _ (by decide), up_ne _ _ _ (by decide), up_ne _ _ _ (by decide)]
              · rw [up_ne _ _ _ (by decide), up_ne _ _ _ (by decide), up_ne _ _ _ (by decide), up_ne _ _ _ (by decide), up_ne _ _ _ (by decide)]
              · rw [up_ne _ _ _ (by decide), up_ne _ _ _ (by decide), up_ne _ _ _ (by decide)]
              · rw [up_ne _ _ _ (by decide), up_ne _ _ _ (by decide), up_ne _ _ _ (by decide)]
              · rw [up_same, upd_ne _ _ (by decide), up_ne _ _ _ (by decide), up_ne _ _ _ (by decide)]
              · rw [up_ne _ _ _ (by decide), up_ne _ _ _ (by decide), up_ne _ _ _ (by decide)]
            · rw [up_same, upd_ne _ _ (by decide), up_ne _ _ _ (by decide), up_ne _ _ _ (by decide), up_ne _ _ _ (by decide), up_ne _ _ _ (by decide), x15'']; exact e3
            · rw [up_same, upd_ne _ _ (by decide), up_ne _ _ _ (by decide), up_ne _ _ _ (by decide), up_ne _ _ _ (by decide), up_ne _ _ _ (by decide), x15'']; exact e4
            · refine DD_dance (a := v) (b := v2) (c := c) d hDl ?_ ?_ ?_ ?_ ?_ ?_ ?_ ?_ ?_ ?_ ?_ ?_ ?_ ?_ ?_ ?_ ?_ ?_ hvV hvV2 hvv ⟨hlo, hhi⟩
              · rw [up_same, upd_ne _ _ (by decide), up_ne _ _ _ (by decide), up_ne _ _ _ (by decide), up_ne _ _ _ (by decide), up_ne _ _ _ (by decide), x15'']
              · rw [up_same, upd_same]
              · rw [up_same, upd_ne _ _ (by decide), up_ne _ _ _ (by decide), up_ne _ _ _ (by decide), up_ne _ _ _ (by decide), up_ne _ _ _ (by decide), x15'']
              · rw [up_same, upd_ne _ _ (by decide), up_ne _ _ _ (by decide), up_ne _ _ _ (by decide), y5'']
              · rw [up_same, upd_same]
              · rw [up_same, upd_ne _ _ (by decide), up_ne _ _ _ (by decide), up_ne _ _ _ (by decide), y5'']
              · rw [up_ne _ _ _ (by decide), up_ne _ _ _ (by decide), up_ne _ _ _ (by decide), up_ne _ _ _ (by decide), up_ne _ _ _ (by decide)]; exact fux 16 (by decide)
              · rw [up_ne _ _ _ (by decide), up_ne _ _ _ (by decide), up_ne _ _ _ (by decide), fw5.1 6 (by decide), up_ne _ _ _ (by decide), up_ne _ _ _ (by decide)]; exact fw4.1 6 (by decide)
              · rw [up_ne _ _ _ (by decide), up_ne _ _ _ (by decide), up_ne _ _ _ (by decide), up_ne _ _ _ (by decide), up_same, fux 17 (by decide)]
              · rw [up_ne _ _ _ (by decide), up_ne _ _ _ (by decide), up_ne _ _ _ (by decide), up_same, up_ne _ _ _ (by decide), fux 18 (by decide)]
              · rw [up_ne _ _ _ (by decide), up_ne _ _ _ (by decide), up_same, up_ne _ _ _ (by decide), up_ne _ _ _ (by decide), fux 19 (by decide)]
              · rw [up_ne _ _ _ (by decide), up_same, up_ne _ _ _ (by decide), up_ne _ _ _ (by decide), up_ne _ _ _ (by decide), fux 20 (by decide)]
              · rw [up_ne _ _ _ (by decide), up_ne _ _ _ (by decide), up_ne _ _ _ (by decide), fw5.1 7 (by decide), up_ne _ _ _ (by decide), up_same, fw4.1 7 (by decide)]
              · rw [up_ne _ _ _ (by decide), up_ne _ _ _ (by decide), up_ne _ _ _ (by decide), fw5.1 8 (by decide), up_same, up_ne _ _ _ (by decide), fw4.1 8 (by decide)]
              · rw [up_ne _ _ _ (by decide), up_ne _ _ _ (by decide), up_same, fw5.1 9 (by decide), up_ne _ _ _ (by decide), up_ne _ _ _ (by decide), fw4.1 9 (by decide)]
              · rw [up_ne _ _ _ (by decide), up_same, up_ne _ _ _ (by decide), fw5.1 10 (by decide), up_ne _ _ _ (by decide), up_ne _ _ _ (by decide), fw4.1 10 (by decide)]
              · intro k _ _; rw [up_ne _ _ _ (by omega), up_ne _ _ _ (by omega), up_ne _ _ _ (by omega), up_ne _ _ _ (by omega), up_ne _ _ _ (by omega)]; exact fux k (by omega)
              · intro k _ _; rw [up_ne _ _ _ (by omega), up_ne _ _ _ (by omega), up_ne _ _ _ (by omega), fw5.1 k (by omega), up_ne _ _ _ (by omega), up_ne _ _ _ (by omega)]; exact fw4.1 k (by omega)
          · rw [show fX7_takeNumber F u2 1 4 = some (-1, u5) from r1', bd2_some, show fX11_readNumber F (up (up w2 7 (8 + D) (qN v)) 8 (8 + D) (qN v2)) 1 4 = some (0, w5') from r2', bd2_some, if_pos rfl, ck_ok (by omega) (by omega), ck_ok (by omega) (by omega)]
            refine ⟨_, _, rfl, rfl, LO_no (fu4.trans fu5).fd ?_ (hbd.w0 ?_)⟩
            · exact fw4.fd.trans ((FDm_up (by simp [okD])).trans ((FDm_up (by simp [okD])).trans (fw5.fd.trans ((FDm_up (by simp [okD])).trans ((FDm_up (by simp [okD])).trans (FDm_up (by decide)))))))
            · rw [up_ne _ _ _ (by decide), up_ne _ _ _ (by decide), up_ne _ _ _ (by decide)]
      · have hB : ilB (u1 17) (u1 18) (qN v) (nO (nmA t n (nxA t n (nxA t n s)))) D = false := by
          have hne : ∀ k, k < V → qN k ≠ nO (nmA t n (nxA t n (nxA t n s))) := by
            intro k hk
            cases hq : nmA t n (nxA t n (nxA t n s)) with
            | none => intro hh; exact (q_neg1 (by omega)).1 hh
            | some m =>
              have := hnm2 m hq
              intro hh
              have : qN k = qN m := hh
              rw [q_eq (by omega) (by omega)] at this; omega
          refine il_not D (hne v hvV) fun k hk => ?_
          obtain ⟨_, _, _, _, ⟨a, a1, a2⟩, ⟨b, b1, b2⟩, _⟩ := hdn k hk
          rw [fu2 17 (by decide), fu2 18 (by decide), a1, b1]
          exact ⟨hne a a2, hne b b2⟩
        rw [hB, if_pos (show bI false = 0 from rfl), i1, bd2_some, if_pos rfl, i2, bd2_some, dnU_il hF hD (by rw [fw3.1 5 (by decide), y5]; exact m5)]
        obtain ⟨y, hy, fy, y0⟩ := dnV_bad (F := F) (r5 := qN v) (r10 := 0) (c := bI (ilB (fun k => w2 7 (8 + k)) (fun k => w2 8 (8 + k)) (qN v) 0 D)) hDl (by rw [fw3.1 5 (by decide), y5]; exact m5) hbd.bad
        exact ⟨_, y, rfl, hy, LO_no (fu2.trans fu3).fd ((fw2.trans fw3).fd.trans fy) (hbd.w0 y0)⟩
    · have y5 : w1 5 5 = qN D := by rw [fw1.1 5 (by decide), w5]; exact m5
      rw [g1, g2, bd2_some, bd2_some, if_pos rfl, if_neg hbd.bad, M_vnow_bad hbd.bad, bd2_some, dnU_il hF hD y5]
      obtain ⟨y, hy, fy, y0⟩ := dnV_bad (F := F) (r5 := 0) (r10 := 0) (c := bI (ilB (fun k => w1 7 (8 + k)) (fun k => w1 8 (8 + k)) 0 0 D)) hDl y5 hbd.bad
      exact ⟨_, y, rfl, hy, LO_no (fu.trans fu1).fd ((fw.trans fw1).fd.trans fy) (hbd.w0 y0)⟩
end
