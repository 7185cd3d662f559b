set_option linter.unusedVariables false
set_option linter.unusedSimpArgs false
set_option maxRecDepth 16384
/-! the law's loop, over what every call must give -/
theorem sim_all {F : Nat} (hF : 6000 ≤ F) : Sim F Rl := ⟨sm_feed (by omega), sm_ball hF, sm_fault, sm_count (by omega), sm_knees, sm_dance (by omega), sm_step, sm_where (by omega), sm_bound (by omega), sm_clauses (by omega), sm_done (by omega), sm_years hF, sm_again hF, sm_breaks hF, sm_stumble hF, sm_act hF, sm_undo hF, sm_mend (by omega), sm_costly (by omega), sm_later (by omega), sm_inTime (by omega), sm_apart (by omega), sm_against (by omega), sm_help (by omega), sm_evenings (by omega), sm_see, sm_limp (by omega), sm_forget, sm_game (by omega), sm_century hF, sm_image hF, sm_restore hF⟩
theorem nI_ti {k : Nat} (h : k < 100000) : (nI k).toInt = (k : Int) := q_toInt (k := k) (by omega)
theorem l_end {L j : Nat} (hL : L ≤ 3072) (hj : 6 * j ≤ 3100) (h : ¬ Int32.ofNat L - 6 < nI (6 * j)) : 6 * j + 6 ≤ L := by
  rw [Int32.lt_iff_toInt_lt, nI_ti (by omega), Int32.toInt_sub, show (Int32.ofNat L).toInt = (L : Int) from q_toInt (k := L) (by omega), show (6 : Int32).toInt = 6 from rfl, Int.bmod_eq_of_le (by omega) (by omega)] at h
  omega
theorem l_and31 (x : Int32) : ∃ k, k < 32 ∧ x &&& 31 = nI k := by
  obtain ⟨k, hk, e⟩ := pk_andE x (m := 31) 5 (by decide)
  exact ⟨k, hk, e⟩
set_option maxRecDepth 20000 in
theorem law_loop {X : XT} {Z : ZT} {b L : Nat} {xv : Nat → Int32} (C : CL X Z b L xv) (hst : X.2.1.stackTraces = false) (hL : L ≤ 3072) {F : Nat} {Rl : St → St → Prop} (S : Sim F Rl) (kret : ∀ (σ τ : St) (f : Nat → Int64) (i4 : Int32), WL X Z 601024 7293033 2068 σ τ f (lvL Z b i4) []) :
    ∀ (m j : Nat) (σ τ : St) (f : Nat → Int64), L ≤ 6 * (j + m) → 6 * j ≤ L + 6 → Rl σ τ → WL X Z (131 + 6 * j) (18958 + 36 * j) 23 σ τ f (lvL Z b (nI (6 * j))) [] := by
  intro m
  induction m with
  | zero =>
    intro j σ τ f h1 h2 hR
    refine l_iload C 4 rfl dL_law_23 rfl ?_
    refine l_aload_n C 0 rfl dL_law_25 rfl ?_
    refine l_slen C dL_law_26 rfl ?_
    refine l_bipush C 6 (by decide) dL_law_27 rfl ?_
    refine l_isub C dL_law_29 rfl ?_
    refine l_gt (qt := 2068) C dL_law_30 (by decide) rfl (fun _ => l_wid (by omega) (by omega) (kret _ _ _ _)) (fun h => ?_)
    have := l_end hL (by omega) h
    omega
  | succ m ih =>
    intro j σ τ f h1 h2 hR
    refine l_iload C 4 rfl dL_law_23 rfl ?_
    refine l_aload_n C 0 rfl dL_law_25 rfl ?_
    refine l_slen C dL_law_26 rfl ?_
    refine l_bipush C 6 (by decide) dL_law_27 rfl ?_
    refine l_isub C dL_law_29 rfl ?_
    refine l_gt (qt := 2068) C dL_law_30 (by decide) rfl (fun _ => l_wid (by omega) (by omega) (kret _ _ _ _)) (fun h => ?_)
    have hj := l_end hL (by omega) h
    refine l_aload_n C 0 rfl dL_law_33 rfl ?_
    refine l_iload C 4 rfl dL_law_34 rfl ?_
    refine l_sld C (6 * j) rfl ⟨by omega, by omega⟩ dL_law_36 rfl ?_
    refine l_bipush C 31 (by decide) dL_law_37 rfl ?_
    refine l_iand C dL_law_39 rfl ?_
    have kend : ∀ (σ' τ' : St) (f' : Nat → Int64), Rl σ' τ' → WL X Z (131 + 6 * (j + 1)) (18958 + 36 * (j + 1)) 2062 σ' τ' f' (lvL Z b (nI (6 * j))) [] := by
      intro σ' τ' f' hR'
      refine l_iinc (j := 4) C (nI (6 * (j + 1))) [(4, .int (nI (6 * (j + 1)))), (0, .ref b), (1, .ref (zc Z 0)), (2, .ref (zm Z 0)), (3, .ref (zo Z))] rfl (l_ix 6 (by decide)) (by decide) rfl dL_law_2062 rfl ?_
      refine l_sub [1, 2, 3, 4, 0] (lv' := lvL Z b (nI (6 * (j + 1)))) rfl ?_
      exact l_goto C dL_law_2065 (by decide) (ih (j + 1) σ' τ' f' (by omega) (by omega) hR')
    obtain ⟨s0, s1, s2, s3, s4, s5, s6, s7, s8, s9, s10, s11, s12, s13, s14, s15, s16, s17, s18, s19, s20, s21, s22, s23, s24, s25, s26, s27, s28, s29, s30, s31⟩ := S
    obtain ⟨k, hk, ek⟩ := l_and31 (xv (6 * j))
    rcases (by omega : k = 0 ∨ k = 1 ∨ k = 2 ∨ k = 3 ∨ k = 4 ∨ k = 5 ∨ k = 6 ∨ k = 7 ∨ k = 8 ∨ k = 9 ∨ k = 10 ∨ k = 11 ∨ k = 12 ∨ k = 13 ∨ k = 14 ∨ k = 15 ∨ k = 16 ∨ k = 17 ∨ k = 18 ∨ k = 19 ∨ k = 20 ∨ k = 21 ∨ k = 22 ∨ k = 23 ∨ k = 24 ∨ k = 25 ∨ k = 26 ∨ k = 27 ∨ k = 28 ∨ k = 29 ∨ k = 30 ∨ k = 31) with rfl | rfl | rfl | rfl | rfl | rfl | rfl | rfl | rfl | rfl | rfl | rfl | rfl | rfl | rfl | rfl | rfl | rfl | rfl | rfl | rfl | rfl | rfl | rfl | rfl | rfl | rfl | rfl | rfl | rfl | rfl | rfl
    · exact l_tsIn (q := 184) C (nI 0) ek dL_law_40 (by decide) (by decide) rfl (by decide) (lc_feed C hst s0 rfl hj hL hR kend)
    · exact l_tsIn (q := 257) C (nI 1) ek dL_law_40 (by decide) (by decide) rfl (by decide) (lc_ball C hst s1 rfl hj hL hR kend)
    · exact l_tsIn (q := 313) C (nI 2) ek dL_law_40 (by decide) (by decide) rfl (by decide) (lc_fault C hst s2 rfl hj hL hR kend)
    · exact l_tsIn (q := 326) C (nI 3) ek dL_law_40 (by decide) (by decide) rfl (by decide) (lc_count C hst s3 rfl hj hL hR kend)
    · exact l_tsIn (q := 382) C (nI 4) ek dL_law_40 (by decide) (by decide) rfl (by decide) (lc_knees C hst s4 rfl hj hL hR kend)
    · exact l_tsIn (q := 438) C (nI 5) ek dL_law_40 (by decide) (by decide) rfl (by decide) (lc_dance C hst s5 rfl hj hL hR kend)
    · exact l_tsIn (q := 506) C (nI 6) ek dL_law_40 (by decide) (by decide) rfl (by decide) (lc_step C hst s6 rfl hj hL hR kend)
    · exact l_tsIn (q := 586) C (nI 7) ek dL_law_40 (by decide) (by decide) rfl (by decide) (lc_where C hst s7 rfl hj hL hR kend)
    · exact l_tsIn (q := 678) C (nI 8) ek dL_law_40 (by decide) (by decide) rfl (by decide) (lc_bound C hst s8 rfl hj hL hR kend)
    · exact l_tsIn (q := 746) C (nI 9) ek dL_law_40 (by decide) (by decide) rfl (by decide) (lc_clauses C hst s9 rfl hj hL hR kend)
    · exact l_tsIn (q := 814) C (nI 10) ek dL_law_40 (by decide) (by decide) rfl (by decide) (lc_done C hst s10 rfl hj hL hR kend)
    · exact l_tsIn (q := 894) C (nI 11) ek dL_law_40 (by decide) (by decide) rfl (by decide) (lc_years C hst s11 rfl hj hL hR kend)
    · exact l_tsIn (q := 919) C (nI 12) ek dL_law_40 (by decide) (by decide) rfl (by decide) (lc_again C hst s12 rfl hj hL hR kend)
    · exact l_tsIn (q := 975) C (nI 13) ek dL_law_40 (by decide) (by decide) rfl (by decide) (lc_breaks C hst s13 rfl hj hL hR kend)
    · exact l_tsIn (q := 1038) C (nI 14) ek dL_law_40 (by decide) (by decide) rfl (by decide) (lc_stumble C hst s14 rfl hj hL hR kend)
    · exact l_tsIn (q := 1118) C (nI 15) ek dL_law_40 (by decide) (by decide) rfl (by decide) (lc_act C hst s15 rfl hj hL hR kend)
    · exact l_tsIn (q := 1198) C (nI 16) ek dL_law_40 (by decide) (by decide) rfl (by decide) (lc_undo C hst s16 rfl hj hL hR kend)
    · exact l_tsIn (q := 1211) C (nI 17) ek dL_law_40 (by decide) (by decide) rfl (by decide) (lc_mend C hst s17 rfl hj hL hR kend)
    · exact l_tsIn (q := 1279) C (nI 18) ek dL_law_40 (by decide) (by decide) rfl (by decide) (lc_costly C hst s18 rfl hj hL hR kend)
    · exact l_tsIn (q := 1335) C (nI 19) ek dL_law_40 (by decide) (by decide) rfl (by decide) (lc_later C hst s19 rfl hj hL hR kend)
    · exact l_tsIn (q := 1391) C (nI 20) ek dL_law_40 (by decide) (by decide) rfl (by decide) (lc_inTime C hst s20 rfl hj hL hR kend)
    · exact l_tsIn (q := 1459) C (nI 21) ek dL_law_40 (by decide) (by decide) rfl (by decide) (lc_apart C hst s21 rfl hj hL hR kend)
    · exact l_tsIn (q := 1515) C (nI 22) ek dL_law_40 (by decide) (by decide) rfl (by decide) (lc_against C hst s22 rfl hj hL hR kend)
    · exact l_tsIn (q := 1571) C (nI 23) ek dL_law_40 (by decide) (by decide) rfl (by decide) (lc_help C hst s23 rfl hj hL hR kend)
    · exact l_tsIn (q := 1627) C (nI 24) ek dL_law_40 (by decide) (by decide) rfl (by decide) (lc_evenings C hst s24 rfl hj hL hR kend)
    · exact l_tsIn (q := 1683) C (nI 25) ek dL_law_40 (by decide) (by decide) rfl (by decide) (lc_see C hst s25 rfl hj hL hR kend)
    · exact l_tsIn (q := 1787) C (nI 26) ek dL_law_40 (by decide) (by decide) rfl (by decide) (lc_limp C hst s26 rfl hj hL hR kend)
    · exact l_tsIn (q := 1855) C (nI 27) ek dL_law_40 (by decide) (by decide) rfl (by decide) (lc_forget C hst s27 rfl hj hL hR kend)
    · exact l_tsIn (q := 1866) C (nI 28) ek dL_law_40 (by decide) (by decide) rfl (by decide) (lc_game C hst s28 rfl hj hL hR kend)
    · exact l_tsIn (q := 1958) C (nI 29) ek dL_law_40 (by decide) (by decide) rfl (by decide) (lc_century C hst s29 rfl hj hL hR kend)
    · exact l_tsIn (q := 2038) C (nI 30) ek dL_law_40 (by decide) (by decide) rfl (by decide) (lc_image C hst s30 rfl hj hL hR kend)
    · exact l_tsIn (q := 2049) C (nI 31) ek dL_law_40 (by decide) (by decide) rfl (by decide) (lc_restore C hst s31 rfl hj hL hR kend)
