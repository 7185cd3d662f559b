set_option linter.unusedVariables false
set_option linter.unusedSimpArgs false
set_option maxRecDepth 16384
/-! years by a seed -/
theorem C_bits_3 {F : Nat} (hF : 20 ≤ F) {σ τ : St} (T : Told σ τ) (N : Nw 54 55 56 57 σ τ) {more : Int32} (hm : 0 ≤ more ∧ more ≤ 99) :
    ∃ x, fX2_bindingBits_2 F σ more = some x ∧ x.1 = qN (bsN (bnS_2 σ more) (nD σ)) ∧ CE σ x.2 ∧ x.2 87 = σ 87 := by
  refine wpI fun Q hQ => ?_
  unfold fX2_bindingBits_2
  have hD8 := T.2.2.2.2.1
  refine lp_up Q (fun d (v : St × Int32 × Int32) => (CE σ v.1 ∧ v.1 87 = σ 87) ∧ v.2.1 = qN d ∧ v.2.2 = qN (bsN (bnS_2 σ more) d)) (nD σ) ?_ F 0 _ (by omega) (by omega) ⟨⟨CE.rfl, rfl⟩, rfl, rfl⟩
  rintro d ⟨u, c, acc⟩ K hd ⟨⟨hE, h87⟩, hc, hacc⟩ hK
  dsimp only at hE h87 hc hacc
  subst hc hacc
  dsimp only
  have Tu := T.fr hE ME.rfl
  have Nu := N.fr (by decide) hE ME.rfl
  refine wi (fun h => ?_) fun h => ?_
  · rw [hE 2 (by decide) (by decide), T.2.2.2.1, q_le (by omega) (by omega)] at h
    have : d = nD σ := by omega
    subst this
    exact hQ _ ⟨rfl, hE, h87⟩
  · rw [hE 2 (by decide) (by decide), T.2.2.2.1, q_le (by omega) (by omega)] at h
    have hdu : d < nD u := by rw [CE_nD hE]; omega
    obtain ⟨x, hx, xC, xE⟩ := C_prepare_2 hF Tu hdu (more := more)
    refine wb1 hx (wk (k := d) rfl (by omega) (by omega) ?_)
    have xce : CE u x := fun c h1 h2 => xE c (by omega) (by omega)
    rw [q_clamp (by omega)]
    have hbn : bnS_2 σ more d = bnS_2 u more d := (bnS_2_fr hE more d).symm
    refine wi (fun hb => ?_) fun hb => ?_
    · rw [xE 56 (by decide) (by decide)] at hb
      obtain ⟨y, hy, y1, y2⟩ := C_endsFacing hF (PB_of Tu Nu hdu hm) xC
      refine wb2 (r := y.1) (u := y.2) hy ?_
      have hbe : bnS_2 u more d = efS (u 2 2) (sf (u 2 2) (kn0 54 55 u more d) (kn1 54 55 u more d) (kdF u d) (whF u d) (nsF 57 u d)) (nS u d) := by
        unfold bnS_2; rw [decide_eq_true hb, Bool.true_and]
      rw [← hbe, ← hbn] at y1
      cases hbv : bnS_2 σ more d with
      | false =>
        rw [hbv] at y1
        rw [if_pos (show y.1 = 0 from y1)]
        refine hK _ (by omega) ⟨⟨(hE.trans xce).trans y2.ce, by show y.2 87 = _; rw [y2 87 (by decide) (by decide) (by decide), xE 87 (by decide) (by decide), h87]⟩, q_add d 1, ?_⟩
        show qN _ = qN (bsN _ (d + 1))
        rw [bsN, hbv]; rfl
      | true =>
        rw [hbv] at y1
        rw [if_neg (by rw [show y.1 = 1 from y1]; decide)]
        refine wn fun r er => hK _ (by omega) ⟨⟨(hE.trans xce).trans y2.ce, by show y.2 87 = _; rw [y2 87 (by decide) (by decide) (by decide), xE 87 (by decide) (by decide), h87]⟩, q_add d 1, ?_⟩
        show r = qN (bsN _ (d + 1))
        rw [er, bsN, hbv, or_pow (by omega) (bsN_lt _ d)]; rfl
    · rw [xE 56 (by decide) (by decide)] at hb
      have hbf : bnS_2 σ more d = false := by
        rw [hbn]; unfold bnS_2; rw [decide_eq_false hb, Bool.false_and]
      refine hK _ (by omega) ⟨⟨hE.trans xce, by show x 87 = _; rw [xE 87 (by decide) (by decide), h87]⟩, q_add d 1, ?_⟩
      show qN _ = qN (bsN _ (d + 1))
      rw [bsN, hbf]; rfl
theorem Told.fr3 {σ τ σ' τ' : St} (h : Told σ τ) (hc : ∀ c, c < 14 → σ' c = σ c) (hm : ∀ c, 3 ≤ c → c ≤ 15 → c ≠ 13 → τ' c = τ c) : Told σ' τ' := by
  simp only [Told, TDn, TSt, LimR, DXY, nV, nD, nS] at h ⊢
  rw [hc 2 (by decide), hc 3 (by decide), hc 4 (by decide), hc 5 (by decide), hc 6 (by decide), hc 7 (by decide), hc 8 (by decide), hc 9 (by decide), hc 11 (by decide), hc 12 (by decide), hc 13 (by decide), hm 3 (by decide) (by decide) (by decide), hm 4 (by decide) (by decide) (by decide), hm 5 (by decide) (by decide) (by decide), hm 6 (by decide) (by decide) (by decide), hm 7 (by decide) (by decide) (by decide), hm 8 (by decide) (by decide) (by decide), hm 9 (by decide) (by decide) (by decide), hm 10 (by decide) (by decide) (by decide), hm 11 (by decide) (by decide) (by decide), hm 12 (by decide) (by decide) (by decide), hm 14 (by decide) (by decide) (by decide), hm 15 (by decide) (by decide) (by decide)]
  exact h
def drN (s : Int32) : Nat := ((ushr s 16) &&& 32767).toNatClampNeg
theorem dr_q (s : Int32) : (ushr s 16) &&& 32767 = qN (drN s) ∧ drN s < 32768 := by
  obtain ⟨k, hk, e⟩ := pk_andE (ushr s 16) (m := 32767) 15 (by decide)
  have e' : (ushr s 16) &&& 32767 = qN k := e
  unfold drN
  rw [e', q_clamp (by omega)]
  exact ⟨rfl, by omega⟩
theorem bt_32767 {e : Nat} (he : e < 32) : bt 32767 e = decide (e < 15) := by
  have : ∀ e : Fin 32, bt 32767 e.1 = decide (e.1 < 15) := by decide
  exact this ⟨e, he⟩
theorem dr_m (a : Int32) : (a >>> ((16 : Int32) &&& 31)) &&& 32767 = (ushr a 16) &&& 32767 := by
  have hs1 : ((((16 : Int32) &&& 31)).toBitVec.smod 32).toNat = 16 := by decide
  have hs2 : (((16 : Int32).toUInt32 &&& Int32.toUInt32 31).toBitVec % 32).toNat = 16 := by decide
  apply bt_ext
  intro e he
  rw [bt_and, bt_and, bt_32767 he]
  by_cases h8 : e < 15
  · rw [decide_eq_true h8, Bool.and_true, Bool.and_true]
    unfold bt ushr
    rw [Int32.toBitVec_shiftRight, show ∀ (x y : BitVec 32), x.sshiftRight' y = x.sshiftRight y.toNat from fun _ _ => rfl, hs1, BitVec.getLsbD_sshiftRight]
    show _ = ((a.toUInt32 >>> ((16 : Int32).toUInt32 &&& Int32.toUInt32 31)).toBitVec).getLsbD e
    rw [UInt32.toBitVec_shiftRight, BitVec.ushiftRight_eq', hs2, BitVec.getLsbD_ushiftRight]
    have h1 : ¬ 32 ≤ e := by omega
    have h2 : 16 + e < 32 := by omega
    simp [h1, h2]
  · rw [decide_eq_false h8, Bool.and_false, Bool.and_false]
def nxS (s : Int32) : Int32 := s * 1103515245 + 12345
section
variable {F : Nat}
theorem md_q (j : Nat) {a : Nat} (h1 : 1 ≤ a) (h8 : a ≤ 8) (hj : j < 32768) : qN j - qN j / qN a * qN a = qN (j % a) := by
  rw [q_div (by omega) (by omega) (by omega), q_mul, q_sub (Nat.div_mul_le_self j a)]
  congr 1
  rw [Nat.mod_eq_sub_div_mul]
theorem C_draw {v : St} {a : Nat} (h1 : 1 ≤ a) (h8 : a ≤ 8) : fX4_draw F v (qN a) = some (qN (drN (nxS (v 87 3)) % a), up v 87 3 (nxS (v 87 3))) := by
  unfold fX4_draw
  simp only [nm]
  rw [up_same, upd_same, if_pos (by rw [show (1 : Int32) = qN 1 from rfl, q_le (by omega) (by omega)]; exact h1)]
  unfold ckZ
  obtain ⟨e1, e2⟩ := dr_q (nxS (v 87 3))
  unfold nxS at e1 e2 ⊢
  rw [if_neg (by rw [show (0 : Int32) = qN 0 from rfl, q_eq (by omega) (by omega)]; omega), e1, md_q _ h1 h8 e2]
theorem M_draw {w : St} {a : Nat} (h1 : 1 ≤ a) (h8 : a ≤ 8) : fX11_drawOf F w (qN a) = some (qN (drN (nxS (w 0 48)) % a), up w 0 48 (nxS (w 0 48))) := by
  unfold fX11_drawOf
  simp only [nm]
  rw [up_same, upd_same]
  unfold ckZ
  obtain ⟨e1, e2⟩ := dr_q (nxS (w 0 48))
  unfold nxS at e1 e2 ⊢
  rw [if_neg (by rw [show (0 : Int32) = qN 0 from rfl, q_eq (by omega) (by omega)]; omega), dr_m, e1, md_q _ h1 h8 e2]
/-- the trial beside the reference -/
def CR (σ τ v w : St) : Prop := (∀ c, c < 54 → c ≠ 14 → v c = σ c) ∧ (∀ c, c ≠ 0 → c ≠ 18 → c ≠ 21 → c ≠ 22 → c ≠ 23 → w c = τ c) ∧ (∀ j, j ≠ 31 → j ≠ 32 → j ≠ 48 → w 0 j = τ 0 j) ∧ Nw 54 55 56 57 v w
theorem CR.told {σ τ v w : St} (h : CR σ τ v w) (T : Told σ τ) : Told v w := T.fr3 (fun c hc => h.1 c (by omega) (by omega)) (fun c h1 h2 _ => h.2.1 c (by omega) (by omega) (by omega) (by omega) (by omega))
theorem CR.nd {σ τ v w : St} (h : CR σ τ v w) : nD v = nD σ := by unfold nD; rw [h.1 2 (by decide) (by decide)]
theorem CR.ns {σ τ v w : St} (h : CR σ τ v w) (d : Nat) : nS v d = nS σ d := by unfold nS; rw [h.1 7 (by decide) (by decide)]
/-- what both do in a year, behind the year itself -/
theorem bits_both (hF : 20 ≤ F) {σ τ v w : St} (T : Told σ τ) (h : CR σ τ v w) (h38 : τ 0 38 = 0) :
    ∃ v' w' b, b ≤ 8 ∧ fX2_bindingBits_2 F v 0 = some v'  ∧ fX11_binding F w = some w' ∧ fJ6_bitCount_0f7a4 F v'.2 v'.1 = some (qN b) ∧ fX11_bitsOf F w'.2 w'.1 = some (qN b) ∧ CR σ τ v'.2 w'.2 ∧ v'.2 87 = v 87 ∧ w'.2 0 = w 0 := by
  have Tv := h.told T
  have hD : nD v ≤ 8 := Tv.2.2.2.2.1
  obtain ⟨x, hx, x1, x2, x3⟩ := C_bits_3 (F := F) hF Tv h.2.2.2 (more := 0) (by decide)
  obtain ⟨y, hy, y1, y2⟩ := M_binding_2 (F := F) hF Tv h.2.2.2 (more := 0) (by decide) (by rw [h.2.2.1 38 (by decide) (by decide) (by decide)]; exact h38)
  have hlt := bs256 (f := bnS_2 v 0) hD
  refine ⟨x, y, pcN (bsN (bnS_2 v 0) (nD v)), pc_le ⟨_, hlt⟩, hx, hy, by rw [x1]; exact C_bitCount hlt, by rw [y1]; exact M_bitsOf hF hlt, ⟨fun c h1 h2 => by rw [x2 c (by omega) h2]; exact h.1 c h1 h2, fun c c0 c18 c21 c22 c23 => by rw [y2 c c21 c22 c23]; exact h.2.1 c c0 c18 c21 c22 c23, fun j a b c => by rw [y2 0 (by decide) (by decide) (by decide)]; exact h.2.2.1 j a b c, h.2.2.2.fr (by decide) x2 y2.me⟩, x3, y2 0 (by decide) (by decide) (by decide)⟩
theorem CR.renew {σ τ v w : St} (h : CR σ τ v w) {d : Nat} (hd : d < 8) : CR σ τ (up (up v 55 d (v 54 0)) 56 d 0) (up (up w 18 d (w 0 31)) 0 32 ((w 0 32) &&& (((1 : Int32) <<< (qN d &&& 31)) ^^^ ((-1))))) := by
  obtain ⟨c1, c2, c3, n1, n2, n3, n4⟩ := h
  have nd : nD (up (up v 55 d (v 54 0)) 56 d 0) = nD v := by unfold nD; rw [up_ne _ _ _ (by decide), up_ne _ _ _ (by decide)]
  have ns : nS (up (up v 55 d (v 54 0)) 56 d 0) = nS v := by funext e; unfold nS; rw [up_ne _ _ _ (by decide), up_ne _ _ _ (by decide)]
  refine ⟨fun c h1 h2 => by rw [up_ne _ _ _ (by omega), up_ne _ _ _ (by omega)]; exact c1 c h1 h2, fun c c0 c18 c21 c22 c23 => by rw [up_ne _ _ _ c0, up_ne _ _ _ c18]; exact c2 c c0 c18 c21 c22 c23, fun j j31 j32 j48 => by rw [up_same, upd_ne _ _ j32, up_ne _ _ _ (by decide)]; exact c3 j j31 j32 j48, ?_, ?_, fun e he => ?_, fun e i he hi => ?_⟩
  · rw [up_ne _ _ _ (by decide), up_ne _ _ _ (by decide)]; exact n1
  · rw [up_same, upd_ne _ _ (by decide), up_ne _ _ _ (by decide), up_ne _ _ _ (by decide), up_ne _ _ _ (by decide)]; exact n2
  · have := n3 e he
    have hbits : bt (up (up w 18 d (w 0 31)) 0 32 ((w 0 32) &&& (((1 : Int32) <<< (qN d &&& 31)) ^^^ ((-1)))) 0 32) e = (bt (w 0 32) e && !decide (e = d)) := by
      rw [up_same, upd_same, bt_and, bt_xor, bt_pow (by omega), bt_neg1 (by omega)]
      simp
    rw [hbits, up_ne _ _ _ (show 18 ≠ 0 by decide), up_same, up_ne _ _ _ (show 55 ≠ 56 by decide), up_same, up_ne _ _ _ (show 54 ≠ 56 by decide), up_ne _ _ _ (show 54 ≠ 55 by decide), up_same, up_ne _ _ _ (show 56 ≠ 55 by decide)]
    by_cases hed : e = d
    · subst hed
      rw [upd_same, upd_same, upd_same]
      exact ⟨n2, ⟨n1.1, Int32.le_refl _⟩, by simp [bI]⟩
    · rw [upd_ne _ _ hed, upd_ne _ _ hed, upd_ne _ _ hed]
      exact ⟨this.1, this.2.1, by simp [hed]; exact this.2.2⟩
  · rw [nd] at he
    rw [ns] at hi
    rw [up_ne _ _ _ (by decide), up_ne _ _ _ (by decide), up_ne _ _ _ (by decide), up_ne _ _ _ (by decide)]
    exact n4 e i he hi
theorem CR.brk {σ τ v w : St} (h : CR σ τ v w) {d : Nat} (hd : d < 8) : CR σ τ (up v 56 d 1) (up w 0 32 ((w 0 32) ||| ((1 : Int32) <<< (qN d &&& 31)))) := by
  obtain ⟨c1, c2, c3, n1, n2, n3, n4⟩ := h
  have nd : nD (up v 56 d 1) = nD v := by unfold nD; rw [up_ne _ _ _ (by decide)]
  have ns : nS (up v 56 d 1) = nS v := by funext e; unfold nS; rw [up_ne _ _ _ (by decide)]
  refine ⟨fun c h1 h2 => by rw [up_ne _ _ _ (by omega)]; exact c1 c h1 h2, fun c c0 c18 c21 c22 c23 => by rw [up_ne _ _ _ c0]; exact c2 c c0 c18 c21 c22 c23, fun j j31 j32 j48 => by rw [up_same, upd_ne _ _ j32]; exact c3 j j31 j32 j48, ?_, ?_, fun e he => ?_, fun e i he hi => ?_⟩
  · rw [up_ne _ _ _ (by decide)]; exact n1
  · rw [up_same, upd_ne _ _ (by decide), up_ne _ _ _ (by decide)]; exact n2
  · have := n3 e he
    have hbits : bt (up w 0 32 ((w 0 32) ||| ((1 : Int32) <<< (qN d &&& 31))) 0 32) e = (bt (w 0 32) e || decide (e = d)) := by
      rw [up_same, upd_same, bt_or, bt_pow (by omega)]
    rw [hbits, up_ne _ _ _ (show 18 ≠ 0 by decide), up_ne _ _ _ (show 55 ≠ 56 by decide), up_ne _ _ _ (show 54 ≠ 56 by decide), up_same]
    by_cases hed : e = d
    · subst hed
      rw [upd_same]
      exact ⟨this.1, this.2.1, by simp [bI]⟩
    · rw [upd_ne _ _ hed]
      exact ⟨this.1, this.2.1, by simp [hed]; exact this.2.2⟩
  · rw [nd] at he
    rw [ns] at hi
    rw [up_ne _ _ _ (by decide), up_ne _ _ _ (by decide)]
    exact n4 e i he hi
theorem CR.cell {σ τ v w : St} (h : CR σ τ v w) {j : Nat} {x : Int32} : CR σ τ (up v 87 j x) w := by
  have e : CE v (up v 87 j x) := CE_up (.inl (by decide))
  exact ⟨fun c h1 h2 => by rw [up_ne _ _ _ (by omega)]; exact h.1 c h1 h2, h.2.1, h.2.2.1, h.2.2.2.fr (by decide) e ME.rfl⟩
theorem CR.seed {σ τ v w : St} (h : CR σ τ v w) {x : Int32} : CR σ τ v (up w 0 48 x) := by
  refine ⟨h.1, fun c c0 c18 c21 c22 c23 => by rw [up_ne _ _ _ c0]; exact h.2.1 c c0 c18 c21 c22 c23, fun j a b c => by rw [up_same, upd_ne _ _ c]; exact h.2.2.1 j a b c, h.2.2.2.fr (by decide) CE.rfl (ME_up0 (.inr rfl))⟩
theorem CR.year {σ τ v w : St} (h : CR σ τ v w) (hy : v 54 0 ≤ 1099) : CR σ τ (up v 54 0 (v 54 0 + 1)) (up w 0 31 (w 0 31 + 1)) := by
  obtain ⟨c1, c2, c3, n1, n2, n3, n4⟩ := h
  have nd : nD (up v 54 0 (v 54 0 + 1)) = nD v := by unfold nD; rw [up_ne _ _ _ (by decide)]
  have ns : nS (up v 54 0 (v 54 0 + 1)) = nS v := by funext e; unfold nS; rw [up_ne _ _ _ (by decide)]
  refine ⟨fun c h1 h2 => by rw [up_ne _ _ _ (by omega)]; exact c1 c h1 h2, fun c c0 c18 c21 c22 c23 => by rw [up_ne _ _ _ c0]; exact c2 c c0 c18 c21 c22 c23, fun j j31 j32 j48 => by rw [up_same, upd_ne _ _ j31]; exact c3 j j31 j32 j48, ?_, ?_, fun e he => ?_, fun e i he hi => ?_⟩
  · rw [up_same, upd_same]; grind
  · rw [up_same, upd_same, up_same, upd_same, n2]
  · have := n3 e he
    rw [up_ne _ _ _ (show 18 ≠ 0 by decide), up_ne _ _ _ (show 55 ≠ 54 by decide), up_ne _ _ _ (show 56 ≠ 54 by decide), up_same, upd_same, up_same, upd_ne _ _ (by decide)]
    exact ⟨this.1, by grind, this.2.2⟩
  · rw [nd] at he
    rw [ns] at hi
    rw [up_ne _ _ _ (by decide), up_ne _ _ _ (by decide)]
    exact n4 e i he hi
end
