set_option linter.unusedVariables false
set_option linter.unusedSimpArgs false
set_option maxRecDepth 16384
/-! calls that ask the law -/
section
variable {F : Nat}
theorem sm_where (hF : 800 ≤ F) : Sm_where F Rl := by
  intro σ τ a i who w R
  show G1 1 _ _
  unfold fX10_where fX11_where
  refine wn (Q := fun o => G1 1 _ o) fun τ0 h0 => ?_
  have R0 : Rl σ τ0 := by rw [h0]; exact R.fr CE.rfl ME4
  have h4 : τ0 0 4 = 0 := by rw [h0]; exact up4
  clear h0
  have T := R0.2.1
  have N := R0.nw
  rw [C_chkD, M_isDance T, bd1_some, bd1_some]
  refine wj (Q := fun o => G1 1 _ o) fun J hJ => ?_
  have hno : ∀ τ1, MqE τ0 τ1 → ∀ σ1, CE σ σ1 → G1 1 (some (1, 0, σ1)) (J τ1) := by
    intro τ1 m1 σ1 e1
    rw [hJ, M_fail]
    exact G1_no (by decide) R0 rfl rfl e1 (m1.me.trans ME4) up4
  by_cases hv : 0 ≤ a ∧ a < σ 2 1
  · rw [if_pos hv, if_pos hv, if_pos rfl, if_neg (show ¬ (1 : Int32) = 0 by decide)]
    obtain ⟨d, rfl, hd⟩ := get_d T hv
    have hb := T.dd hd
    have hn := T.dn hd
    have hcd : (qN d).toNatClampNeg = d := q_clamp (by omega)
    rw [ck_ok (by omega) (by omega), hcd]
    have hin := M_isIn (F := F) (τ := τ0) i (-1) (τ0 10 d - 1)
    rw [show (-1 : Int64) = Int32.toInt64 (-1) from rfl, hin, bd1_some, hn.2.2.2.1]
    have hS0 : 0 ≤ σ 7 d ∧ σ 7 d ≤ 10 := by
      rw [hn.2.2.2.2.2.2.2.2.1]
      exact ⟨by rw [show (0 : Int32) = qN 0 from rfl, q_le (by omega) (by omega)]; omega, by rw [show (10 : Int32) = qN 10 from rfl, q_le (by omega) (by omega)]; omega⟩
    refine wj (Q := fun o => G1 1 o _) fun J3 hJ3 => ?_
    have hgo : ∀ k, i + 1 = qN k → k ≤ nS σ d → -1 ≤ i ∧ i ≤ σ 7 d - 1 → G1 1 (J3 ()) (if (if -1 ≤ i ∧ i ≤ σ 7 d - 1 then (1 : Int32) else 0) = 0 then J τ0 else if who < 0 then J τ0 else if 1 < who then J τ0 else bd1 (fX11_isIn F τ0 w.toInt64 0 2) fun r10 => if r10 = 0 then J τ0 else bd2 (fX11_danceTo F τ0 (qN d) (i + 1)) fun r11 u12 => if r11 = i + 1 then if w = 0 then ckI who 2 (some (u12 21 who.toNatClampNeg, u12)) else if w = 1 then ckI who 2 (some (u12 22 who.toNatClampNeg, u12)) else ckI who 2 (some (u12 23 who.toNatClampNeg, u12)) else J u12) := by
      intro k hk hkS hir
      rw [if_pos hir, if_neg (show ¬ (1 : Int32) = 0 by decide), hJ3, C_chkB, bd1_some]
      by_cases w1 : who < 0
      · rw [if_pos w1, if_neg (show ¬ (0 ≤ who ∧ who < 2) by grind), if_neg (by decide)]
        exact hno τ0 MqE.rfl σ CE.rfl
      rw [if_neg w1]
      by_cases w2 : 1 < who
      · rw [if_pos w2, if_neg (show ¬ (0 ≤ who ∧ who < 2) by grind), if_neg (by decide)]
        exact hno τ0 MqE.rfl σ CE.rfl
      rw [if_neg w2, if_pos (show 0 ≤ who ∧ who < 2 by grind), if_pos rfl, C_chkB, bd1_some]
      have hin2 := M_isIn (F := F) (τ := τ0) w 0 2
      rw [show (0 : Int64) = Int32.toInt64 0 from rfl, show (2 : Int64) = Int32.toInt64 2 from rfl, hin2, bd1_some]
      by_cases hw : 0 ≤ w ∧ w ≤ 2
      · rw [if_pos hw, if_pos (show 0 ≤ w ∧ w < 3 by grind), if_pos rfl, if_neg (show ¬ (1 : Int32) = 0 by decide), hk]
        obtain ⟨x, hx, xC, xE⟩ := C_prepare (F := F) (by omega) T hd (more := 0)
        have hB := PB_of T N hd (more := 0) (by decide)
        rw [hx, bd1_some, xC.2.2.2.2.2.1]
        obtain ⟨u, hu, uA, uE⟩ := C_begin (F := F) x (σ 2 2)
        rw [hu, bd1_some]
        obtain ⟨z, hz, z1, z2, z3⟩ := C_walk (F := F) (by omega) hB (xC.ex uE) uA (p0_ok _) (Nat.zero_le k) hkS
        obtain ⟨y, hy, y1, y2, y3⟩ := M_danceTo (F := F) (by omega) hB (MP_of T N hd R0.2.2.2.2.1) hkS
        rw [Nat.sub_zero] at z1 z2
        have hz' : fX2_walk F u 0 (qN k) = some (z.1, z.2) := hz
        have hy' : fX11_danceTo F τ0 (qN d) (qN k) = some (y.1, y.2) := hy
        rw [hz', hy', bd2_some, bd2_some]
        have ce : CE σ z.2 := fun c h1 h2 => by rw [z3 c (by omega) (by omega) (by omega), uE c (by omega) (by omega) (by omega)]; exact xE c (by omega) (by omega)
        obtain ⟨wn', rfl, hw2⟩ := q_get (x := who) (n := 2) w1 (by show who < 2; grind) (by decide)
        simp only [ck_ok hw2 (show wn' < 2147483648 by omega), q_clamp (show wn' < 2147483648 by omega)]
        obtain ⟨c1, c2, c3, c4, c5, c6⟩ := z2
        obtain ⟨m1, m2, m3, m4, m5, m6⟩ := y2
        have e21 : z.2 68 wn' = y.2 21 wn' := by
          rcases (by omega : wn' = 0 ∨ wn' = 1) with rfl | rfl
          · rw [c1, m1]
          · rw [c4, m4]
        have e22 : z.2 69 wn' = y.2 22 wn' := by
          rcases (by omega : wn' = 0 ∨ wn' = 1) with rfl | rfl
          · rw [c2, m2]
          · rw [c5, m5]
        have e23 : z.2 70 wn' = y.2 23 wn' := by
          rcases (by omega : wn' = 0 ∨ wn' = 1) with rfl | rfl
          · rw [c3, m3]
          · rw [c6, m6]
        revert z1 y1
        cases hwk : (wkS (sf (σ 2 2) (kn0 30 31 σ 0 d) (kn1 30 31 σ 0 d) (kdF σ d) (whF σ d) (nsF 33 σ d)) 0 k (p0 (σ 2 2))).1 with
        | none =>
          intro z1 y1
          rw [if_pos (show z.1 = -1 from z1), if_pos (show y.1 = qN k from y1)]
          by_cases hw0 : w = 0
          · rw [if_pos hw0, if_pos hw0]
            exact G1_ok R0 rfl rfl e21 ce y3.me (by rw [mq4 y3.mq]; exact h4)
          rw [if_neg hw0, if_neg hw0]
          by_cases hw1 : w = 1
          · rw [if_pos hw1, if_pos hw1]
            exact G1_ok R0 rfl rfl e22 ce y3.me (by rw [mq4 y3.mq]; exact h4)
          rw [if_neg hw1, if_neg hw1]
          exact G1_ok R0 rfl rfl e23 ce y3.me (by rw [mq4 y3.mq]; exact h4)
        | some j =>
          intro z1 y1
          have hj := wk_lt _ _ _ _ hwk
          rw [if_neg (show ¬ z.1 = -1 by rw [show z.1 = qN j from z1]; intro h; exact ((q_neg1 (by omega)).1 h)), if_neg (show ¬ y.1 = qN k by rw [show y.1 = qN j from y1, q_eq (by omega) (by omega)]; omega)]
          exact hno y.2 y3.mq z.2 ce
      · rw [if_neg hw, if_neg (show ¬ (0 ≤ w ∧ w < 3) by grind), if_neg (by decide), if_pos rfl]
        exact hno τ0 MqE.rfl σ CE.rfl
    by_cases hi1 : i = -1
    · rw [if_pos hi1]
      exact hgo 0 (by rw [hi1]; rfl) (by omega) (by grind)
    · rw [if_neg hi1]
      obtain ⟨t, m, ht, hm, hor⟩ := chkS (F := F) T (qN d) i
      rw [ht, bd1_some]
      rcases hor with ⟨rfl, rfl, d', i', hdd, rfl, hd', hi'⟩ | ⟨rfl, rfl⟩
      · have : d' = d := ((q_eq (by omega) (by have := T.dd hd'; omega)).1 hdd).symm
        subst this
        rw [if_pos rfl]
        refine hgo (i' + 1) (q_add i' 1) (by omega) ⟨?_, ?_⟩
        · have : (0 : Int32) ≤ qN i' := by rw [show (0 : Int32) = qN 0 from rfl, q_le (by omega) (by omega)]; omega
          grind
        · have h1 : qN i' < σ 7 d' := by rw [hn.2.2.2.2.2.2.2.2.1, q_lt (by omega) (by omega)]; exact hi'
          grind
      · rw [if_neg (by decide)]
        have : ¬ (-1 ≤ i ∧ i ≤ σ 7 d - 1) := by
          intro hh
          unfold fX11_isStep at hm
          rw [M_isDance T, if_pos hv, bd1_some, if_neg (by decide), ck_ok (by omega) (by omega), hcd, hn.2.2.2.1] at hm
          have hin3 := M_isIn (F := F) (τ := τ0) i 0 (σ 7 d - 1)
          rw [show (0 : Int64) = Int32.toInt64 0 from rfl, hin3, if_pos (by grind), bd1_some, if_neg (by decide)] at hm
          injection hm with hm; exact absurd hm (by decide)
        rw [if_neg this, if_pos rfl]
        exact hno τ0 MqE.rfl σ CE.rfl
  · rw [if_neg hv, if_neg hv, if_neg (by decide), if_pos rfl]
    exact hno τ0 MqE.rfl σ CE.rfl
theorem C_weighed (hF : 800 ≤ F) {σ τ : St} (R : Rl σ τ) : ∃ u v, fX2_bindingBits F σ 0 = some (qN (bsN (bnS σ 0) (nD σ)), u) ∧ fX6_weighAll F u (qN (bsN (bnS σ 0) (nD σ))) = some v ∧ CE σ v ∧ WtS F σ (bnS σ 0) v ∧ CE σ u := by
  have T := R.2.1
  have N := R.nw
  obtain ⟨x, hx, x1, x2⟩ := C_bits (F := F) (by omega) T N (more := 0) (by decide)
  obtain ⟨v, hv, v1, v2⟩ := C_weighAll hF (T.fr x2 ME.rfl) (N.fr (by decide) x2 ME.rfl) (bnS σ 0)
  rw [CE_nD x2] at hv
  refine ⟨x.2, v, by rw [hx, ← x1], hv, x2.trans v1, ?_, x2⟩
  intro d s a hd hs ha
  rw [v2 d s a (by rw [CE_nD x2]; exact hd) hs ha, CE_nS x2, leS_fr hF T N x2 hd hs _ _ (Nat.le_refl _)]
theorem M_bits (hF : 800 ≤ F) {σ τ : St} (R : Rl σ τ) : ∃ w, fX11_binding F τ = some (qN (bsN (bnS σ 0) (nD σ)), w) ∧ ExM τ w := by
  obtain ⟨y, hy, y1, y2⟩ := M_binding (F := F) (by omega) R.2.1 R.nw (more := 0) (by decide) R.2.2.2.2.1
  exact ⟨y.2, by rw [hy, ← y1], y2⟩
theorem sm_bound (hF : 800 ≤ F) : Sm_bound F Rl := by
  intro σ τ a b R
  show G1 1 _ _
  unfold fX10_bound fX11_bound
  refine wn (Q := fun o => G1 1 _ o) fun τ0 h0 => ?_
  have R0 : Rl σ τ0 := by rw [h0]; exact R.fr CE.rfl ME4
  have h4 : τ0 0 4 = 0 := by rw [h0]; exact up4
  clear h0
  have T := R0.2.1
  have N := R0.nw
  rw [C_chkV, M_isValley T, bd1_some, bd1_some]
  refine wj (Q := fun o => G1 1 _ o) fun J hJ => ?_
  have hno : G1 1 (some (1, 0, σ)) (J ()) := by
    rw [hJ, M_fail]
    exact G1_no (by decide) R0 rfl rfl CE.rfl ME4 up4
  by_cases hv : 0 ≤ a ∧ a < σ 2 0
  · rw [if_pos hv, if_pos hv, if_pos rfl, if_neg (show ¬ (1 : Int32) = 0 by decide), C_chkB, M_isAbout, bd1_some, bd1_some]
    obtain ⟨v, rfl, hvn⟩ := get_v T hv
    by_cases hb : 0 ≤ b ∧ b < 8
    · rw [if_pos hb, if_pos hb, if_pos rfl, if_neg (show ¬ (1 : Int32) = 0 by decide)]
      obtain ⟨k, rfl, hk⟩ := get_n (n := 8) hb (by decide)
      obtain ⟨u, z, hu, hz, zE, zW, _⟩ := C_weighed hF R0
      obtain ⟨w, hw, wE⟩ := M_bits hF R0
      obtain ⟨y, hy, y1, y2⟩ := M_boundBy hF (T.fr CE.rfl wE.me) (N.fr (by decide) CE.rfl wE.me) (bnS σ 0) (qN v) k hk
      rw [hu, bd2_some, hz, bd1_some, C_boundTo hF T zE zW _ hk, bd1_some, hw, bd2_some, hy]
      exact G1_ok R0 rfl rfl y1.symm zE (wE.me.trans (me_of y2)) (by
        show y.2 0 4 = 0
        rw [y2 0 (by decide) (by decide), mq4 wE.mq]; exact h4)
    · rw [if_neg hb, if_neg hb, if_neg (by decide), if_pos rfl]; exact hno
  · rw [if_neg hv, if_neg hv, if_neg (by decide), if_pos rfl]; exact hno
theorem sm_done (hF : 800 ≤ F) : Sm_done F Rl := by
  intro σ τ a b w R
  show G1 1 _ _
  unfold fX10_done fX11_done
  refine wn (Q := fun o => G1 1 _ o) fun τ0 h0 => ?_
  have R0 : Rl σ τ0 := by rw [h0]; exact R.fr CE.rfl ME4
  have h4 : τ0 0 4 = 0 := by rw [h0]; exact up4
  clear h0
  have T := R0.2.1
  have N := R0.nw
  rw [C_chkV, M_isValley T, bd1_some, bd1_some]
  refine wj (Q := fun o => G1 1 _ o) fun J hJ => ?_
  have hno : G1 1 (some (1, 0, σ)) (J ()) := by
    rw [hJ, M_fail]
    exact G1_no (by decide) R0 rfl rfl CE.rfl ME4 up4
  by_cases hv : 0 ≤ a ∧ a < σ 2 0
  · rw [if_pos hv, if_pos hv, if_pos rfl, if_neg (show ¬ (1 : Int32) = 0 by decide), C_chkB, M_isAbout, bd1_some, bd1_some]
    obtain ⟨v, rfl, hvn⟩ := get_v T hv
    have hV := T.2.1
    by_cases hb : 0 ≤ b ∧ b < 8
    · rw [if_pos hb, if_pos hb, if_pos rfl, if_neg (show ¬ (1 : Int32) = 0 by decide), C_chkB, bd1_some]
      obtain ⟨k, rfl, hk⟩ := get_n (n := 8) hb (by decide)
      by_cases w1 : w < 0
      · rw [if_pos w1, if_neg (show ¬ (0 ≤ w ∧ w < 2) by grind), if_neg (by decide)]; exact hno
      rw [if_neg w1]
      by_cases w2 : w ≤ 1
      · have e1 : qN v * 8 + qN k = qN (v * 8 + k) := by simp only [q_lit]; rw [q_mul, q_add]
        have e2 : (8 : Int32) * qN v + qN k = qN (v * 8 + k) := by simp only [q_lit]; rw [q_mul, q_add, Nat.mul_comm]
        have hdn := R0.dn (k := v * 8 + k) (by omega)
        rw [if_pos w2, if_pos (show 0 ≤ w ∧ w < 2 by grind), if_pos rfl, e1, e2, ck_ok (by omega) (by omega), ck_ok (by omega) (by omega), q_clamp (by omega)]
        refine wn (Q := fun o => G1 1 _ o) fun x ex => ?_
        by_cases w0 : w = 0
        · rw [if_pos w0, if_pos w0]
          exact G1_ok R0 rfl rfl (by rw [ex]; exact hdn.1.symm) CE.rfl ME.rfl h4
        rw [if_neg w0, if_neg w0]
        obtain ⟨u, z, hu, hz, zE, zW, _⟩ := C_weighed hF R0
        obtain ⟨w', hw, wE⟩ := M_bits hF R0
        obtain ⟨y, hy, y2⟩ := M_hasStamped hF (T.fr CE.rfl wE.me) (N.fr (by decide) CE.rfl wE.me) (bnS σ 0) (v := v) (a := k) (by omega) hk (x := 0) (y := x) (by rw [ex, hdn.1, Int32.add_zero])
        rw [hu, bd2_some, hz, bd1_some, C_hasStamped hF T zE zW (by omega) hk, bd1_some, hw, bd2_some, hy, bd2_some]
        refine G1_ok R0 (v := bI (hsS F σ (bnS σ 0) v k 0)) (w := bI (hsS F σ (bnS σ 0) v k 0)) (σ' := z) (τ' := y) ?_ ?_ rfl zE (wE.me.trans (me_of y2)) (by rw [y2 0 (by decide) (by decide), mq4 wE.mq]; exact h4)
        · cases hsS F σ (bnS σ 0) v k 0 <;> rfl
        · cases hsS F σ (bnS σ 0) v k 0 <;> rfl
      · rw [if_neg w2, if_neg (show ¬ (0 ≤ w ∧ w < 2) by grind), if_neg (by decide)]; exact hno
    · rw [if_neg hb, if_neg hb, if_neg (by decide), if_pos rfl]; exact hno
  · rw [if_neg hv, if_neg hv, if_neg (by decide), if_pos rfl]; exact hno
end
