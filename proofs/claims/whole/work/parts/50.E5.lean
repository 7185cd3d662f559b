set_option linter.unusedVariables false
set_option linter.unusedSimpArgs false
set_option maxRecDepth 16384
/-! counts, help, clauses -/
section
variable {F : Nat}
theorem ck3 {α : Type} {k : Nat} {i : Int32} (h : i = qN k) (hk : k < 3) (x : Option α) : ckI i 3 x = x := by subst h; exact ck_ok hk (by omega)
theorem sm_count (hF : 800 ≤ F) : Sm_count F Rl := by
  intro σ τ a R
  show G1 1 _ _
  unfold fX10_count fX11_count
  refine wn (Q := fun o => G1 1 _ o) fun τ0 h0 => ?_
  have R0 : Rl σ τ0 := by rw [h0]; exact R.fr CE.rfl ME4
  have h4 : τ0 0 4 = 0 := by rw [h0]; exact up4
  clear h0
  have T := R0.2.1
  have N := R0.nw
  obtain ⟨s1, ⟨A, hA, sa1, sa2, _⟩, ⟨n, hn, sn1, sn2, _⟩, s4⟩ := R0.2.2.1
  by_cases w0 : a = 0
  · subst w0
    rw [if_pos rfl, if_pos rfl, show ∀ x : Option (Int32 × St), ckI 0 8 x = x from fun x => ck_ok (k := 0) (by decide) (by decide)]
    exact G1_ok R0 rfl rfl T.2.2.1.symm CE.rfl ME.rfl h4
  rw [if_neg w0, if_neg w0]
  by_cases w1 : a = 1
  · subst w1
    rw [if_pos rfl, if_pos rfl, show ∀ x : Option (Int32 × St), ckI 1 8 x = x from fun x => ck_ok (k := 1) (by decide) (by decide)]
    exact G1_ok R0 rfl rfl T.2.2.2.2.2.1.symm CE.rfl ME.rfl h4
  rw [if_neg w1, if_neg w1]
  by_cases w2 : a = 2
  · subst w2
    rw [if_pos rfl, if_pos rfl, show ∀ x : Option (Int32 × St), ckI 2 8 x = x from fun x => ck_ok (k := 2) (by decide) (by decide)]
    exact G1_ok R0 rfl rfl T.2.2.2.2.2.2.1.symm CE.rfl ME.rfl h4
  rw [if_neg w2, if_neg w2]
  by_cases w3 : a = 3
  · rw [if_pos w3, if_pos w3]
    exact G1_ok R0 rfl rfl N.2.1.symm CE.rfl ME.rfl h4
  rw [if_neg w3, if_neg w3]
  by_cases w4 : a = 4
  · rw [if_pos w4, if_pos w4]
    obtain ⟨u, z, hu, hz, zE, zW, uE⟩ := C_weighed hF R0
    obtain ⟨w', hw, wE⟩ := M_bits hF R0
    rw [hu, hw]
    exact G1_ok R0 rfl rfl rfl uE wE.me (by rw [mq4 wE.mq]; exact h4)
  rw [if_neg w4, if_neg w4]
  by_cases w5 : a = 5
  · rw [if_pos w5, if_pos w5]
    obtain ⟨u, z, hu, hz, zE, zW, uE⟩ := C_weighed hF R0
    obtain ⟨y, hy, y1, y2⟩ := M_stamped hF R0
    rw [hu, bd2_some, hz, bd1_some, C_countStamped hF T zE zW, bd1_some, hy]
    exact G1_ok R0 rfl rfl y1.symm zE y2.me (by show y.2 0 4 = 0; rw [mq4 y2]; exact h4)
  rw [if_neg w5, if_neg w5]
  by_cases w6 : a = 6
  · rw [if_pos w6, if_pos w6]
    exact G1_ok R0 rfl rfl (by rw [sa1, sa2]) CE.rfl ME.rfl h4
  rw [if_neg w6, if_neg w6]
  by_cases w7 : a = 7
  · rw [if_pos w7, if_pos w7]
    exact G1_ok R0 rfl rfl (by rw [sn1, sn2]) CE.rfl ME.rfl h4
  rw [if_neg w7, if_neg w7]
  by_cases w8 : a = 8
  · rw [if_pos w8, if_pos w8]
    exact G1_ok R0 rfl rfl R0.1.2.2.1.symm CE.rfl ME.rfl h4
  rw [if_neg w8, if_neg w8]
  by_cases w9 : a = 9
  · subst w9
    rw [if_pos rfl, if_pos rfl, show (9 - 9 : Int32) = qN 0 from rfl, ck_ok (by decide) (by decide), ck_ok (by decide) (by decide)]
    exact G1_ok R0 rfl rfl (s4 0 (by decide)).symm CE.rfl ME.rfl h4
  rw [if_neg w9, if_neg w9]
  by_cases w10 : a = 10
  · subst w10
    rw [if_pos rfl, if_pos rfl, show (10 - 9 : Int32) = qN 1 from rfl, ck_ok (by decide) (by decide), ck_ok (by decide) (by decide)]
    exact G1_ok R0 rfl rfl (s4 1 (by decide)).symm CE.rfl ME.rfl h4
  rw [if_neg w10, if_neg w10]
  by_cases w11 : a = 11
  · subst w11
    rw [if_pos rfl, if_pos rfl, show (11 - 9 : Int32) = qN 2 from rfl, ck_ok (by decide) (by decide), ck_ok (by decide) (by decide)]
    exact G1_ok R0 rfl rfl (s4 2 (by decide)).symm CE.rfl ME.rfl h4
  rw [if_neg w11, if_neg w11, M_fail]
  exact G1_no (by decide) R0 rfl rfl CE.rfl ME4 up4
/-! help -/
theorem help_eq (hF : 800 ≤ F) {σ u τ w : St} (T : Told σ τ) (e : CE σ u) (m : ExM τ w) (f : Nat → Bool) (v : Int32) :
    ∃ r : Int32, fX1_reachedFrom F u v (qN (bsN f (nD σ))) = some r ∧ (nm ((1 : Int32) <<< (v &&& 31)) fun x6 => lp (fun (K8 : (Int32 × Int32) → Option (Int32 × St)) (v7 : Int32 × Int32) => if (6 : Int32) ≤ v7.1 then (some (v7.2 &&& (((1 : Int32) <<< (v &&& 31)) ^^^ ((-1))), w)) else lp (fun (K11 : (Int32 × Int32) → Option (Int32 × St)) (v10 : Int32 × Int32) => if (w 5 1) ≤ v10.1 then (K8 ((v7.1 + 1, v10.2))) else ckI (v10.1) 16 (ckI (v10.1) 16 (nm (((1 : Int32) <<< ((w 7 (Int32.toNatClampNeg v10.1)) &&& 31)) ||| ((1 : Int32) <<< ((w 8 (Int32.toNatClampNeg v10.1)) &&& 31))) fun x13 => bd1 (fX11_isOf F w (qN (bsN f (nD σ))) v10.1) fun r14 => if r14 = 0 then (K11 ((v10.1 + 1, v10.2))) else ckI (v10.1) 16 (if (w 9 (Int32.toNatClampNeg v10.1)) = (3 : Int32) then (if (x13 &&& v10.2) = 0 then (K11 ((v10.1 + 1, v10.2))) else nm (v10.2 ||| x13) fun x15 => K11 ((v10.1 + 1, x15))) else K11 ((v10.1 + 1, v10.2)))))) F ((0, v7.2))) F ((0, x6))) = some (r, w) := by
  have hD := T.2.2.2.2.1
  have hm := wpI2 (e := fX1_reachedFrom F u v (qN (bsN f (nD σ)))) (e' := (nm ((1 : Int32) <<< (v &&& 31)) fun x6 => lp (fun (K8 : (Int32 × Int32) → Option (Int32 × St)) (v7 : Int32 × Int32) => if (6 : Int32) ≤ v7.1 then (some (v7.2 &&& (((1 : Int32) <<< (v &&& 31)) ^^^ ((-1))), w)) else lp (fun (K11 : (Int32 × Int32) → Option (Int32 × St)) (v10 : Int32 × Int32) => if (w 5 1) ≤ v10.1 then (K8 ((v7.1 + 1, v10.2))) else ckI (v10.1) 16 (ckI (v10.1) 16 (nm (((1 : Int32) <<< ((w 7 (Int32.toNatClampNeg v10.1)) &&& 31)) ||| ((1 : Int32) <<< ((w 8 (Int32.toNatClampNeg v10.1)) &&& 31))) fun x13 => bd1 (fX11_isOf F w (qN (bsN f (nD σ))) v10.1) fun r14 => if r14 = 0 then (K11 ((v10.1 + 1, v10.2))) else ckI (v10.1) 16 (if (w 9 (Int32.toNatClampNeg v10.1)) = (3 : Int32) then (if (x13 &&& v10.2) = 0 then (K11 ((v10.1 + 1, v10.2))) else nm (v10.2 ||| x13) fun x15 => K11 ((v10.1 + 1, x15))) else K11 ((v10.1 + 1, v10.2)))))) F ((0, v7.2))) F ((0, x6)))) (P := fun (x : Int32) (y : Int32 × St) => y = (x, w)) ?_
  · obtain ⟨x, y, hx, hy, rfl⟩ := hm
    exact ⟨x, hx, hy⟩
  intro Q hQ
  unfold fX1_reachedFrom
  refine wn (Q := fun o => Q o _) fun x1 e1 => wn (Q := fun o => Q _ o) fun x6 e6 => ?_
  rw [← e6] at e1
  subst e1
  refine lp2_up Q (fun k (a b : Int32 × Int32) => a = b ∧ a.1 = qN k) 6 ?_ F F 0 _ _ (by omega) (by omega) (by omega) ⟨rfl, rfl⟩
  rintro k ⟨a1, a2⟩ b K K' hk ⟨rfl, ha⟩ hK
  dsimp only at ha
  subst ha
  dsimp only
  by_cases h6 : 6 ≤ qN k
  · rw [if_pos h6, if_pos h6]; exact hQ _ _ rfl
  · rw [if_neg h6, if_neg h6]
    rw [show (6 : Int32) = qN 6 from rfl, q_le (by omega) (by omega)] at h6
    refine lp2_up Q (fun d (a b : Int32 × Int32) => a = b ∧ a.1 = qN d) (nD σ) ?_ F F 0 _ _ (by omega) (by omega) (by omega) ⟨rfl, rfl⟩
    rintro d ⟨b1, b2⟩ b K2 K2' hd ⟨rfl, ha⟩ hK2
    dsimp only at ha
    subst ha
    dsimp only
    have u2 : u 2 1 = qN (nD σ) := by rw [e 2 (by decide) (by decide)]; exact T.2.2.2.1
    have w5 : w 5 1 = qN (nD σ) := by rw [m 5 (by decide) (by decide) (by decide), T.2.2.2.2.2.1]; exact T.2.2.2.1
    by_cases hdd : d = nD σ
    · rw [if_pos (show u 2 1 ≤ qN d by rw [u2, q_le (by omega) (by omega)]; omega), if_pos (show w 5 1 ≤ qN d by rw [w5, q_le (by omega) (by omega)]; omega)]
      exact hK _ _ (by omega) ⟨rfl, q_add k 1⟩
    · have hdn : d < nD σ := by omega
      have hn := T.dn hdn
      rw [if_neg (show ¬ u 2 1 ≤ qN d by rw [u2, q_le (by omega) (by omega)]; omega), if_neg (show ¬ w 5 1 ≤ qN d by rw [w5, q_le (by omega) (by omega)]; omega)]
      have hcd : (qN d).toNatClampNeg = d := q_clamp (by omega)
      have hbo : fX1_bothOf F u (qN d) = some (((1 : Int32) <<< (σ 4 d &&& 31)) ||| ((1 : Int32) <<< (σ 5 d &&& 31))) := by
        unfold fX1_bothOf; rw [ck_ok (by omega) (by omega), ck_ok (by omega) (by omega), hcd, e 4 (by decide) (by decide), e 5 (by decide) (by decide)]
      have hof : fX11_isOf F w (qN (bsN f (nD σ))) (qN d) = some (bI (f d)) := by
        unfold fX11_isOf; rw [bs_shr f hdn hD]; cases f d <;> rfl
      rw [hbo, bd1_some, ck_ok (by omega) (by omega), ck_ok (by omega) (by omega), ck_ok (by omega) (by omega), hcd, m 7 (by decide) (by decide) (by decide), m 8 (by decide) (by decide) (by decide), hn.1, hn.2.1]
      generalize ((1 : Int32) <<< (σ 4 d &&& 31)) ||| ((1 : Int32) <<< (σ 5 d &&& 31)) = both
      refine wn (Q := fun o => Q _ o) fun x13 e13 => ?_
      rw [hof, bd1_some, e13]
      refine wj (Q := fun o => Q o _) fun J10 hJ10 => wj (Q := fun o => Q o _) fun J14 hJ14 => ?_
      have hskip : Q (K2 (qN d + 1, b2)) (K2' (qN d + 1, b2)) := hK2 _ _ hdn ⟨rfl, q_add d 1⟩
      have h3u : u 6 d = σ 6 d := by rw [e 6 (by decide) (by decide)]
      have h3w : w 9 d = σ 6 d := by rw [m 9 (by decide) (by decide) (by decide), hn.2.2.1]
      have hz : J14 () = K2 (qN d + 1, b2) := by rw [hJ14, hJ10, if_pos rfl]
      by_cases ht : σ 6 d = 3
      · rw [if_pos (show u 6 d = 3 by rw [h3u]; exact ht), bs_shr f hdn hD]
        cases hf : f d with
        | false =>
          rw [if_pos (show bI false = 0 from rfl), if_pos (show bI false = 0 from rfl), hz]; exact hskip
        | true =>
          rw [if_neg (show ¬ bI true = 0 by decide), if_neg (show ¬ bI true = 0 by decide), ck_ok (by omega) (by omega), if_pos (show w 9 d = 3 by rw [h3w]; exact ht), hJ10, if_neg (by decide), Int32.and_comm both b2]
          by_cases hc : b2 &&& both = 0
          · rw [if_pos hc, if_pos hc]; exact hskip
          · rw [if_neg hc, if_neg hc]
            exact hK2 _ _ hdn ⟨rfl, q_add d 1⟩
      · rw [if_neg (show ¬ u 6 d = 3 by rw [h3u]; exact ht), hz]
        cases hf : f d with
        | false => rw [if_pos (show bI false = 0 from rfl)]; exact hskip
        | true =>
          rw [if_neg (show ¬ bI true = 0 by decide), ck_ok (by omega) (by omega), if_neg (show ¬ w 9 d = 3 by rw [h3w]; exact ht)]; exact hskip
theorem sm_help (hF : 800 ≤ F) : Sm_help F Rl := by
  intro σ τ a R
  show G1 1 _ _
  unfold fX10_help fX11_help
  refine wn (Q := fun o => G1 1 _ o) fun τ0 h0 => ?_
  have R0 : Rl σ τ0 := by rw [h0]; exact R.fr CE.rfl ME4
  have h4 : τ0 0 4 = 0 := by rw [h0]; exact up4
  clear h0
  have T := R0.2.1
  rw [C_chkV, M_isValley T, bd1_some, bd1_some]
  by_cases hv : 0 ≤ a ∧ a < σ 2 0
  · rw [if_pos hv, if_pos hv, if_pos rfl, if_neg (show ¬ (1 : Int32) = 0 by decide)]
    obtain ⟨u, z, hu, hz, zE, zW, uE⟩ := C_weighed hF R0
    obtain ⟨w', hw, wE⟩ := M_bits hF R0
    obtain ⟨r, hr1, hr2⟩ := help_eq hF T uE wE (bnS σ 0) a
    rw [hu, bd2_some, hr1, bd1_some, hw, bd2_some]
    exact G1_ok R0 rfl hr2 rfl uE wE.me (by rw [mq4 wE.mq]; exact h4)
  · rw [if_neg hv, if_neg hv, if_neg (by decide), if_pos rfl, M_fail]
    exact G1_no (by decide) R0 rfl rfl CE.rfl ME4 up4
end
