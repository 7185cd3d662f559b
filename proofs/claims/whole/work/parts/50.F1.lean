set_option linter.unusedVariables false
set_option linter.unusedSimpArgs false
set_option maxRecDepth 16384
/-! breaks, stumbles, acts -/
section
variable {F : Nat}
theorem M_isOfB {τ : St} (b : Int32) {d : Nat} (hd : d < 32) : fX11_isOf F τ b (qN d) = some (bI (bt b d)) := by
  unfold fX11_isOf
  rw [bt_shr _ hd]
  cases bt b d <;> rfl
theorem sm_breaks (hF : 6000 ≤ F) : Sm_breaks F Rl := by
  intro σ τ a R
  have hB : ∀ (fc : Option (Nat × Int32 × St)) (fm : Option (Int32 × St)), G1 1 fc fm → ∃ (res : Nat × Int32 × St) (r : Int32) (τ' : St), fc = some res ∧ (res.1 = 0 ∨ res.1 = 1) ∧ fm = some (r, τ') ∧ τ' 0 4 = (if res.1 = 0 then (0 : Int32) else 1) ∧ (res.1 = 0 → (res.2.1 = 0 ↔ r = 0)) ∧ Rl res.2.2 τ' := by
    rintro fc fm ⟨res, r, τ', g1, g2, g3, g4, g5, g6⟩
    exact ⟨res, r, τ', g1, g2, g3, g4, fun h => by rw [g5 h], g6⟩
  apply hB
  unfold fX10_breaks fX11_breaks
  refine wnG1 fun τ0 h0 => ?_
  have R0 : Rl σ τ0 := by rw [h0]; exact R.fr CE.rfl ME4
  have h4 : τ0 0 4 = 0 := by rw [h0]; exact up4
  clear h0
  have T := R0.2.1
  rw [C_chkD, M_isDance T, bd1_some, bd1_some]
  by_cases hv : 0 ≤ a ∧ a < σ 2 1
  · rw [if_pos hv, if_pos hv, if_pos rfl, if_neg i10n]
    obtain ⟨d, rfl, hd⟩ := get_d T hv
    have hb := T.dd hd
    have hcl : (qN d).toNatClampNeg = d := q_clamp (by omega)
    have hbr := (R0.nw.2.2.1 d (by omega)).2.2
    rw [ck_ok (by omega) (by omega), hcl, M_isOfB _ (by omega), bd1_some, hbr]
    cases hbt : bt (τ0 0 32) d with
    | true =>
      rw [if_neg (show ¬ bI true = 0 by decide), if_neg (show ¬ bI true = 0 by decide), show (1 : Int32) = qN 1 from rfl, C_refuse (by decide), bd2_some]
      refine ⟨_, _, _, rfl, .inl rfl, rfl, ?_, fun _ => rfl, R0.rf (k := 1) (by decide)⟩
      rw [if_pos rfl, up_ne _ _ _ (by decide)]; exact h4
    | false =>
      rw [hbt] at hbr
      rw [if_pos (show bI false = 0 from rfl), if_pos (show bI false = 0 from rfl), ck_ok (by omega) (by omega)]
      obtain ⟨A, h40, hA, hA', hch⟩ := R0.2.2.1.2.1
      obtain ⟨u, hu, u1, u2, u3, u4, u5⟩ := M_keep hF hA' h40
      obtain ⟨v, hv, v1, v2, v3, v4, ⟨v5, v6, v7, v8⟩, v9⟩ := C_note (F := F) (σ := up σ 32 d 1) (A := A) (by rw [up_ne _ _ _ (by decide)]; exact hA) h40 2 (qN d) 0 0
      simp only [nm]
      rw [hv, hu, bd1_some, bd1_some]
      have rd := R0.rd
      have ec : ∀ x, x ≠ 30 → x ≠ 35 → x ≠ 32 → v x = σ x := fun x h0 h5 h2 => by rw [v1 x h0 h5, up_ne _ _ _ h2]
      have w32 : v 32 = upd (σ 32) d 1 := by rw [v1 32 (by decide) (by decide), up_same]
      have w30 : v 30 0 = σ 30 0 := by rw [v2, up_ne _ _ _ (by decide)]
      refine ⟨_, _, _, rfl, .inl rfl, rfl, ?_, fun _ => rfl, ?_⟩
      · rw [up_same, upd_ne _ _ (by decide), u2 4 (by decide), if_pos rfl]; exact h4
      · refine R0.act (σ' := v) hA h40 hch (fun x h0 h1 h2 h3 h4 h5 => ec x h0 h5 h2) ?_ v4 ?_ ?_ ?_ ?_ ?_ ?_ ?_ ?_ ?_
        · rw [v3, up_ne _ _ _ (by decide)]
        · intro j hj; rw [v9 j hj, up_ne _ _ _ (by decide)]
        · intro c c0 c13 c18 c19 c20; rw [up_ne _ _ _ c0, u1 c c0 c20]
        · intro j j4 j31 j32 j33; rw [up_same, upd_ne _ _ j32, u2 j j33]
        · rw [up_same, upd_ne _ _ (by decide), u3]
        · intro j hj; rw [up_ne _ _ _ (by decide)]; exact u4 j hj
        · intro j hj; rw [up_ne _ _ _ (by decide)]; exact u5 j hj
        · exact .inr (.inr (.inl ⟨v5, d, v6, by omega⟩))
        · rw [w30, w32, ec 31 (by decide) (by decide) (by decide), ec 33 (by decide) (by decide) (by decide), ec 34 (by decide) (by decide) (by decide)]
          unfold unS
          rw [if_neg (by rw [v5]; decide), if_neg (by rw [v5]; decide), if_pos v5, v6, hcl]
          refine ⟨rfl, fun e _ => rfl, fun e _ => ?_, fun _ _ _ _ => rfl, fun _ _ => rfl⟩
          show upd (upd (σ 32) d 1) d 0 e = σ 32 e
          by_cases he : e = d
          · subst he; rw [upd_same]; exact hbr.symm
          · rw [upd_ne _ _ he, upd_ne _ _ he]
        · rw [w30, w32, ec 31 (by decide) (by decide) (by decide), ec 33 (by decide) (by decide) (by decide), ec 34 (by decide) (by decide) (by decide), RowD.iff T.2.2.2.2.1 (fun d hd => (T.dd hd).2)]
          obtain ⟨d1, d2, d3, d4, d5⟩ := rd
          dsimp only at d1 d2 d3 d4 d5
          refine ⟨d1, ?_, fun e he => ?_, fun e i he hi => ?_, fun k hk => ?_⟩
          · rw [up_same, upd_ne _ _ (by decide), u2 31 (by decide)]; exact d2
          · have := d3 e he
            have hbits : bt (up u 0 32 (u 0 32 ||| ((1 : Int32) <<< (qN d &&& 31))) 0 32) e = (bt (τ0 0 32) e || decide (e = d)) := by
              rw [up_same, upd_same, u2 32 (by decide), bt_or, bt_pow (by omega)]
            rw [hbits, up_ne _ _ _ (by decide), u1 18 (by decide) (by decide)]
            refine ⟨this.1, this.2.1, ?_⟩
            dsimp only
            by_cases hed : e = d
            · subst hed
              rw [upd_same]; simp [bI]
            · rw [upd_ne _ _ hed]; simp [hed]; exact this.2.2
          · rw [up_ne _ _ _ (by decide), u1 13 (by decide) (by decide)]; exact d4 e i he hi
          · rw [up_ne _ _ _ (by decide), u1 19 (by decide) (by decide)]; exact d5 k hk
  · rw [if_neg hv, if_neg hv, if_neg (by decide), if_pos rfl]
    exact G1_no (by decide) R0 rfl rfl CE.rfl ME4 up4
def chgS (σ : St) (d i : Nat) : Bool := !(decide (σ 8 (10 * d + i) = 3) || decide (σ 8 (10 * d + i) = 4))
theorem C_changes {σ : St} {d i : Nat} (hd : d < 8) (hi : i < 10) : fX0_changes F σ (qN d) (qN i) = some (bI (chgS σ d i)) := by
  unfold fX0_changes chgS
  rw [pl_c, bd1_some, ck_ok (by omega) (by omega), q_clamp (by omega)]
  simp only [nm]
  by_cases h3 : σ 8 (10 * d + i) = 3
  · rw [if_pos h3, h3]; rfl
  · rw [if_neg h3]
    by_cases h4 : σ 8 (10 * d + i) = 4
    · rw [if_pos h4, h4]; rfl
    · rw [if_neg h4, decide_eq_false h3, decide_eq_false h4]; rfl
theorem M_isLimp {σ τ : St} (T : Told σ τ) {d i : Nat} (hd : d < nD σ) (hi : i < nS σ d) : fX11_isLimp F τ (qN d) (qN i) = some (bI (chgS σ d i)) := by
  have hb := T.dd hd
  have hs := T.st hd hi
  unfold fX11_isLimp chgS
  rw [pl_m, ck_ok (by omega) (by omega), q_clamp (by omega), hs.1]
  simp only [nm]
  by_cases h3 : σ 8 (10 * d + i) = 3
  · rw [if_pos h3, h3]; rfl
  · rw [if_neg h3]
    by_cases h4 : σ 8 (10 * d + i) = 4
    · rw [if_pos h4, h4]; rfl
    · rw [if_neg h4, decide_eq_false h3, decide_eq_false h4]; rfl
theorem sm_stumble (hF : 6000 ≤ F) : Sm_stumble F Rl := by
  intro σ τ a b n R
  show G1 1 _ _
  unfold fX10_stumble fX11_stumble
  refine wnG1 fun τ0 h0 => ?_
  have R0 : Rl σ τ0 := by rw [h0]; exact R.fr CE.rfl ME4
  have h4 : τ0 0 4 = 0 := by rw [h0]; exact up4
  clear h0
  have T := R0.2.1
  obtain ⟨t, m, ht, hm, hor⟩ := chkS (F := F) T a b
  rw [ht, hm, bd1_some, bd1_some]
  rcases hor with ⟨rfl, rfl, d, i, rfl, rfl, hd, hi⟩ | ⟨rfl, rfl⟩
  · rw [if_pos rfl, if_neg i10n]
    have hb := T.dd hd
    have hin := M_isIn (F := F) (τ := τ0) n 0 9
    rw [show (0 : Int64) = Int32.toInt64 0 from rfl, show (9 : Int64) = Int32.toInt64 9 from rfl, hin, bd1_some]
    simp only [jn]
    rw [C_changes (by omega) (by omega), M_isLimp T hd hi, bd1_some, bd1_some, pl_c, bd1_some, pl_m]
    have href : G1 1 (bd2 (fX10_refuse F σ 1) fun r5 u6 => some (0, r5, u6)) (bd2 (fX11_refuse F τ0 1) fun r8 u9 => some (r8, u9)) := by
      rw [show (1 : Int32) = qN 1 from rfl, C_refuse (by decide), M_refuse (by decide)]
      refine ⟨_, _, _, rfl, .inl rfl, rfl, ?_, fun _ => rfl, R0.rf (by decide)⟩
      rw [if_pos rfl, up_ne _ _ _ (by decide)]; exact h4
    by_cases h1 : n < 0
    · rw [if_pos h1, if_neg (show ¬ (0 ≤ n ∧ n ≤ 9) by grind), if_pos rfl]; exact href
    rw [if_neg h1]
    by_cases h2 : 9 < n
    · rw [if_pos h2, if_neg (show ¬ (0 ≤ n ∧ n ≤ 9) by grind), if_pos rfl]; exact href
    rw [if_neg h2, if_pos (show 0 ≤ n ∧ n ≤ 9 by grind), if_neg i10n]
    cases hcg : chgS σ d i with
    | false =>
      rw [if_pos (show bI false = 0 from rfl), if_pos (show bI false = 0 from rfl)]; exact href
    | true =>
      rw [if_neg (show ¬ bI true = 0 by decide), if_neg (show ¬ bI true = 0 by decide)]
      simp only [nm]
      rw [ck_ok (by omega) (by omega), ck_ok (by omega) (by omega), q_clamp (by omega)]
      obtain ⟨A, h40, hA, hA', hch⟩ := R0.2.2.1.2.1
      obtain ⟨u, hu, u1, u2, u3, u4, u5⟩ := M_keep hF hA' h40
      obtain ⟨v, hv, v1, v2, v3, v4, ⟨v5, v6, v7, v8⟩, v9⟩ := C_note (F := F) (σ := up σ 33 (10 * d + i) n) (A := A) (by rw [up_ne _ _ _ (by decide)]; exact hA) h40 3 (qN d) (qN i) (σ 33 (10 * d + i))
      rw [hv, hu, bd1_some, bd1_some, ck_ok (by omega) (by omega), ck_ok (by omega) (by omega)]
      have rd := R0.rd
      have ec : ∀ x, x ≠ 30 → x ≠ 35 → x ≠ 33 → v x = σ x := fun x h0 h5 h2 => by rw [v1 x h0 h5, up_ne _ _ _ h2]
      have w33 : v 33 = upd (σ 33) (10 * d + i) n := by rw [v1 33 (by decide) (by decide), up_same]
      have w30 : v 30 0 = σ 30 0 := by rw [v2, up_ne _ _ _ (by decide)]
      refine ⟨_, _, _, rfl, .inl rfl, rfl, ?_, fun _ => ?_, ?_⟩
      · rw [up_ne _ _ _ (by decide), u2 4 (by decide), if_pos rfl]; exact h4
      · show σ 33 _ = u 13 _
        rw [u1 13 (by decide) (by decide)]; exact (R0.nw.2.2.2 d i hd hi).1.symm
      · refine R0.act (σ' := v) hA h40 hch (fun x h0 h1 h2 h3 h4 h5 => ec x h0 h5 h3) ?_ v4 ?_ ?_ ?_ ?_ ?_ ?_ ?_ ?_ ?_
        · rw [v3, up_ne _ _ _ (by decide)]
        · intro j hj; rw [v9 j hj, up_ne _ _ _ (by decide)]
        · intro c c0 c13 c18 c19 c20; rw [up_ne _ _ _ c13, u1 c c0 c20]
        · intro j j4 j31 j32 j33; rw [up_ne _ _ _ (by decide), u2 j j33]
        · rw [up_ne _ _ _ (by decide), u3]
        · intro j hj; rw [up_ne _ _ _ (by decide)]; exact u4 j hj
        · intro j hj; rw [up_ne _ _ _ (by decide)]; exact u5 j hj
        · exact .inr (.inr (.inr (.inl ⟨v5, d, i, v6, v7, hd, hi⟩)))
        · rw [w30, w33, ec 31 (by decide) (by decide) (by decide), ec 32 (by decide) (by decide) (by decide), ec 34 (by decide) (by decide) (by decide)]
          unfold unS
          rw [if_neg (by rw [v5]; decide), if_neg (by rw [v5]; decide), if_neg (by rw [v5]; decide), if_pos v5, v6, v7, v8, q_clamp (by omega), q_clamp (by omega)]
          refine ⟨rfl, fun e _ => rfl, fun e _ => rfl, fun e j _ _ => ?_, fun _ _ => rfl⟩
          show upd (upd (σ 33) (10 * d + i) n) (10 * d + i) (σ 33 (10 * d + i)) (10 * e + j) = σ 33 (10 * e + j)
          by_cases he : 10 * e + j = 10 * d + i
          · rw [he, upd_same]
          · rw [upd_ne _ _ he, upd_ne _ _ he]
        · rw [w30, w33, ec 31 (by decide) (by decide) (by decide), ec 32 (by decide) (by decide) (by decide), ec 34 (by decide) (by decide) (by decide), RowD.iff T.2.2.2.2.1 (fun d hd => (T.dd hd).2)]
          obtain ⟨d1, d2, d3, d4, d5⟩ := rd
          dsimp only at d1 d2 d3 d4 d5
          refine ⟨d1, ?_, fun e he => ?_, fun e j he hj => ?_, fun k hk => ?_⟩
          · rw [up_ne _ _ _ (by decide), u2 31 (by decide)]; exact d2
          · rw [up_ne _ _ _ (by decide), u1 18 (by decide) (by decide), up_ne _ _ _ (by decide), u2 32 (by decide)]; exact d3 e he
          · rw [up_same, u1 13 (by decide) (by decide)]
            dsimp only
            by_cases hed : 10 * e + j = 10 * d + i
            · rw [hed, upd_same, upd_same]; exact ⟨rfl, by grind, by grind⟩
            · rw [upd_ne _ _ hed, upd_ne _ _ hed]; exact d4 e j he hj
          · rw [up_ne _ _ _ (by decide), u1 19 (by decide) (by decide)]; exact d5 k hk
  · rw [if_neg (by decide), if_pos rfl, M_fail]
    exact G1_no (by decide) R0 rfl rfl CE.rfl ME4 up4
theorem pl8 (v a : Nat) : qN v * 8 + qN a = qN (8 * v + a) := by rw [show (8 : Int32) = qN 8 from rfl, q_mul, q_add, Nat.mul_comm]
theorem pl8' (v a : Nat) : 8 * qN v + qN a = qN (8 * v + a) := by rw [show (8 : Int32) = qN 8 from rfl, q_mul, q_add]
theorem sm_act (hF : 6000 ≤ F) : Sm_act F Rl := by
  intro σ τ a b n R
  show G1 1 _ _
  unfold fX10_act fX11_act
  refine wnG1 fun τ0 h0 => ?_
  have R0 : Rl σ τ0 := by rw [h0]; exact R.fr CE.rfl ME4
  have h4 : τ0 0 4 = 0 := by rw [h0]; exact up4
  clear h0
  have T := R0.2.1
  rw [C_chkV, M_isValley T, bd1_some, bd1_some]
  simp only [jn]
  have hno : ∀ (v : Int32), G1 1 (some (1, v, σ)) (bd2 (fX11_fail F τ0 1) fun r7 u8 => some (r7, u8)) := fun v => by
    rw [M_fail]; exact G1_no (by decide) R0 rfl rfl CE.rfl ME4 up4
  by_cases hv : 0 ≤ a ∧ a < σ 2 0
  · rw [if_pos hv, if_pos hv, if_pos rfl, if_neg i10n, C_chkB, M_isAbout, bd1_some, bd1_some]
    by_cases hb : 0 ≤ b ∧ b < 8
    · have hin := M_isIn (F := F) (τ := τ0) n 1 99
      obtain ⟨v, rfl, hvn⟩ := get_v T hv
      obtain ⟨c, rfl, hc8⟩ := get_n (n := 8) hb (by decide)
      have hv6 := T.2.1
      rw [if_pos hb, if_pos hb, if_pos rfl, if_neg i10n, show (1 : Int64) = Int32.toInt64 1 from rfl, show (99 : Int64) = Int32.toInt64 99 from rfl, hin, bd1_some, pl8, pl8']
      simp only [nm]
      have href : G1 1 (bd2 (fX10_refuse F σ 1) fun r5 u6 => some (0, r5, u6)) (bd2 (fX11_refuse F τ0 1) fun r8 u9 => some (r8, u9)) := by
        rw [show (1 : Int32) = qN 1 from rfl, C_refuse (by decide), M_refuse (by decide)]
        refine ⟨_, _, _, rfl, .inl rfl, rfl, ?_, fun _ => rfl, R0.rf (by decide)⟩
        rw [if_pos rfl, up_ne _ _ _ (by decide)]; exact h4
      by_cases h1 : n < 1
      · rw [if_pos h1, if_neg (show ¬ (1 ≤ n ∧ n ≤ 99) by grind), if_pos rfl]; exact href
      rw [if_neg h1]
      by_cases h2 : 99 < n
      · rw [if_pos h2, if_neg (show ¬ (1 ≤ n ∧ n ≤ 99) by grind), if_pos rfl]; exact href
      have hp : 8 * v + c < 48 := by omega
      have hdn := R0.dn hp
      rw [if_neg h2, if_pos (show 1 ≤ n ∧ n ≤ 99 by grind), if_neg i10n, ck_ok hp (by omega), ck_ok hp (by omega), q_clamp (by omega), hdn.1]
      by_cases h3 : σ 34 (8 * v + c) + n ≤ 9999
      · rw [if_pos h3, if_pos h3, ck_ok hp (by omega), ck_ok hp (by omega)]
        obtain ⟨A, h40, hA, hA', hch⟩ := R0.2.2.1.2.1
        obtain ⟨u, hu, u1, u2, u3, u4, u5⟩ := M_keep hF hA' h40
        obtain ⟨w, hw, v1, v2, v3, v4, ⟨v5, v6, v7, v8⟩, v9⟩ := C_note (F := F) (σ := up σ 34 (8 * v + c) (σ 34 (8 * v + c) + n)) (A := A) (by rw [up_ne _ _ _ (by decide)]; exact hA) h40 4 (qN (8 * v + c)) n 0
        rw [hw, hu, bd1_some, bd1_some, ck_ok hp (by omega), ck_ok hp (by omega), ck_ok hp (by omega), ck_ok hp (by omega)]
        have rd := R0.rd
        have ec : ∀ x, x ≠ 30 → x ≠ 35 → x ≠ 34 → w x = σ x := fun x h0 h5 h2 => by rw [v1 x h0 h5, up_ne _ _ _ h2]
        have w34 : w 34 = upd (σ 34) (8 * v + c) (σ 34 (8 * v + c) + n) := by rw [v1 34 (by decide) (by decide), up_same]
        have w30 : w 30 0 = σ 30 0 := by rw [v2, up_ne _ _ _ (by decide)]
        refine ⟨_, _, _, rfl, .inl rfl, rfl, ?_, fun _ => ?_, ?_⟩
        · rw [up_ne _ _ _ (by decide), u2 4 (by decide), if_pos rfl]; exact h4
        · show w 34 _ = up u 19 _ _ 19 _
          rw [w34, upd_same, up_same, upd_same, u1 19 (by decide) (by decide), hdn.1]
        · refine R0.act (σ' := w) hA h40 hch (fun x h0 h1 h2 h3 h4 h5 => ec x h0 h5 h4) ?_ v4 ?_ ?_ ?_ ?_ ?_ ?_ ?_ ?_ ?_
          · rw [v3, up_ne _ _ _ (by decide)]
          · intro j hj; rw [v9 j hj, up_ne _ _ _ (by decide)]
          · intro c c0 c13 c18 c19 c20; rw [up_ne _ _ _ c19, u1 c c0 c20]
          · intro j j4 j31 j32 j33; rw [up_ne _ _ _ (by decide), u2 j j33]
          · rw [up_ne _ _ _ (by decide), u3]
          · intro j hj; rw [up_ne _ _ _ (by decide)]; exact u4 j hj
          · intro j hj; rw [up_ne _ _ _ (by decide)]; exact u5 j hj
          · exact .inr (.inr (.inr (.inr ⟨v5, 8 * v + c, v6, hp⟩)))
          · rw [w30, w34, ec 31 (by decide) (by decide) (by decide), ec 32 (by decide) (by decide) (by decide), ec 33 (by decide) (by decide) (by decide)]
            unfold unS
            rw [if_neg (by rw [v5]; decide), if_neg (by rw [v5]; decide), if_neg (by rw [v5]; decide), if_neg (by rw [v5]; decide), v6, v7, q_clamp (by omega)]
            refine ⟨rfl, fun e _ => rfl, fun e _ => rfl, fun e j _ _ => rfl, fun k _ => ?_⟩
            show upd (upd (σ 34) (8 * v + c) (σ 34 (8 * v + c) + n)) (8 * v + c) (upd (σ 34) (8 * v + c) (σ 34 (8 * v + c) + n) (8 * v + c) - n) k = σ 34 k
            by_cases he : k = 8 * v + c
            · rw [he, upd_same, upd_same, Int32.add_sub_cancel]
            · rw [upd_ne _ _ he, upd_ne _ _ he]
          · rw [w30, w34, ec 31 (by decide) (by decide) (by decide), ec 32 (by decide) (by decide) (by decide), ec 33 (by decide) (by decide) (by decide), RowD.iff T.2.2.2.2.1 (fun d hd => (T.dd hd).2)]
            obtain ⟨d1, d2, d3, d4, d5⟩ := rd
            dsimp only at d1 d2 d3 d4 d5
            refine ⟨d1, ?_, fun e he => ?_, fun e j he hj => ?_, fun k hk => ?_⟩
            · rw [up_ne _ _ _ (by decide), u2 31 (by decide)]; exact d2
            · rw [up_ne _ _ _ (by decide), u1 18 (by decide) (by decide), up_ne _ _ _ (by decide), u2 32 (by decide)]; exact d3 e he
            · rw [up_ne _ _ _ (by decide), u1 13 (by decide) (by decide)]; exact d4 e j he hj
            · rw [up_same, u1 19 (by decide) (by decide), hdn.1]
              dsimp only
              by_cases hed : k = 8 * v + c
              · rw [hed, upd_same, upd_same]; exact ⟨rfl, by have := hdn.2; grind, h3⟩
              · rw [upd_ne _ _ hed, upd_ne _ _ hed]; exact d5 k hk
      · rw [if_neg h3, if_neg h3, ck_ok hp (by omega)]; exact href
    · rw [if_neg hb, if_neg hb, if_neg (by decide), if_pos rfl]; exact hno _
  · rw [if_neg hv, if_neg hv, if_neg (by decide), if_pos rfl]; exact hno _
end
