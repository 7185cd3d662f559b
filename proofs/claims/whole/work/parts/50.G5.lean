set_option linter.unusedVariables false
set_option linter.unusedSimpArgs false
set_option maxRecDepth 16384
/-! the call of evenings -/
section
variable {F : Nat}
theorem sm_evenings (hF : 800 ≤ F) : Sm_evenings F Rl := by
  intro σ τ w R
  show G1 1 _ _
  unfold fX10_evenings fX11_evenings
  refine wnG1 fun τ0 h0 => ?_
  have R0 : Rl σ τ0 := by rw [h0]; exact R.fr CE.rfl ME4
  have h4 : τ0 0 4 = 0 := by rw [h0]; exact up4
  clear h0
  have T := R0.2.1
  have hD := T.2.2.2.2.1
  have hp := pow256 hD
  have hp1 := @pow_pos' (nD σ)
  have hin := M_isIn (F := F) (τ := τ0) w 0 2
  rw [C_chkB, bd1_some, show (0 : Int64) = Int32.toInt64 0 from rfl, show (2 : Int64) = Int32.toInt64 2 from rfl, hin, bd1_some]
  by_cases hw : 0 ≤ w ∧ w < 3
  · rw [if_pos hw, if_pos rfl, if_pos (show 0 ≤ w ∧ w ≤ 2 by grind), if_neg i10n]
    obtain ⟨z, hz, zE, g, g0, gv, gE⟩ := C_findE (F := F) hF T (CE.rfl (σ := σ))
    have hv2 : z 2 1 = qN (nD σ) := by rw [zE 2 (by decide) (by decide)]; exact T.2.2.2.1
    have hfe : fX1_fewestEvenings F z = some (qN (g (2 ^ nD σ - 1))) := by
      unfold fX1_fewestEvenings
      rw [hv2, sh_pow hD, show qN (2 ^ nD σ) - 1 = qN (2 ^ nD σ - 1) from q_sub (a := 2 ^ nD σ) (b := 1) hp1, ck_ok (by omega) (by omega), q_clamp (by omega), (gv _ (by omega)).1]
    rw [hz, bd1_some, hfe, bd1_some, C_most hF T zE gv gE, bd1_some]
    by_cases w0 : w = 0
    · rw [if_pos w0, if_pos w0]
      have hm := wpI (e := lp (fun (K12 : (St × Int32) → Option (Int32 × St)) (v11 : St × Int32) => bd2 (fX11_fits F 12 v11.1 0 v11.2) fun r14 u15 => if r14 = 0 then (K12 ((u15, v11.2 + 1))) else some (v11.2, u15)) F ((τ0, 0))) (P := fun x => x = (qN (g (2 ^ nD σ - 1)), τ0)) ?_
      · obtain ⟨x, hx, rfl⟩ := hm
        rw [hx]
        exact G1_ok R0 rfl rfl rfl zE ME.rfl h4
      · intro Q hQ
        refine lp_up Q (fun n (v : St × Int32) => v.1 = τ0 ∧ v.2 = qN n ∧ ∀ n', n' < n → ¬ Col (bvS σ) (nD σ) (2 ^ nD σ - 1) n') 8 ?_ F 0 _ (by omega) (by omega) ⟨rfl, rfl, fun n' h => absurd h (by omega)⟩
        rintro n ⟨v, c⟩ K hn ⟨hv, hc, hno⟩ hK
        dsimp only at hv hc
        subst hv hc
        dsimp only
        refine wb2 (show fX11_fits F 12 v 0 (qN n) = some (bI (fitB (bvS σ) n (nD σ) 0 (v 27)), v) from M_fits (F := F) (by omega) T hn 12 (nD σ) 0 v (by omega) (by omega) (fun _ _ => rfl)) ?_
        have hfc := fit_col (bo := bvS σ) (n := n) (D := nD σ) (busy := v 27) (fun k hk => R0.2.2.2.2.2 k (by omega))
        cases hf : fitB (bvS σ) n (nD σ) 0 (v 27) with
        | false =>
          have hnc : ¬ Col (bvS σ) (nD σ) (2 ^ nD σ - 1) n := fun h => by rw [hfc.2 h] at hf; cases hf
          have hn8 : n ≠ 8 := fun h => hnc (by rw [h]; exact col_8 hD)
          refine wiT (show bI false = 0 from rfl) (hK _ (by omega) ⟨rfl, q_add n 1, fun n' h => ?_⟩)
          by_cases hnn : n' = n
          · subst hnn; exact hnc
          · exact hno n' (by omega)
        | true =>
          refine wiF (show ¬ bI true = 0 by decide) (hQ _ ?_)
          have hcol := hfc.1 hf
          have hge : g (2 ^ nD σ - 1) = n := by
            by_cases hz0 : 2 ^ nD σ - 1 = 0
            · rw [hz0, g0]
              rcases Nat.eq_zero_or_pos n with h | h
              · exact h.symm
              · have hf0 : ∀ e, (2 ^ nD σ - 1).testBit e = false := fun e => by rw [hz0, Nat.zero_testBit]
                have hc0 : Col (bvS σ) (nD σ) (2 ^ nD σ - 1) 0 := ⟨fun _ => 0, ⟨fun e he ht => absurd ht (by rw [hf0 e]; decide), fun e e' _ _ ht => absurd ht (by rw [hf0 e]; decide)⟩⟩
                exact absurd hc0 (hno 0 h)
            · have hev := gE _ hz0 (show 2 ^ nD σ - 1 < 2 ^ nD σ by omega)
              have h1 := hev.2 n hcol
              have h2 : ¬ g (2 ^ nD σ - 1) < n := fun h => hno _ h hev.1
              omega
          rw [hge]
    · rw [if_neg w0, if_neg w0]
      have hone : ∀ m, m < 256 → fX11_areAtOnce F τ0 (qN m) = some (bI (oneB (bvS σ) (nD σ) m)) := fun m _ => M_atOnce (by omega) T MqE.rfl m
      have hv5 : τ0 5 1 = qN (nD σ) := by rw [T.2.2.2.2.2.1, T.2.2.2.1]
      have hle := mb_le (one := oneB (bvS σ) (nD σ)) (2 ^ nD σ)
      have hlt : mbS (oneB (bvS σ) (nD σ)) (2 ^ nD σ) < 256 := by
        have h1 : ∀ n, n ≠ 0 → mbS (oneB (bvS σ) (nD σ)) n < n := by
          intro n
          induction n with
          | zero => intro h; exact absurd rfl h
          | succ n ih =>
            intro _
            rw [mbS]
            split
            · omega
            · have := mb_le (one := oneB (bvS σ) (nD σ)) n; omega
        have := h1 (2 ^ nD σ) (by omega)
        omega
      have hm := wpI (e := lp (fun (K5 : (Int32 × Int32) → Option (Int32 × St)) (v4 : Int32 × Int32) => if ((1 : Int32) <<< ((τ0 5 1) &&& 31)) ≤ v4.1 then (if w = (1 : Int32) then (bd1 (fX11_bitsOf F τ0 v4.2) fun r7 => some (r7, τ0)) else some (v4.2, τ0)) else bd1 (fX11_bitsOf F τ0 v4.1) fun r8 => bd1 (fX11_bitsOf F τ0 v4.2) fun r9 => if r8 ≤ r9 then (K5 ((v4.1 + 1, v4.2))) else bd1 (fX11_areAtOnce F τ0 v4.1) fun r10 => if r10 = 0 then (K5 ((v4.1 + 1, v4.2))) else K5 ((v4.1 + 1, v4.1))) F ((0, 0))) (P := fun x => x = ((if w = 1 then qN (pcN (mbS (oneB (bvS σ) (nD σ)) (2 ^ nD σ))) else qN (mbS (oneB (bvS σ) (nD σ)) (2 ^ nD σ))), τ0)) ?_
      · obtain ⟨x, hx, rfl⟩ := hm
        rw [hx, C_bitCount hlt, bd1_some]
        by_cases w1 : w = 1
        · rw [if_pos w1, if_pos w1]; exact G1_ok R0 rfl rfl rfl zE ME.rfl h4
        · rw [if_neg w1, if_neg w1]; exact G1_ok R0 rfl rfl rfl zE ME.rfl h4
      · intro Q hQ
        refine lp_up Q (fun n (v : Int32 × Int32) => v.1 = qN n ∧ v.2 = qN (mbS (oneB (bvS σ) (nD σ)) n)) (2 ^ nD σ) ?_ F 0 _ (by omega) (by omega) ⟨rfl, rfl⟩
        rintro n ⟨c, b⟩ K hn ⟨hc, hb⟩ hK
        dsimp only at hc hb
        subst hc hb
        dsimp only
        by_cases hnD : n = 2 ^ nD σ
        · refine wiT (by rw [hv5, sh_pow hD, hnD]; exact Int32.le_refl _) ?_
          rw [hnD]
          by_cases w1 : w = 1
          · refine wiT w1 (wb1 (M_bitsOf (by omega) hlt) (hQ _ ?_)); rw [if_pos w1]
          · refine wiF w1 (hQ _ ?_); rw [if_neg w1]
        · refine wiF (by rw [hv5, sh_pow hD, q_le (by omega) (by omega)]; omega) ?_
          have hle2 := mb_le (one := oneB (bvS σ) (nD σ)) n
          have hmb : mbS (oneB (bvS σ) (nD σ)) (n + 1) = if (decide (pcN (mbS (oneB (bvS σ) (nD σ)) n) < pcN n) && oneB (bvS σ) (nD σ) n) = true then n else mbS (oneB (bvS σ) (nD σ)) n := rfl
          refine wb1 (M_bitsOf (by omega) (by omega)) (wb1 (M_bitsOf (by omega) (by omega)) ?_)
          have l1 := pc_le ⟨n, by omega⟩
          have l2 := pc_le ⟨mbS (oneB (bvS σ) (nD σ)) n, by omega⟩
          dsimp only at l1 l2
          refine wi (fun h => ?_) fun h => ?_ <;> rw [q_le (by omega) (by omega)] at h
          · refine hK _ (by omega) ⟨q_add n 1, ?_⟩
            show qN _ = qN _
            rw [hmb, decide_eq_false (by omega)]; rfl
          · refine wb1 (hone n (by omega)) ?_
            rw [decide_eq_true (show pcN (mbS (oneB (bvS σ) (nD σ)) n) < pcN n by omega), Bool.true_and] at hmb
            cases ho : oneB (bvS σ) (nD σ) n with
            | false =>
              refine wiT (show bI false = 0 from rfl) (hK _ (by omega) ⟨q_add n 1, ?_⟩)
              show qN _ = qN _
              rw [hmb, ho]; rfl
            | true =>
              refine wiF (show ¬ bI true = 0 by decide) (hK _ (by omega) ⟨q_add n 1, ?_⟩)
              show qN _ = qN _
              rw [hmb, ho]; rfl
  · rw [if_neg hw, if_neg (by decide), if_neg (show ¬ (0 ≤ w ∧ w ≤ 2) by grind), if_pos rfl, M_fail]
    exact G1_no (by decide) R0 rfl rfl CE.rfl ME4 up4
end
