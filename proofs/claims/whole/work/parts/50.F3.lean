set_option linter.unusedVariables false
set_option linter.unusedSimpArgs false
set_option maxRecDepth 16384
/-! see, feed -/
section
variable {F : Nat}
theorem C_hasPlace {σ : St} (x y : Int32) : fX0_hasPlace F σ x y = some (bI (decide (0 ≤ x ∧ x < σ 2 2) && decide (0 ≤ y ∧ y < σ 2 2))) := by
  unfold fX0_hasPlace
  by_cases h1 : x < 0
  · rw [if_pos h1, decide_eq_false (show ¬ (0 ≤ x ∧ x < σ 2 2) by grind)]; rfl
  rw [if_neg h1]
  by_cases h2 : σ 2 2 ≤ x
  · rw [if_pos h2, decide_eq_false (show ¬ (0 ≤ x ∧ x < σ 2 2) by grind)]; rfl
  rw [if_neg h2, decide_eq_true (show 0 ≤ x ∧ x < σ 2 2 by grind)]
  by_cases h3 : y < 0
  · rw [if_pos h3, decide_eq_false (show ¬ (0 ≤ y ∧ y < σ 2 2) by grind)]; rfl
  rw [if_neg h3]
  by_cases h4 : σ 2 2 ≤ y
  · rw [if_pos h4, decide_eq_false (show ¬ (0 ≤ y ∧ y < σ 2 2) by grind)]; rfl
  rw [if_neg h4, decide_eq_true (show 0 ≤ y ∧ y < σ 2 2 by grind)]; rfl
def wiS (σ : St) (n : Nat) (a b c d e : Int32) : St := up (up (up (up (up (up σ 36 n a) 37 n b) 38 n c) 39 n d) 40 n e) 30 2 (qN (n + 1))
theorem C_witness {σ : St} {n : Nat} (hn : σ 30 2 = qN n) (h8 : n < 8) (a b c d e : Int32) : fX9_witness F σ a b c d e = some (wiS σ n a b c d e) := by
  unfold fX9_witness wiS
  rw [if_pos (by rw [hn, show (8 : Int32) = qN 8 from rfl, q_lt (by omega) (by omega)]; exact h8)]
  simp only [nm]
  have z : ∀ (w : St) (k : Nat) (x : Int32), k ≠ 30 → up w k n x 30 2 = w 30 2 := fun w k x hk => by rw [up_ne _ _ _ (Ne.symm hk)]
  rw [hn, q_clamp (by omega), ck_ok h8 (by omega)]
  simp only [z _ 36 _ (by decide), z _ 37 _ (by decide), z _ 38 _ (by decide), z _ 39 _ (by decide), z _ 40 _ (by decide), hn, q_clamp (show n < 2147483648 by omega), ck_ok h8 (show n < 2147483648 by omega)]
  rw [show qN n + 1 = qN (n + 1) from q_add n 1]
def wiM (σ : St) (n : Nat) (a b c d e : Int32) : St := up (up (up (up (up (up σ 28 n a) 29 n b) 30 n c) 31 n d) 32 n e) 0 34 (qN (n + 1))
theorem Rl.see {σ τ : St} (R : Rl σ τ) {n : Nat} (h8 : n < 8) (h1 : σ 30 2 = qN n) (h2 : τ 0 34 = qN n) {d i : Nat} (hd : d < nD σ) (hi : i < nS σ d) {w : Int32} (hw : w = 0 ∨ w = 1) (x y : Int32) : Rl (wiS σ n (qN d) (qN i) w x y) (wiM τ n (qN d) (qN i) w x y) := by
  refine R.now (fun c hc => ?_) (fun c hc => ?_) (fun j hj => ?_) ?_
  · unfold wiS
    rw [up_ne _ _ _ (by omega), up_ne _ _ _ (by omega), up_ne _ _ _ (by omega), up_ne _ _ _ (by omega), up_ne _ _ _ (by omega), up_ne _ _ _ (by omega)]
  · have h5 : c ≠ 0 ∧ c ≠ 28 ∧ c ≠ 29 ∧ c ≠ 30 ∧ c ≠ 31 ∧ c ≠ 32 := by simp [okN] at hc; omega
    unfold wiM
    rw [up_ne _ _ _ (by omega), up_ne _ _ _ (by omega), up_ne _ _ _ (by omega), up_ne _ _ _ (by omega), up_ne _ _ _ (by omega), up_ne _ _ _ (by omega)]
  · have h5 : j ≠ 34 := by simp at hj; omega
    unfold wiM
    rw [up_same, upd_ne _ _ h5, up_ne _ _ _ (by decide), up_ne _ _ _ (by decide), up_ne _ _ _ (by decide), up_ne _ _ _ (by decide), up_ne _ _ _ (by decide)]
  · obtain ⟨n1, n2, ⟨n', hn', k1, k2, hs⟩, n4⟩ := R.2.2.1
    have hnn : n' = n := by rw [h1, q_eq (by omega) (by omega)] at k1; exact k1.symm
    subst hnn
    have nd : nD (wiS σ n' (qN d) (qN i) w x y) = nD σ := by unfold nD wiS; simp only [up_ne _ _ _ (show 2 ≠ 30 by decide), up_ne _ _ _ (show 2 ≠ 36 by decide), up_ne _ _ _ (show 2 ≠ 37 by decide), up_ne _ _ _ (show 2 ≠ 38 by decide), up_ne _ _ _ (show 2 ≠ 39 by decide), up_ne _ _ _ (show 2 ≠ 40 by decide)]
    have ns : nS (wiS σ n' (qN d) (qN i) w x y) = nS σ := by funext e; unfold nS wiS; simp only [up_ne _ _ _ (show 7 ≠ 30 by decide), up_ne _ _ _ (show 7 ≠ 36 by decide), up_ne _ _ _ (show 7 ≠ 37 by decide), up_ne _ _ _ (show 7 ≠ 38 by decide), up_ne _ _ _ (show 7 ≠ 39 by decide), up_ne _ _ _ (show 7 ≠ 40 by decide)]
    have c30 : ∀ j, j ≠ 2 → wiS σ n' (qN d) (qN i) w x y 30 j = σ 30 j := fun j hj => by
      unfold wiS; rw [up_same, upd_ne _ _ hj, up_ne _ _ _ (by decide), up_ne _ _ _ (by decide), up_ne _ _ _ (by decide), up_ne _ _ _ (by decide), up_ne _ _ _ (by decide)]
    have c302 : wiS σ n' (qN d) (qN i) w x y 30 2 = qN (n' + 1) := by unfold wiS; rw [up_same, upd_same]
    have cc : ∀ c, (c ≠ 30 ∧ c ≠ 36 ∧ c ≠ 37 ∧ c ≠ 38 ∧ c ≠ 39 ∧ c ≠ 40) → wiS σ n' (qN d) (qN i) w x y c = σ c := fun c h => by
      unfold wiS; rw [up_ne _ _ _ (by omega), up_ne _ _ _ (by omega), up_ne _ _ _ (by omega), up_ne _ _ _ (by omega), up_ne _ _ _ (by omega), up_ne _ _ _ (by omega)]
    have s36 : wiS σ n' (qN d) (qN i) w x y 36 = upd (σ 36) n' (qN d) := by unfold wiS; rw [up_ne _ _ _ (by decide), up_ne _ _ _ (by decide), up_ne _ _ _ (by decide), up_ne _ _ _ (by decide), up_ne _ _ _ (by decide), up_same]
    have s37 : wiS σ n' (qN d) (qN i) w x y 37 = upd (σ 37) n' (qN i) := by unfold wiS; rw [up_ne _ _ _ (by decide), up_ne _ _ _ (by decide), up_ne _ _ _ (by decide), up_ne _ _ _ (by decide), up_same, up_ne _ _ _ (by decide)]
    have s38 : wiS σ n' (qN d) (qN i) w x y 38 = upd (σ 38) n' w := by unfold wiS; rw [up_ne _ _ _ (by decide), up_ne _ _ _ (by decide), up_ne _ _ _ (by decide), up_same, up_ne _ _ _ (by decide), up_ne _ _ _ (by decide)]
    have s39 : wiS σ n' (qN d) (qN i) w x y 39 = upd (σ 39) n' x := by unfold wiS; rw [up_ne _ _ _ (by decide), up_ne _ _ _ (by decide), up_same, up_ne _ _ _ (by decide), up_ne _ _ _ (by decide), up_ne _ _ _ (by decide)]
    have s40 : wiS σ n' (qN d) (qN i) w x y 40 = upd (σ 40) n' y := by unfold wiS; rw [up_ne _ _ _ (by decide), up_same, up_ne _ _ _ (by decide), up_ne _ _ _ (by decide), up_ne _ _ _ (by decide), up_ne _ _ _ (by decide)]
    have m0 : ∀ j, j ≠ 34 → wiM τ n' (qN d) (qN i) w x y 0 j = τ 0 j := fun j hj => by
      unfold wiM; rw [up_same, upd_ne _ _ hj, up_ne _ _ _ (by decide), up_ne _ _ _ (by decide), up_ne _ _ _ (by decide), up_ne _ _ _ (by decide), up_ne _ _ _ (by decide)]
    have m034 : wiM τ n' (qN d) (qN i) w x y 0 34 = qN (n' + 1) := by unfold wiM; rw [up_same, upd_same]
    have mc : ∀ c, (c ≠ 0 ∧ c ≠ 28 ∧ c ≠ 29 ∧ c ≠ 30 ∧ c ≠ 31 ∧ c ≠ 32) → wiM τ n' (qN d) (qN i) w x y c = τ c := fun c h => by
      unfold wiM; rw [up_ne _ _ _ (by omega), up_ne _ _ _ (by omega), up_ne _ _ _ (by omega), up_ne _ _ _ (by omega), up_ne _ _ _ (by omega), up_ne _ _ _ (by omega)]
    have t28 : wiM τ n' (qN d) (qN i) w x y 28 = upd (τ 28) n' (qN d) := by unfold wiM; rw [up_ne _ _ _ (by decide), up_ne _ _ _ (by decide), up_ne _ _ _ (by decide), up_ne _ _ _ (by decide), up_ne _ _ _ (by decide), up_same]
    have t29 : wiM τ n' (qN d) (qN i) w x y 29 = upd (τ 29) n' (qN i) := by unfold wiM; rw [up_ne _ _ _ (by decide), up_ne _ _ _ (by decide), up_ne _ _ _ (by decide), up_ne _ _ _ (by decide), up_same, up_ne _ _ _ (by decide)]
    have t30 : wiM τ n' (qN d) (qN i) w x y 30 = upd (τ 30) n' w := by unfold wiM; rw [up_ne _ _ _ (by decide), up_ne _ _ _ (by decide), up_ne _ _ _ (by decide), up_same, up_ne _ _ _ (by decide), up_ne _ _ _ (by decide)]
    have t31 : wiM τ n' (qN d) (qN i) w x y 31 = upd (τ 31) n' x := by unfold wiM; rw [up_ne _ _ _ (by decide), up_ne _ _ _ (by decide), up_same, up_ne _ _ _ (by decide), up_ne _ _ _ (by decide), up_ne _ _ _ (by decide)]
    have t32 : wiM τ n' (qN d) (qN i) w x y 32 = upd (τ 32) n' y := by unfold wiM; rw [up_ne _ _ _ (by decide), up_same, up_ne _ _ _ (by decide), up_ne _ _ _ (by decide), up_ne _ _ _ (by decide), up_ne _ _ _ (by decide)]
    have hrow : rowM (wiM τ n' (qN d) (qN i) w x y) = rowM τ := by
      funext j; unfold rowM; rw [m0 31 (by decide), m0 32 (by decide), mc 18 (by decide), mc 13 (by decide), mc 19 (by decide)]
    unfold NowR
    rw [nd, ns, hrow, c30 0 (by decide), c30 1 (by decide), c302, cc 31 (by decide), cc 32 (by decide), cc 33 (by decide), cc 34 (by decide), cc 35 (by decide), cc 41 (by decide), s36, s37, s38, s39, s40, m0 33 (by decide), m034, mc 20 (by decide), mc 16 (by decide), t28, t29, t30, t31, t32]
    refine ⟨n1, n2, ⟨n' + 1, by omega, rfl, rfl, fun k hk => ?_⟩, n4⟩
    unfold SnR
    by_cases hkn : k = n'
    · subst hkn
      simp only [upd_same]
      exact ⟨trivial, trivial, trivial, trivial, trivial, ⟨d, i, rfl, hd, rfl, hi⟩, hw⟩
    · simp only [upd_ne _ _ hkn]
      exact hs k (by omega)
theorem sm_see : Sm_see F Rl := by
  intro σ τ a b w x y R
  show G1 1 _ _
  unfold fX10_see fX11_see
  refine wnG1 fun τ0 h0 => ?_
  have R0 : Rl σ τ0 := by rw [h0]; exact R.fr CE.rfl ME4
  have h4 : τ0 0 4 = 0 := by rw [h0]; exact up4
  clear h0
  have T := R0.2.1
  obtain ⟨t, m, ht, hm, hor⟩ := chkS (F := F) T a b
  rw [ht, hm, bd1_some, bd1_some]
  rcases hor with ⟨rfl, rfl, d, i, rfl, rfl, hd, hi⟩ | ⟨rfl, rfl⟩
  · rw [if_pos rfl, if_neg i10n]
    obtain ⟨n, hn8, k1, k2, _⟩ := R0.2.2.1.2.2.1
    simp only [jn]
    have href : G1 1 (bd2 (fX10_refuse F σ 2) fun r5 u6 => some (0, r5, u6)) (bd2 (fX11_refuse F τ0 2) fun r8 u9 => some (r8, u9)) := by
      rw [show (2 : Int32) = qN 2 from rfl, C_refuse (by decide), M_refuse (by decide)]
      refine ⟨_, _, _, rfl, .inl rfl, rfl, ?_, fun _ => rfl, R0.rf (by decide)⟩
      rw [if_pos rfl, up_ne _ _ _ (by decide)]; exact h4
    by_cases h8 : n = 8
    · have hc : (8 : Int32) ≤ σ 30 2 := by rw [k1, h8]; exact Int32.le_refl _
      have hc' : τ0 0 34 = 8 := by rw [k2, h8]; rfl
      simp only [if_pos hc, ite_self]
      rw [if_pos hc']
      exact href
    · have hc : ¬ (8 : Int32) ≤ σ 30 2 := by rw [k1, show (8 : Int32) = qN 8 from rfl, q_le (by omega) (by omega)]; omega
      have hc' : ¬ τ0 0 34 = 8 := by rw [k2, show (8 : Int32) = qN 8 from rfl, q_eq (by omega) (by omega)]; omega
      simp only [if_neg hc]
      rw [if_neg hc']
      have fin : (w = 0 ∨ w = 1) → G1 1 (bd1 (fX0_hasPlace F σ x y) fun r10 => if r10 = 0 then (bd2 (fX10_refuse F σ 2) fun r5 u6 => some (0, r5, u6)) else bd1 (fX9_witness F σ (qN d) (qN i) w x y) fun u11 => some (0, u11 30 2, u11)) (bd1 (fX11_isOn F τ0 x) fun r9 => if r9 = 0 then (bd2 (fX11_refuse F τ0 2) fun r8 u9 => some (r8, u9)) else bd1 (fX11_isOn F τ0 y) fun r10 => if r10 = 0 then (bd2 (fX11_refuse F τ0 2) fun r8 u9 => some (r8, u9)) else ckI (τ0 0 34) 8 (nm (up τ0 28 (Int32.toNatClampNeg (τ0 0 34)) (qN d)) fun u11 => ckI (u11 0 34) 8 (nm (up u11 29 (Int32.toNatClampNeg (u11 0 34)) (qN i)) fun u12 => ckI (u12 0 34) 8 (nm (up u12 30 (Int32.toNatClampNeg (u12 0 34)) w) fun u13 => ckI (u13 0 34) 8 (nm (up u13 31 (Int32.toNatClampNeg (u13 0 34)) x) fun u14 => ckI (u14 0 34) 8 (nm (up u14 32 (Int32.toNatClampNeg (u14 0 34)) y) fun u15 => nm (up u15 0 34 ((u15 0 34) + 1)) fun u17 => some (u17 0 34, u17))))))) := by
        intro hw
        rw [C_hasPlace, M_isOn, M_isOn, bd1_some, bd1_some, bd1_some, T.2.2.2.2.2.2.1]
        by_cases hx : 0 ≤ x ∧ x < σ 2 2
        · rw [decide_eq_true hx, if_pos hx, if_neg i10n]
          by_cases hy : 0 ≤ y ∧ y < σ 2 2
          · rw [decide_eq_true hy, if_pos hy, if_neg i10n, if_neg (show ¬ bI (true && true) = 0 by decide), C_witness k1 (by omega), bd1_some]
            simp only [nm]
            have z : ∀ (w : St) (k : Nat) (x : Int32), k ≠ 0 → up w k n x 0 34 = w 0 34 := fun w k x hk => by rw [up_ne _ _ _ (Ne.symm hk)]
            rw [k2, q_clamp (by omega), ck_ok (by omega) (by omega)]
            simp only [z _ 28 _ (by decide), z _ 29 _ (by decide), z _ 30 _ (by decide), z _ 31 _ (by decide), z _ 32 _ (by decide), k2, q_clamp (show n < 2147483648 by omega), ck_ok (show n < 8 by omega) (show n < 2147483648 by omega)]
            rw [show qN n + 1 = qN (n + 1) from q_add n 1]
            have RR := R0.see (by omega) k1 k2 hd hi hw x y
            refine ⟨_, _, _, rfl, .inl rfl, rfl, ?_, fun _ => ?_, RR⟩
            · rw [if_pos rfl, up_same, upd_ne _ _ (by decide), up_ne _ _ _ (by decide), up_ne _ _ _ (by decide), up_ne _ _ _ (by decide), up_ne _ _ _ (by decide), up_ne _ _ _ (by decide)]; exact h4
            · show wiS σ n (qN d) (qN i) w x y 30 2 = _
              unfold wiS
              rw [up_same, upd_same, up_same, upd_same]
          · rw [decide_eq_false hy, if_neg hy, if_pos rfl, if_pos (show bI (true && false) = 0 from rfl)]; exact href
        · rw [decide_eq_false hx, if_neg hx, if_pos rfl, if_pos (show bI (false && _) = 0 from rfl)]; exact href
      by_cases w0 : w = 0
      · rw [if_pos w0, if_neg i10n, if_neg (show ¬ w < 0 by rw [w0]; decide), if_neg (show ¬ 1 < w by rw [w0]; decide)]
        exact fin (.inl w0)
      rw [if_neg w0]
      by_cases w1 : w = 1
      · rw [if_pos w1, if_neg i10n, if_neg (show ¬ w < 0 by rw [w1]; decide), if_neg (show ¬ 1 < w by rw [w1]; decide)]
        exact fin (.inr w1)
      rw [if_neg w1, if_pos trivial]
      by_cases w2 : w < 0
      · rw [if_pos w2]; exact href
      · rw [if_neg w2, if_pos (show 1 < w by grind)]; exact href
  · rw [if_neg (by decide), if_pos rfl, M_fail]
    exact G1_no (by decide) R0 rfl rfl CE.rfl ME4 up4
/-! bytes -/
def byS (a : Int32) (j : Nat) : Int32 := ushr a (qN (24 - 8 * j)) &&& 255
def tpS (f : Nat → Int32) (T : Nat) (b : Nat → Int32) : Nat → Nat → Int32
  | 0 => f
  | k + 1 => upd (tpS f T b k) (T + k) (b k)
theorem tp_cat (f : Nat → Int32) (T : Nat) (b : Nat → Int32) (m : Nat) : ∀ n, tpS (tpS f T b m) (T + m) (fun k => b (m + k)) n = tpS f T b (m + n) := by
  intro n
  induction n with
  | zero => rfl
  | succ n ih =>
    show upd (tpS (tpS f T b m) (T + m) (fun k => b (m + k)) n) (T + m + n) (b (m + n)) = upd (tpS f T b (m + n)) (T + (m + n)) (b (m + n))
    rw [ih, Nat.add_assoc]
theorem tp_cg {f : Nat → Int32} {T : Nat} {b b' : Nat → Int32} : ∀ n, (∀ k, k < n → b k = b' k) → tpS f T b n = tpS f T b' n := by
  intro n
  induction n with
  | zero => intro _; rfl
  | succ n ih =>
    intro h
    show upd (tpS f T b n) (T + n) (b n) = upd (tpS f T b' n) (T + n) (b' n)
    rw [ih (fun k hk => h k (by omega)), h n (by omega)]
theorem by_rg (a : Int32) (j : Nat) : 0 ≤ byS a j ∧ byS a j ≤ 255 := by
  unfold byS
  obtain ⟨k, hk, e⟩ := pk_andE (ushr a (qN (24 - 8 * j))) (m := 255) 8 (by decide)
  rw [e]
  show 0 ≤ qN k ∧ qN k ≤ 255
  rw [show (0 : Int32) = qN 0 from rfl, show (255 : Int32) = qN 255 from rfl, q_le (by omega) (by omega), q_le (by omega) (by omega)]
  omega
theorem tp_rg {f : Nat → Int32} {T : Nat} {b : Nat → Int32} (hf : ∀ k, 0 ≤ f k ∧ f k ≤ 255) (hb : ∀ k, 0 ≤ b k ∧ b k ≤ 255) : ∀ n k, 0 ≤ tpS f T b n k ∧ tpS f T b n k ≤ 255 := by
  intro n
  induction n with
  | zero => exact hf
  | succ n ih =>
    intro k
    show 0 ≤ upd (tpS f T b n) (T + n) (b n) k ∧ _
    by_cases h : k = T + n
    · subst h; rw [tpS, upd_same]; exact hb n
    · rw [tpS, upd_ne _ _ h]; exact ih k
theorem C_addBytes (hF : 20 ≤ F) {σ : St} {T : Nat} (hT : σ 0 1 = qN T) (h7 : T + 4 ≤ 700) (a : Int32) : ∃ u, fX10_addBytes F σ a = some u ∧ (∀ c, c ≠ 0 → c ≠ 1 → u c = σ c) ∧ (∀ j, j ≠ 1 → u 0 j = σ 0 j) ∧ u 0 1 = qN (T + 4) ∧ u 1 = tpS (σ 1) T (byS a) 4 := by
  refine wpI fun Q hQ => ?_
  unfold fX10_addBytes
  refine lp_up Q (fun k (v : St × Int32) => v.2 = 24 - qN (8 * k) ∧ (∀ c, c ≠ 0 → c ≠ 1 → v.1 c = σ c) ∧ (∀ j, j ≠ 1 → v.1 0 j = σ 0 j) ∧ v.1 0 1 = qN (T + k) ∧ v.1 1 = tpS (σ 1) T (byS a) k) 4 ?_ F 0 _ (by omega) (by omega) ⟨rfl, fun _ _ _ => rfl, fun _ _ => rfl, hT, rfl⟩
  rintro k ⟨v, c⟩ K hk ⟨hc, e1, e2, e3, e4⟩ hK
  dsimp only at hc e1 e2 e3 e4
  subst hc
  dsimp only
  by_cases h4 : k = 4
  · subst h4
    rw [if_pos (by decide)]
    exact hQ _ ⟨e1, e2, e3, e4⟩
  · have hs : (24 : Int32) - qN (8 * k) = qN (24 - 8 * k) := q_sub (a := 24) (b := 8 * k) (by omega)
    rw [hs]
    refine wi (fun hz => ?_) fun _ => wi (fun hz => ?_) fun _ => wk (k := T + k) e3 (by omega) (by omega) (wn fun u4 h4' => wn fun u6 h6 => ?_)
    · rw [show (0 : Int32) = qN 0 from rfl, q_lt (by omega) (by omega)] at hz; omega
    · rw [e3, show (700 : Int32) = qN 700 from rfl, q_le (by omega) (by omega)] at hz; omega
    rw [e3, q_clamp (by omega)] at h4'
    refine hK _ (by omega) ⟨?_, ?_, ?_, ?_, ?_⟩
    · show qN (24 - 8 * k) + Int32.ofInt (-8) = 24 - qN (8 * (k + 1))
      rw [← hs, show Int32.ofInt (-8) = -qN 8 from rfl, show 8 * (k + 1) = 8 * k + 8 by omega, ← q_add]
      grind
    · intro c h0 h1; show u6 c = _; rw [h6, up_ne _ _ _ h0, h4', up_ne _ _ _ h1, e1 c h0 h1]
    · intro j hj; show u6 0 j = _; rw [h6, up_same, upd_ne _ _ hj, h4', up_ne _ _ _ (by decide), e2 j hj]
    · show u6 0 1 = _; rw [h6, up_same, upd_same, h4', up_ne _ _ _ (by decide), e3]; exact q_add _ 1
    · show u6 1 = _; rw [h6, up_ne _ _ _ (by decide), h4', up_same, e4]; rfl
theorem bt_255 {e : Nat} (he : e < 32) : bt 255 e = decide (e < 8) := by
  have : ∀ e : Fin 32, bt 255 e.1 = decide (e.1 < 8) := by decide
  exact this ⟨e, he⟩
theorem shr_b (a : Int32) {s : Nat} (hs : s ≤ 24) : (a >>> (qN s &&& 31)) &&& 255 = ushr a (qN s) &&& 255 := by
  have hs1 : ∀ d : Fin 32, ((qN d.1 &&& 31).toBitVec.smod 32).toNat = d.1 := by decide
  have hs2 : ∀ d : Fin 32, (((qN d.1).toUInt32 &&& Int32.toUInt32 31).toBitVec % 32).toNat = d.1 := by decide
  apply bt_ext
  intro e he
  rw [bt_and, bt_and, bt_255 he]
  by_cases h8 : e < 8
  · rw [decide_eq_true h8, Bool.and_true, Bool.and_true]
    unfold bt ushr
    rw [Int32.toBitVec_shiftRight, show ∀ (x y : BitVec 32), x.sshiftRight' y = x.sshiftRight y.toNat from fun _ _ => rfl, hs1 ⟨s, by omega⟩, BitVec.getLsbD_sshiftRight]
    show _ = ((a.toUInt32 >>> ((qN s).toUInt32 &&& Int32.toUInt32 31)).toBitVec).getLsbD e
    rw [UInt32.toBitVec_shiftRight, BitVec.ushiftRight_eq', hs2 ⟨s, by omega⟩, BitVec.getLsbD_ushiftRight]
    have h1 : ¬ 32 ≤ e := by omega
    have h2 : s + e < 32 := by omega
    simp [h1, h2]
  · rw [decide_eq_false h8, Bool.and_false, Bool.and_false]
def wdS (a0 a1 a2 a3 a4 : Int32) (m : Nat) : Int32 := if m = 0 then a0 else if m = 1 then a1 else if m = 2 then a2 else if m = 3 then a3 else a4
def fbS (a0 a1 a2 a3 a4 : Int32) (k : Nat) : Int32 := byS (wdS a0 a1 a2 a3 a4 (k / 4)) (k % 4)
theorem sm_feed (hF : 100 ≤ F) : Sm_feed F Rl := by
  intro σ τ a0 a1 a2 a3 a4 R
  show G0 _ _
  unfold fX10_feed fX11_feed
  refine wnG0 fun τ0 h0 => ?_
  have R0 : Rl σ τ0 := by rw [h0]; exact R.fr CE.rfl ME4
  clear h0
  have t1 := R0.1
  rw [t1.2.2.1]
  by_cases h : σ 0 1 + 20 ≤ 700
  · rw [if_pos h, if_pos h]
    obtain ⟨T, hT, hT2⟩ : ∃ T, σ 0 1 = qN T ∧ T + 20 ≤ 700 := by
      obtain ⟨T, hT, hlt⟩ := q_get0 t1.2.2.2.1.1
      refine ⟨T, hT, ?_⟩
      have h7 := t1.2.2.2.1.2
      rw [hT, show (700 : Int32) = qN 700 from rfl, q_le (by omega) (by omega)] at h7
      rw [hT, show (20 : Int32) = qN 20 from rfl, q_add, show (700 : Int32) = qN 700 from rfl, q_le (by omega) (by omega)] at h
      exact h
    obtain ⟨u1, e1, c1, z1, l1, p1⟩ := C_addBytes (F := F) (by omega) hT (by omega) a0
    obtain ⟨u2, e2, c2, z2, l2, p2⟩ := C_addBytes (F := F) (by omega) l1 (by omega) a1
    obtain ⟨u3, e3, c3, z3, l3, p3⟩ := C_addBytes (F := F) (by omega) l2 (by omega) a2
    obtain ⟨u4, e4, c4, z4, l4, p4⟩ := C_addBytes (F := F) (by omega) l3 (by omega) a3
    obtain ⟨u5, e5, c5, z5, l5, p5⟩ := C_addBytes (F := F) (by omega) l4 (by omega) a4
    rw [e1, bd1_some, e2, bd1_some, e3, bd1_some, e4, bd1_some, e5, bd1_some]
    have hp : u5 1 = tpS (σ 1) T (fbS a0 a1 a2 a3 a4) 20 := by
      rw [p5, p4, p3, p2, p1]
      have g := fun m n => tp_cat (σ 1) T (fbS a0 a1 a2 a3 a4) m n
      have k0 : tpS (σ 1) T (byS a0) 4 = tpS (σ 1) T (fbS a0 a1 a2 a3 a4) 4 := tp_cg 4 (fun k hk => by unfold fbS; rw [show k / 4 = 0 by omega, show k % 4 = k by omega]; rfl)
      rw [k0]
      have k1 : ∀ f : Nat → Int32, ∀ t, tpS f t (byS a1) 4 = tpS f t (fun k => fbS a0 a1 a2 a3 a4 (4 + k)) 4 := fun f t => tp_cg 4 (fun k hk => by unfold fbS; rw [show (4 + k) / 4 = 1 by omega, show (4 + k) % 4 = k by omega]; rfl)
      rw [k1, g 4 4]
      have k2 : ∀ f : Nat → Int32, ∀ t, tpS f t (byS a2) 4 = tpS f t (fun k => fbS a0 a1 a2 a3 a4 (8 + k)) 4 := fun f t => tp_cg 4 (fun k hk => by unfold fbS; rw [show (8 + k) / 4 = 2 by omega, show (8 + k) % 4 = k by omega]; rfl)
      rw [k2, g 8 4]
      have k3 : ∀ f : Nat → Int32, ∀ t, tpS f t (byS a3) 4 = tpS f t (fun k => fbS a0 a1 a2 a3 a4 (12 + k)) 4 := fun f t => tp_cg 4 (fun k hk => by unfold fbS; rw [show (12 + k) / 4 = 3 by omega, show (12 + k) % 4 = k by omega]; rfl)
      rw [k3, g 12 4]
      have k4 : ∀ f : Nat → Int32, ∀ t, tpS f t (byS a4) 4 = tpS f t (fun k => fbS a0 a1 a2 a3 a4 (16 + k)) 4 := fun f t => tp_cg 4 (fun k hk => by unfold fbS; rw [show (16 + k) / 4 = 4 by omega, show (16 + k) % 4 = k by omega]; rfl)
      rw [k4, g 16 4]
    have hm := wpI (e := lp (fun (K4 : (St × Int32) → Option (Int32 × St)) (v3 : St × Int32) => if (20 : Int32) ≤ v3.2 then (some (v3.1 0 18, v3.1)) else jn (fun v6 : Int32 => ckI (v3.1 0 18) 700 (nm (up v3.1 17 (Int32.toNatClampNeg (v3.1 0 18)) ((v6 >>> ((24 - (8 * (v3.2 - v3.2 / 4 * 4))) &&& 31)) &&& 255)) fun u9 => nm (up u9 0 18 ((u9 0 18) + 1)) fun u11 => K4 ((u11, v3.2 + 1)))) fun J7 => if (4 : Int32) ≤ v3.2 then (if (8 : Int32) ≤ v3.2 then (if (12 : Int32) ≤ v3.2 then (if (16 : Int32) ≤ v3.2 then (J7 a4) else J7 a3) else J7 a2) else J7 a1) else J7 a0) F ((τ0, 0))) (P := fun x => x.1 = qN (T + 20) ∧ (∀ c, c ≠ 0 → c ≠ 17 → x.2 c = τ0 c) ∧ (∀ j, j ≠ 18 → x.2 0 j = τ0 0 j) ∧ x.2 0 18 = qN (T + 20) ∧ x.2 17 = tpS (τ0 17) T (fbS a0 a1 a2 a3 a4) 20) ?_
    · obtain ⟨x, hx, x1, x2, x3, x4, x5⟩ := hm
      rw [hx]
      have hTT : T + 4 + 4 + 4 + 4 + 4 = T + 20 := by omega
      rw [hTT] at l5
      refine ⟨_, _, _, rfl, by rw [show x = (x.1, x.2) from rfl, x1, l5], ?_⟩
      have cc : ∀ c, c ≠ 0 → c ≠ 1 → u5 c = σ c := fun c h0 h1 => by rw [c5 c h0 h1, c4 c h0 h1, c3 c h0 h1, c2 c h0 h1, c1 c h0 h1]
      have zz : ∀ j, j ≠ 1 → u5 0 j = σ 0 j := fun j hj => by rw [z5 j hj, z4 j hj, z3 j hj, z2 j hj, z1 j hj]
      have nd : nD u5 = nD σ := by unfold nD; rw [cc 2 (by decide) (by decide)]
      have ns : nS u5 = nS σ := by funext d; unfold nS; rw [cc 7 (by decide) (by decide)]
      have hrow : rowM x.2 = rowM τ0 := by
        funext j; unfold rowM; rw [x3 31 (by decide), x3 32 (by decide), x2 18 (by decide) (by decide), x2 13 (by decide) (by decide), x2 19 (by decide) (by decide)]
      obtain ⟨r1, r2, r3, r4, r5⟩ := R0
      refine ⟨⟨?_, ?_, ?_, ?_, ?_⟩, ?_, ?_, ?_, ?_⟩
      · rw [x5, hp, t1.1]
      · rw [hp]; exact tp_rg t1.2.1 (fun k => by unfold fbS; exact by_rg _ _) 20
      · rw [x4, l5]
      · rw [l5, show (0 : Int32) = qN 0 from rfl, show (700 : Int32) = qN 700 from rfl, q_le (by omega) (by omega), q_le (by omega) (by omega)]; omega
      · rw [x3 27 (by decide), zz 2 (by decide)]; exact t1.2.2.2.2
      · simp only [Told, TDn, TSt, LimR, DXY, nV, nD, nS] at r2 ⊢
        rw [cc 2 (by decide) (by decide), cc 3 (by decide) (by decide), cc 4 (by decide) (by decide), cc 5 (by decide) (by decide), cc 6 (by decide) (by decide), cc 7 (by decide) (by decide), cc 8 (by decide) (by decide), cc 9 (by decide) (by decide), cc 11 (by decide) (by decide), cc 12 (by decide) (by decide), cc 13 (by decide) (by decide), x2 3 (by decide) (by decide), x2 4 (by decide) (by decide), x2 5 (by decide) (by decide), x2 6 (by decide) (by decide), x2 7 (by decide) (by decide), x2 8 (by decide) (by decide), x2 9 (by decide) (by decide), x2 10 (by decide) (by decide), x2 11 (by decide) (by decide), x2 12 (by decide) (by decide), x2 14 (by decide) (by decide), x2 15 (by decide) (by decide)]
        exact r2
      · unfold NowR at r3 ⊢
        rw [nd, ns, hrow, cc 30 (by decide) (by decide), cc 31 (by decide) (by decide), cc 32 (by decide) (by decide), cc 33 (by decide) (by decide), cc 34 (by decide) (by decide), cc 35 (by decide) (by decide), cc 36 (by decide) (by decide), cc 37 (by decide) (by decide), cc 38 (by decide) (by decide), cc 39 (by decide) (by decide), cc 40 (by decide) (by decide), cc 41 (by decide) (by decide), x2 20 (by decide) (by decide), x2 28 (by decide) (by decide), x2 29 (by decide) (by decide), x2 30 (by decide) (by decide), x2 31 (by decide) (by decide), x2 32 (by decide) (by decide), x2 16 (by decide) (by decide), x3 33 (by decide), x3 34 (by decide)]
        exact r3
      · unfold ImgR at r4 ⊢
        rw [nd, ns, zz 3 (by decide), cc 42 (by decide) (by decide), cc 43 (by decide) (by decide), cc 44 (by decide) (by decide), cc 45 (by decide) (by decide), cc 46 (by decide) (by decide), cc 47 (by decide) (by decide), cc 48 (by decide) (by decide), cc 49 (by decide) (by decide), cc 50 (by decide) (by decide), cc 51 (by decide) (by decide), cc 52 (by decide) (by decide), cc 53 (by decide) (by decide), x2 34 (by decide) (by decide), x2 35 (by decide) (by decide), x2 36 (by decide) (by decide), x2 37 (by decide) (by decide), x2 38 (by decide) (by decide), x2 39 (by decide) (by decide), x2 40 (by decide) (by decide), x2 41 (by decide) (by decide), x3 50 (by decide), x3 51 (by decide), x3 52 (by decide)]
        exact r4
      · rw [x3 38 (by decide), x2 27 (by decide) (by decide)]; exact r5
    · intro Q hQ
      refine lp_up Q (fun k (v : St × Int32) => v.2 = qN k ∧ (∀ c, c ≠ 0 → c ≠ 17 → v.1 c = τ0 c) ∧ (∀ j, j ≠ 18 → v.1 0 j = τ0 0 j) ∧ v.1 0 18 = qN (T + k) ∧ v.1 17 = tpS (τ0 17) T (fbS a0 a1 a2 a3 a4) k) 20 ?_ F 0 _ (by omega) (by omega) ⟨rfl, fun _ _ _ => rfl, fun _ _ => rfl, t1.2.2.1.trans hT, rfl⟩
      rintro k ⟨v, c⟩ K hk ⟨hc, g1, g2, g3, g4⟩ hK
      dsimp only at hc g1 g2 g3 g4
      subst hc
      dsimp only
      by_cases h20 : k = 20
      · subst h20
        rw [if_pos (by decide)]
        exact hQ _ ⟨g3, g1, g2, g3, g4⟩
      · rw [if_neg (by rw [show (20 : Int32) = qN 20 from rfl, q_le (by omega) (by omega)]; omega)]
        refine wj fun J hJ => ?_
        have hJq : Q (J (wdS a0 a1 a2 a3 a4 (k / 4))) := by
          rw [hJ, g3, ck_ok (by omega) (by omega), q_clamp (by omega)]
          refine wn fun u9 h9 => wn fun u11 h11 => hK _ (by omega) ⟨q_add k 1, ?_, ?_, ?_, ?_⟩
          · intro c h0 h17; show u11 c = _; rw [h11, up_ne _ _ _ h0, h9, up_ne _ _ _ h17, g1 c h0 h17]
          · intro j hj; show u11 0 j = _; rw [h11, up_same, upd_ne _ _ hj, h9, up_ne _ _ _ (by decide), g2 j hj]
          · show u11 0 18 = _; rw [h11, up_same, upd_same, h9, up_ne _ _ _ (by decide), g3]; exact q_add _ 1
          · show u11 17 = _
            have hsh : (24 : Int32) - 8 * (qN k - qN k / 4 * 4) = qN (24 - 8 * (k % 4)) := by
              rw [show (4 : Int32) = qN 4 from rfl, q_div (by omega) (by omega) (by omega), q_mul, q_sub (by omega), show (8 : Int32) = qN 8 from rfl, q_mul, show k - k / 4 * 4 = k % 4 by omega]
              exact q_sub (a := 24) (b := 8 * (k % 4)) (by omega)
            rw [h11, up_ne _ _ _ (by decide), h9, up_same, g4, hsh, shr_b _ (by omega)]
            rfl
        unfold wdS at hJq
        by_cases c4 : 4 ≤ k
        · rw [if_pos (show (4 : Int32) ≤ qN k by rw [show (4 : Int32) = qN 4 from rfl, q_le (by omega) (by omega)]; omega)]
          by_cases c8 : 8 ≤ k
          · rw [if_pos (show (8 : Int32) ≤ qN k by rw [show (8 : Int32) = qN 8 from rfl, q_le (by omega) (by omega)]; omega)]
            by_cases c12 : 12 ≤ k
            · rw [if_pos (show (12 : Int32) ≤ qN k by rw [show (12 : Int32) = qN 12 from rfl, q_le (by omega) (by omega)]; omega)]
              by_cases c16 : 16 ≤ k
              · rw [if_pos (show (16 : Int32) ≤ qN k by rw [show (16 : Int32) = qN 16 from rfl, q_le (by omega) (by omega)]; omega)]
                rw [if_neg (by omega), if_neg (by omega), if_neg (by omega), if_neg (by omega)] at hJq; exact hJq
              · rw [if_neg (show ¬ (16 : Int32) ≤ qN k by rw [show (16 : Int32) = qN 16 from rfl, q_le (by omega) (by omega)]; omega)]
                rw [if_neg (by omega), if_neg (by omega), if_neg (by omega), if_pos (by omega)] at hJq; exact hJq
            · rw [if_neg (show ¬ (12 : Int32) ≤ qN k by rw [show (12 : Int32) = qN 12 from rfl, q_le (by omega) (by omega)]; omega)]
              rw [if_neg (by omega), if_neg (by omega), if_pos (by omega)] at hJq; exact hJq
          · rw [if_neg (show ¬ (8 : Int32) ≤ qN k by rw [show (8 : Int32) = qN 8 from rfl, q_le (by omega) (by omega)]; omega)]
            rw [if_neg (by omega), if_pos (by omega)] at hJq; exact hJq
        · rw [if_neg (show ¬ (4 : Int32) ≤ qN k by rw [show (4 : Int32) = qN 4 from rfl, q_le (by omega) (by omega)]; omega)]
          rw [if_pos (by omega)] at hJq; exact hJq
  · rw [if_neg h, if_neg h]; exact ⟨_, _, _, rfl, rfl, R0⟩
end
