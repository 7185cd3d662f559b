set_option linter.unusedVariables false
set_option linter.unusedSimpArgs false
set_option maxRecDepth 16384
/-! undo, forget, see, image, restore, feed -/
theorem be_1 : fX11_be = beG 35 20 5520 := rfl
theorem be_2 : fX11_be_2 = beG 36 28 8 := rfl
theorem be_3 : fX11_be_3 = beG 37 29 8 := rfl
theorem be_4 : fX11_be_4 = beG 38 30 8 := rfl
theorem be_5 : fX11_be_5 = beG 39 31 8 := rfl
theorem be_6 : fX11_be_6 = beG 40 32 8 := rfl
theorem be_7 : fX11_be_7 = beG 41 16 3 := rfl
theorem be_8 : fX11_be_8 = beG 20 35 5520 := rfl
theorem be_9 : fX11_be_9 = beG 28 36 8 := rfl
theorem be_10 : fX11_be_10 = beG 29 37 8 := rfl
theorem be_11 : fX11_be_11 = beG 30 38 8 := rfl
theorem be_12 : fX11_be_12 = beG 31 39 8 := rfl
theorem be_13 : fX11_be_13 = beG 32 40 8 := rfl
theorem be_14 : fX11_be_14 = beG 16 41 3 := rfl
theorem acp_at (σ : St) (c k N : Nat) {j : Nat} (h : j < N) : acp σ c 0 k 0 N k j = σ c j := by
  have := acp_in σ c 0 k 0 N h
  rw [Nat.zero_add] at this
  exact this
def becG (s d : Nat) (F : Nat) (σ : St) : Option St := nm (up σ d 0 (σ s 0)) fun u2 => nm (up u2 d 1 (u2 s 1)) fun u4 => nm (up u4 d 2 (u4 s 2)) fun u6 => nm (acp u6 (s + 1) 0 (d + 1) 0 8) fun u7 => nm (acp u7 (s + 2) 0 (d + 2) 0 8) fun u8 => nm (acp u8 (s + 3) 0 (d + 3) 0 80) fun u9 => nm (acp u9 (s + 4) 0 (d + 4) 0 48) fun u10 => nm (acp u10 (s + 5) 0 (d + 5) 0 160) fun u11 => nm (acp u11 (s + 6) 0 (d + 6) 0 8) fun u12 => nm (acp u12 (s + 7) 0 (d + 7) 0 8) fun u13 => nm (acp u13 (s + 8) 0 (d + 8) 0 8) fun u14 => nm (acp u14 (s + 9) 0 (d + 9) 0 8) fun u15 => nm (acp u15 (s + 10) 0 (d + 10) 0 8) fun u16 => nm (acp u16 (s + 11) 0 (d + 11) 0 3) fun u17 => some u17
theorem bec_1 : fX9_become = becG 30 54 := rfl
theorem bec_2 : fX9_become_2 = becG 30 42 := rfl
theorem bec_3 : fX9_become_3 = becG 42 30 := rfl
theorem C_becG {s d : Nat} (h : s + 12 ≤ d ∨ d + 12 ≤ s) (F : Nat) (σ : St) : ∃ u, becG s d F σ = some u ∧ (∀ c, c < d ∨ d + 12 ≤ c → u c = σ c) ∧ (∀ j, j < 3 → u d j = σ s j) ∧ (∀ j, j < 8 → u (d + 1) j = σ (s + 1) j) ∧ (∀ j, j < 8 → u (d + 2) j = σ (s + 2) j) ∧ (∀ j, j < 80 → u (d + 3) j = σ (s + 3) j) ∧ (∀ j, j < 48 → u (d + 4) j = σ (s + 4) j) ∧ (∀ j, j < 160 → u (d + 5) j = σ (s + 5) j) ∧ (∀ j, j < 8 → u (d + 6) j = σ (s + 6) j) ∧ (∀ j, j < 8 → u (d + 7) j = σ (s + 7) j) ∧ (∀ j, j < 8 → u (d + 8) j = σ (s + 8) j) ∧ (∀ j, j < 8 → u (d + 9) j = σ (s + 9) j) ∧ (∀ j, j < 8 → u (d + 10) j = σ (s + 10) j) ∧ (∀ j, j < 3 → u (d + 11) j = σ (s + 11) j) := by
  refine ⟨_, rfl, ?_, ?_, ?_, ?_, ?_, ?_, ?_, ?_, ?_, ?_, ?_, ?_, ?_⟩
  · intro c hc
    rw [acp_ne _ _ _ _ _ _ (by omega), acp_ne _ _ _ _ _ _ (by omega), acp_ne _ _ _ _ _ _ (by omega), acp_ne _ _ _ _ _ _ (by omega), acp_ne _ _ _ _ _ _ (by omega), acp_ne _ _ _ _ _ _ (by omega), acp_ne _ _ _ _ _ _ (by omega), acp_ne _ _ _ _ _ _ (by omega), acp_ne _ _ _ _ _ _ (by omega), acp_ne _ _ _ _ _ _ (by omega), acp_ne _ _ _ _ _ _ (by omega), up_ne _ _ _ (by omega), up_ne _ _ _ (by omega), up_ne _ _ _ (by omega)]
  · intro j hj
    rw [acp_ne _ _ _ _ _ _ (by omega), acp_ne _ _ _ _ _ _ (by omega), acp_ne _ _ _ _ _ _ (by omega), acp_ne _ _ _ _ _ _ (by omega), acp_ne _ _ _ _ _ _ (by omega), acp_ne _ _ _ _ _ _ (by omega), acp_ne _ _ _ _ _ _ (by omega), acp_ne _ _ _ _ _ _ (by omega), acp_ne _ _ _ _ _ _ (by omega), acp_ne _ _ _ _ _ _ (by omega), acp_ne _ _ _ _ _ _ (by omega), up_same]
    rcases (by omega : j = 0 ∨ j = 1 ∨ j = 2) with rfl | rfl | rfl
    · rw [upd_ne _ _ (by decide), up_same, upd_ne _ _ (by decide), up_same, upd_same]
    · rw [upd_ne _ _ (by decide), up_same, upd_same, up_ne _ _ _ (by omega)]
    · rw [upd_same, up_ne _ _ _ (by omega), up_ne _ _ _ (by omega)]
  · intro j hj
    rw [acp_ne _ _ _ _ _ _ (by omega), acp_ne _ _ _ _ _ _ (by omega), acp_ne _ _ _ _ _ _ (by omega), acp_ne _ _ _ _ _ _ (by omega), acp_ne _ _ _ _ _ _ (by omega), acp_ne _ _ _ _ _ _ (by omega), acp_ne _ _ _ _ _ _ (by omega), acp_ne _ _ _ _ _ _ (by omega), acp_ne _ _ _ _ _ _ (by omega), acp_ne _ _ _ _ _ _ (by omega), acp_at _ _ _ _ hj, up_ne _ _ _ (by omega), up_ne _ _ _ (by omega), up_ne _ _ _ (by omega)]
  · intro j hj
    rw [acp_ne _ _ _ _ _ _ (by omega), acp_ne _ _ _ _ _ _ (by omega), acp_ne _ _ _ _ _ _ (by omega), acp_ne _ _ _ _ _ _ (by omega), acp_ne _ _ _ _ _ _ (by omega), acp_ne _ _ _ _ _ _ (by omega), acp_ne _ _ _ _ _ _ (by omega), acp_ne _ _ _ _ _ _ (by omega), acp_ne _ _ _ _ _ _ (by omega), acp_at _ _ _ _ hj, acp_ne _ _ _ _ _ _ (by omega), up_ne _ _ _ (by omega), up_ne _ _ _ (by omega), up_ne _ _ _ (by omega)]
  · intro j hj
    rw [acp_ne _ _ _ _ _ _ (by omega), acp_ne _ _ _ _ _ _ (by omega), acp_ne _ _ _ _ _ _ (by omega), acp_ne _ _ _ _ _ _ (by omega), acp_ne _ _ _ _ _ _ (by omega), acp_ne _ _ _ _ _ _ (by omega), acp_ne _ _ _ _ _ _ (by omega), acp_ne _ _ _ _ _ _ (by omega), acp_at _ _ _ _ hj, acp_ne _ _ _ _ _ _ (by omega), acp_ne _ _ _ _ _ _ (by omega), up_ne _ _ _ (by omega), up_ne _ _ _ (by omega), up_ne _ _ _ (by omega)]
  · intro j hj
    rw [acp_ne _ _ _ _ _ _ (by omega), acp_ne _ _ _ _ _ _ (by omega), acp_ne _ _ _ _ _ _ (by omega), acp_ne _ _ _ _ _ _ (by omega), acp_ne _ _ _ _ _ _ (by omega), acp_ne _ _ _ _ _ _ (by omega), acp_ne _ _ _ _ _ _ (by omega), acp_at _ _ _ _ hj, acp_ne _ _ _ _ _ _ (by omega), acp_ne _ _ _ _ _ _ (by omega), acp_ne _ _ _ _ _ _ (by omega), up_ne _ _ _ (by omega), up_ne _ _ _ (by omega), up_ne _ _ _ (by omega)]
  · intro j hj
    rw [acp_ne _ _ _ _ _ _ (by omega), acp_ne _ _ _ _ _ _ (by omega), acp_ne _ _ _ _ _ _ (by omega), acp_ne _ _ _ _ _ _ (by omega), acp_ne _ _ _ _ _ _ (by omega), acp_ne _ _ _ _ _ _ (by omega), acp_at _ _ _ _ hj, acp_ne _ _ _ _ _ _ (by omega), acp_ne _ _ _ _ _ _ (by omega), acp_ne _ _ _ _ _ _ (by omega), acp_ne _ _ _ _ _ _ (by omega), up_ne _ _ _ (by omega), up_ne _ _ _ (by omega), up_ne _ _ _ (by omega)]
  · intro j hj
    rw [acp_ne _ _ _ _ _ _ (by omega), acp_ne _ _ _ _ _ _ (by omega), acp_ne _ _ _ _ _ _ (by omega), acp_ne _ _ _ _ _ _ (by omega), acp_ne _ _ _ _ _ _ (by omega), acp_at _ _ _ _ hj, acp_ne _ _ _ _ _ _ (by omega), acp_ne _ _ _ _ _ _ (by omega), acp_ne _ _ _ _ _ _ (by omega), acp_ne _ _ _ _ _ _ (by omega), acp_ne _ _ _ _ _ _ (by omega), up_ne _ _ _ (by omega), up_ne _ _ _ (by omega), up_ne _ _ _ (by omega)]
  · intro j hj
    rw [acp_ne _ _ _ _ _ _ (by omega), acp_ne _ _ _ _ _ _ (by omega), acp_ne _ _ _ _ _ _ (by omega), acp_ne _ _ _ _ _ _ (by omega), acp_at _ _ _ _ hj, acp_ne _ _ _ _ _ _ (by omega), acp_ne _ _ _ _ _ _ (by omega), acp_ne _ _ _ _ _ _ (by omega), acp_ne _ _ _ _ _ _ (by omega), acp_ne _ _ _ _ _ _ (by omega), acp_ne _ _ _ _ _ _ (by omega), up_ne _ _ _ (by omega), up_ne _ _ _ (by omega), up_ne _ _ _ (by omega)]
  · intro j hj
    rw [acp_ne _ _ _ _ _ _ (by omega), acp_ne _ _ _ _ _ _ (by omega), acp_ne _ _ _ _ _ _ (by omega), acp_at _ _ _ _ hj, acp_ne _ _ _ _ _ _ (by omega), acp_ne _ _ _ _ _ _ (by omega), acp_ne _ _ _ _ _ _ (by omega), acp_ne _ _ _ _ _ _ (by omega), acp_ne _ _ _ _ _ _ (by omega), acp_ne _ _ _ _ _ _ (by omega), acp_ne _ _ _ _ _ _ (by omega), up_ne _ _ _ (by omega), up_ne _ _ _ (by omega), up_ne _ _ _ (by omega)]
  · intro j hj
    rw [acp_ne _ _ _ _ _ _ (by omega), acp_ne _ _ _ _ _ _ (by omega), acp_at _ _ _ _ hj, acp_ne _ _ _ _ _ _ (by omega), acp_ne _ _ _ _ _ _ (by omega), acp_ne _ _ _ _ _ _ (by omega), acp_ne _ _ _ _ _ _ (by omega), acp_ne _ _ _ _ _ _ (by omega), acp_ne _ _ _ _ _ _ (by omega), acp_ne _ _ _ _ _ _ (by omega), acp_ne _ _ _ _ _ _ (by omega), up_ne _ _ _ (by omega), up_ne _ _ _ (by omega), up_ne _ _ _ (by omega)]
  · intro j hj
    rw [acp_ne _ _ _ _ _ _ (by omega), acp_at _ _ _ _ hj, acp_ne _ _ _ _ _ _ (by omega), acp_ne _ _ _ _ _ _ (by omega), acp_ne _ _ _ _ _ _ (by omega), acp_ne _ _ _ _ _ _ (by omega), acp_ne _ _ _ _ _ _ (by omega), acp_ne _ _ _ _ _ _ (by omega), acp_ne _ _ _ _ _ _ (by omega), acp_ne _ _ _ _ _ _ (by omega), acp_ne _ _ _ _ _ _ (by omega), up_ne _ _ _ (by omega), up_ne _ _ _ (by omega), up_ne _ _ _ (by omega)]
  · intro j hj
    rw [acp_at _ _ _ _ hj, acp_ne _ _ _ _ _ _ (by omega), acp_ne _ _ _ _ _ _ (by omega), acp_ne _ _ _ _ _ _ (by omega), acp_ne _ _ _ _ _ _ (by omega), acp_ne _ _ _ _ _ _ (by omega), acp_ne _ _ _ _ _ _ (by omega), acp_ne _ _ _ _ _ _ (by omega), acp_ne _ _ _ _ _ _ (by omega), acp_ne _ _ _ _ _ _ (by omega), acp_ne _ _ _ _ _ _ (by omega), up_ne _ _ _ (by omega), up_ne _ _ _ (by omega), up_ne _ _ _ (by omega)]
theorem StR.go {D : Nat} {S : Nat → Nat} {q q1 : Q5} {row rows past row1 rows1 past1 : Nat → Int32} {acts seen acts' seen' acts1 seen1 acts1' seen1' : Int32} {sd ss sw sx sy sd' ss' sw' sx' sy' rf rf' sd1 ss1 sw1 sx1 sy1 sd1' ss1' sw1' sx1' sy1' rf1 rf1' : Nat → Int32} (hD : D ≤ 8) (hS : ∀ d, d < D → S d ≤ 10)
    (h : StR D S q row rows past acts seen acts' seen' sd ss sw sx sy sd' ss' sw' sx' sy' rf rf') (e : qe D S q q1) (g1 : ∀ j, j < 138 → row1 j = row j) (g2 : ∀ j, j < 160 → rows1 j = rows j) (g3 : ∀ j, j < 5520 → past1 j = past j) (g4 : acts1 = acts) (g5 : seen1 = seen) (g6 : acts1' = acts') (g7 : seen1' = seen')
    (a1 : ∀ j, j < 8 → sd1 j = sd j) (a2 : ∀ j, j < 8 → ss1 j = ss j) (a3 : ∀ j, j < 8 → sw1 j = sw j) (a4 : ∀ j, j < 8 → sx1 j = sx j) (a5 : ∀ j, j < 8 → sy1 j = sy j) (b1 : ∀ j, j < 8 → sd1' j = sd' j) (b2 : ∀ j, j < 8 → ss1' j = ss' j) (b3 : ∀ j, j < 8 → sw1' j = sw' j) (b4 : ∀ j, j < 8 → sx1' j = sx' j) (b5 : ∀ j, j < 8 → sy1' j = sy' j) (c1 : ∀ j, j < 3 → rf1 j = rf j) (c2 : ∀ j, j < 3 → rf1' j = rf' j) : StR D S q1 row1 rows1 past1 acts1 seen1 acts1' seen1' sd1 ss1 sw1 sx1 sy1 sd1' ss1' sw1' sx1' sy1' rf1 rf1' := by
  subst g4 g5 g6 g7
  obtain ⟨n1, ⟨A, hA, h1, h2, hch⟩, ⟨n, hn, k1, k2, hs⟩, n4⟩ := h
  refine ⟨n1.go hD hS e g1, ⟨A, hA, h1, h2, ChS.go (s := 0) hD hS A q q1 hch e (fun j hj => g2 j (by omega)) (fun j hj => g3 j (by omega))⟩, ⟨n, hn, k1, k2, fun k hk => ?_⟩, fun k hk => by rw [c1 k hk, c2 k hk]; exact n4 k hk⟩
  have := hs k hk
  unfold SnR at this ⊢
  rw [a1 k (by omega), a2 k (by omega), a3 k (by omega), a4 k (by omega), a5 k (by omega), b1 k (by omega), b2 k (by omega), b3 k (by omega), b4 k (by omega), b5 k (by omega)]
  exact this
section
variable {F : Nat}
theorem C_takeBack {σ : St} {D : Nat} {S : Nat → Nat} {B : Nat} (hA : σ 30 1 = qN (B + 1)) (hB : B < 40) (hD : D ≤ 8) (hS : ∀ d, d < D → S d ≤ 10) (hrv : rvS D S (σ 35) B) :
    ∃ u, fX9_takeBack F σ = some u ∧ (u 30 0, u 31, u 32, u 33, u 34) = unS (σ 35) B (σ 30 0, σ 31, σ 32, σ 33, σ 34) ∧ (∀ x, x ≠ 30 → x ≠ 31 → x ≠ 32 → x ≠ 33 → x ≠ 34 → u x = σ x) ∧ u 30 1 = qN B ∧ u 30 2 = σ 30 2 := by
  unfold fX9_takeBack
  rw [if_pos (by rw [hA, show (1 : Int32) = qN 1 from rfl, q_le (by omega) (by omega)]; omega)]
  simp only [nm]
  generalize hu2 : up σ 30 1 (σ 30 1 - 1) = u2
  have e1 : u2 30 1 = qN B := by rw [← hu2, up_same, upd_same, hA]; exact q_sub (a := B + 1) (b := 1) (by omega)
  have e0 : u2 30 0 = σ 30 0 := by rw [← hu2, up_same, upd_ne _ _ (by decide)]
  have e2 : u2 30 2 = σ 30 2 := by rw [← hu2, up_same, upd_ne _ _ (by decide)]
  have ec : ∀ x, x ≠ 30 → u2 x = σ x := fun x hx => by rw [← hu2, up_ne _ _ _ hx]
  rw [e1, show (4 : Int32) = qN 4 from rfl, q_mul, show B * 4 = 4 * B by omega, show qN (4 * B) + 1 = qN (4 * B + 1) from q_add _ 1, show qN (4 * B) + 2 = qN (4 * B + 2) from q_add _ 2, show qN (4 * B) + 3 = qN (4 * B + 3) from q_add _ 3]
  rw [ck_ok (by omega) (by omega), ck_ok (by omega) (by omega), ck_ok (by omega) (by omega), ck_ok (by omega) (by omega), q_clamp (by omega), q_clamp (by omega), q_clamp (by omega), q_clamp (by omega), ec 35 (by decide)]
  unfold unS
  rcases hrv with h | ⟨h, d, hd, hd8⟩ | ⟨h, d, hd, hd8⟩ | ⟨h, d, i, hd, hi, hdD, hiS⟩ | ⟨h, p, hp, hp8⟩
  · rw [if_pos h, if_pos h]
    refine ⟨_, rfl, ?_, ?_, ?_, ?_⟩
    · rw [up_same, upd_same, up_ne _ _ _ (by decide), up_ne _ _ _ (by decide), up_ne _ _ _ (by decide), up_ne _ _ _ (by decide), e0, ec 31 (by decide), ec 32 (by decide), ec 33 (by decide), ec 34 (by decide)]
    · intro x h0 _ _ _ _; rw [up_ne _ _ _ h0, ec x h0]
    · rw [up_same, upd_ne _ _ (by decide), e1]
    · rw [up_same, upd_ne _ _ (by decide), e2]
  · rw [if_neg (by rw [h]; decide), if_pos h, if_neg (by rw [h]; decide), if_pos h, hd, ck_ok (by omega) (by omega), ck_ok (by omega) (by omega), q_clamp (by omega)]
    refine ⟨_, rfl, ?_, ?_, ?_, ?_⟩
    · rw [up_same, up_ne _ _ _ (by decide), up_ne _ _ _ (by decide), up_ne _ _ _ (by decide), up_ne _ _ _ (by decide), up_same, up_ne _ _ _ (by decide), up_ne _ _ _ (by decide), up_ne _ _ _ (by decide), up_ne _ _ _ (by decide), e0, ec 31 (by decide), ec 32 (by decide), ec 33 (by decide), ec 34 (by decide)]
    · intro x h0 h1 h2 _ _; rw [up_ne _ _ _ h1, up_ne _ _ _ h2, ec x h0]
    · rw [up_ne _ _ _ (by decide), up_ne _ _ _ (by decide), e1]
    · rw [up_ne _ _ _ (by decide), up_ne _ _ _ (by decide), e2]
  · rw [if_neg (by rw [h]; decide), if_neg (by rw [h]; decide), if_pos h, if_neg (by rw [h]; decide), if_neg (by rw [h]; decide), if_pos h, hd, ck_ok (by omega) (by omega), q_clamp (by omega)]
    refine ⟨_, rfl, ?_, ?_, ?_, ?_⟩
    · rw [up_same, up_ne _ _ _ (by decide), up_ne _ _ _ (by decide), up_ne _ _ _ (by decide), up_ne _ _ _ (by decide), e0, ec 31 (by decide), ec 32 (by decide), ec 33 (by decide), ec 34 (by decide)]
    · intro x h0 _ h2 _ _; rw [up_ne _ _ _ h2, ec x h0]
    · rw [up_ne _ _ _ (by decide), e1]
    · rw [up_ne _ _ _ (by decide), e2]
  · have := hS d hdD
    rw [if_neg (by rw [h]; decide), if_neg (by rw [h]; decide), if_neg (by rw [h]; decide), if_pos h, if_neg (by rw [h]; decide), if_neg (by rw [h]; decide), if_neg (by rw [h]; decide), if_pos h, hd, hi, pl_c, bd1_some, ck_ok (by omega) (by omega), q_clamp (by omega), q_clamp (by omega), q_clamp (by omega)]
    refine ⟨_, rfl, ?_, ?_, ?_, ?_⟩
    · rw [up_same, up_ne _ _ _ (by decide), up_ne _ _ _ (by decide), up_ne _ _ _ (by decide), up_ne _ _ _ (by decide), e0, ec 31 (by decide), ec 32 (by decide), ec 33 (by decide), ec 34 (by decide)]
    · intro x h0 _ _ h3 _; rw [up_ne _ _ _ h3, ec x h0]
    · rw [up_ne _ _ _ (by decide), e1]
    · rw [up_ne _ _ _ (by decide), e2]
  · rw [if_neg (by rw [h]; decide), if_neg (by rw [h]; decide), if_neg (by rw [h]; decide), if_neg (by rw [h]; decide), if_neg (by rw [h]; decide), if_neg (by rw [h]; decide), if_neg (by rw [h]; decide), if_neg (by rw [h]; decide), hp, ck_ok (by omega) (by omega), ck_ok (by omega) (by omega), q_clamp (by omega)]
    refine ⟨_, rfl, ?_, ?_, ?_, ?_⟩
    · rw [up_same, up_ne _ _ _ (by decide), up_ne _ _ _ (by decide), up_ne _ _ _ (by decide), up_ne _ _ _ (by decide), e0, ec 31 (by decide), ec 32 (by decide), ec 33 (by decide), ec 34 (by decide)]
    · intro x h0 _ _ _ h4; rw [up_ne _ _ _ h4, ec x h0]
    · rw [up_ne _ _ _ (by decide), e1]
    · rw [up_ne _ _ _ (by decide), e2]
theorem sm_undo (hF : 6000 ≤ F) : Sm_undo F Rl := by
  intro σ τ R
  show G0 _ _
  unfold fX10_undo fX11_undo
  refine wnG0 fun τ0 h0 => ?_
  have R0 : Rl σ τ0 := by rw [h0]; exact R.fr CE.rfl ME4
  clear h0
  have T := R0.2.1
  obtain ⟨A, h40, hA, hA', hch⟩ := R0.2.2.1.2.1
  cases A with
  | zero =>
    rw [if_pos (show σ 30 1 = 0 from hA), if_pos (show τ0 0 33 = 0 from hA')]
    exact ⟨_, _, _, rfl, rfl, R0⟩
  | succ B =>
    have hS : ∀ d, d < nD σ → nS σ d ≤ 10 := fun d hd => (T.dd hd).2
    rw [if_neg (show ¬ σ 30 1 = 0 by rw [hA, show (0 : Int32) = qN 0 from rfl, q_eq (by omega) (by omega)]; omega), if_neg (show ¬ τ0 0 33 = 0 by rw [hA', show (0 : Int32) = qN 0 from rfl, q_eq (by omega) (by omega)]; omega)]
    obtain ⟨c1, c2, c3⟩ := hch
    obtain ⟨u, hu, u1, u2, u3, u4⟩ := C_takeBack (F := F) hA (by omega) T.2.2.2.2.1 hS c1
    simp only [nm]
    generalize hw : up τ0 0 33 (τ0 0 33 - 1) = w
    have w33 : w 0 33 = qN B := by rw [← hw, up_same, upd_same, hA']; exact q_sub (a := B + 1) (b := 1) (by omega)
    have w0 : ∀ j, j ≠ 33 → w 0 j = τ0 0 j := fun j hj => by rw [← hw, up_same, upd_ne _ _ hj]
    have wc : ∀ c, c ≠ 0 → w c = τ0 c := fun c hc => by rw [← hw, up_ne _ _ _ hc]
    rw [hu, bd1_some, w33, show (138 : Int32) = qN 138 from rfl, q_mul, un_1, M_unG (by decide) (by omega) w (by omega) (by decide), bd1_some]
    refine ⟨_, _, unT w 20 (138 * B), rfl, ?_, ?_⟩
    · rw [un_0 _ _ _ (by decide), w33, u3]
    · have nd : nD u = nD σ := by unfold nD; rw [u2 2 (by decide) (by decide) (by decide) (by decide) (by decide)]
      have ns : nS u = nS σ := by funext d; unfold nS; rw [u2 7 (by decide) (by decide) (by decide) (by decide) (by decide)]
      refine R0.now (fun x hx => u2 x (by omega) (by omega) (by omega) (by omega) (by omega)) (fun c hc => ?_) (fun j hj => ?_) ?_
      · have h5 : c ≠ 0 ∧ c ≠ 13 ∧ c ≠ 18 ∧ c ≠ 19 := by simp [okN] at hc; omega
        rw [un_ne _ _ _ h5, wc c h5.1]
      · have h5 : j ≠ 31 ∧ j ≠ 32 ∧ j ≠ 33 := by simp at hj; omega
        rw [un_0 _ _ _ ⟨h5.1, h5.2.1⟩, w0 j h5.2.2]
      · unfold NowR
        rw [nd, ns, u1]
        obtain ⟨n1, n2, n3, n4⟩ := R0.2.2.1
        refine ⟨c2.go T.2.2.2.2.1 hS qe.rfl (fun j hj => by rw [un_at _ _ (by decide) hj, wc 20 (by decide)]), ⟨B, by omega, u3, ?_, ?_⟩, ?_, ?_⟩
        · rw [un_0 _ _ _ (by decide), w33]
        · rw [u2 35 (by decide) (by decide) (by decide) (by decide) (by decide), un_ne _ _ _ (by decide), wc 20 (by decide)]; exact c3
        · rw [u4, u2 36 (by decide) (by decide) (by decide) (by decide) (by decide), u2 37 (by decide) (by decide) (by decide) (by decide) (by decide), u2 38 (by decide) (by decide) (by decide) (by decide) (by decide), u2 39 (by decide) (by decide) (by decide) (by decide) (by decide), u2 40 (by decide) (by decide) (by decide) (by decide) (by decide), un_0 _ _ _ (by decide), w0 34 (by decide), un_ne _ _ _ (by decide), un_ne _ _ _ (by decide), un_ne _ _ _ (by decide), un_ne _ _ _ (by decide), un_ne _ _ _ (by decide), wc 28 (by decide), wc 29 (by decide), wc 30 (by decide), wc 31 (by decide), wc 32 (by decide)]
          exact n3
        · rw [u2 41 (by decide) (by decide) (by decide) (by decide) (by decide), un_ne _ _ _ (by decide), wc 16 (by decide)]; exact n4
theorem sm_forget : Sm_forget F Rl := by
  intro σ τ R
  refine ⟨_, _, rfl, rfl, ?_⟩
  have R0 : Rl σ (up τ 0 4 0) := R.fr CE.rfl ME4
  generalize up τ 0 4 0 = τ0 at *
  refine R0.now (fun x hx => up_ne _ _ _ (by omega)) (fun c hc => up_ne _ _ _ (by intro h; subst h; exact absurd hc (by decide))) (fun j hj => by rw [up_same, upd_ne _ _ (by intro h; subst h; exact absurd hj (by decide))]) ?_
  obtain ⟨n1, n2, n3, n4⟩ := R0.2.2.1
  have nd : nD (up σ 30 2 0) = nD σ := by unfold nD; rw [up_ne _ _ _ (by decide)]
  have ns : nS (up σ 30 2 0) = nS σ := by funext d; unfold nS; rw [up_ne _ _ _ (by decide)]
  have hr : rowM (up τ0 0 34 0) = rowM τ0 := by
    funext j; unfold rowM; rw [up_same, upd_ne _ _ (by decide), upd_ne _ _ (by decide), up_ne _ _ _ (by decide), up_ne _ _ _ (by decide), up_ne _ _ _ (by decide)]
  unfold NowR
  rw [nd, ns, hr]
  simp only [up_ne _ _ _ (show 31 ≠ 30 by decide), up_ne _ _ _ (show 32 ≠ 30 by decide), up_ne _ _ _ (show 33 ≠ 30 by decide), up_ne _ _ _ (show 34 ≠ 30 by decide), up_ne _ _ _ (show 35 ≠ 30 by decide), up_ne _ _ _ (show 36 ≠ 30 by decide), up_ne _ _ _ (show 37 ≠ 30 by decide), up_ne _ _ _ (show 38 ≠ 30 by decide), up_ne _ _ _ (show 39 ≠ 30 by decide), up_ne _ _ _ (show 40 ≠ 30 by decide), up_ne _ _ _ (show 41 ≠ 30 by decide), up_ne _ _ _ (show 20 ≠ 0 by decide), up_ne _ _ _ (show 28 ≠ 0 by decide), up_ne _ _ _ (show 29 ≠ 0 by decide), up_ne _ _ _ (show 30 ≠ 0 by decide), up_ne _ _ _ (show 31 ≠ 0 by decide), up_ne _ _ _ (show 32 ≠ 0 by decide), up_ne _ _ _ (show 16 ≠ 0 by decide), up_same, upd_same, upd_ne _ _ (show 0 ≠ 2 by decide), upd_ne _ _ (show 1 ≠ 2 by decide), upd_ne _ _ (show 33 ≠ 34 by decide)]
  exact ⟨n1, n2, ⟨0, by decide, rfl, rfl, fun k hk => absurd hk (by omega)⟩, n4⟩
def im8 (τ : St) (L : List (Nat × Nat × Nat)) : St := L.foldl (fun u x => acp u x.2.1 0 x.1 0 x.2.2) τ
theorem M_image (hF : 6000 ≤ F) (τ : St) : ∃ u, fX11_image F τ = some u ∧ (∀ c, c ≠ 0 → (c < 34 ∨ 42 ≤ c) → u c = τ c) ∧ (∀ j, j ≠ 4 → j ≠ 50 → j ≠ 51 → j ≠ 52 → u 0 j = τ 0 j) ∧ (u 0 50 = 1 ∧ u 0 51 = τ 0 33 ∧ u 0 52 = τ 0 34) ∧ (∀ j, j < 138 → u 34 j = rowM τ j) ∧ (∀ j, j < 5520 → u 35 j = τ 20 j) ∧ (∀ j, j < 8 → u 36 j = τ 28 j) ∧ (∀ j, j < 8 → u 37 j = τ 29 j) ∧ (∀ j, j < 8 → u 38 j = τ 30 j) ∧ (∀ j, j < 8 → u 39 j = τ 31 j) ∧ (∀ j, j < 8 → u 40 j = τ 32 j) ∧ (∀ j, j < 3 → u 41 j = τ 16 j) := by
  unfold fX11_image
  simp only [nm]
  generalize hw : up (up (up (up τ 0 4 0) 0 50 1) 0 51 (up (up τ 0 4 0) 0 50 1 0 33)) 0 52 (up (up (up τ 0 4 0) 0 50 1) 0 51 (up (up τ 0 4 0) 0 50 1 0 33) 0 34) = w
  have wc : ∀ c, c ≠ 0 → w c = τ c := fun c hc => by rw [← hw, up_ne _ _ _ hc, up_ne _ _ _ hc, up_ne _ _ _ hc, up_ne _ _ _ hc]
  have w0 : ∀ j, j ≠ 4 → j ≠ 50 → j ≠ 51 → j ≠ 52 → w 0 j = τ 0 j := fun j h4 h50 h51 h52 => by rw [← hw, up_same, upd_ne _ _ h52, up_same, upd_ne _ _ h51, up_same, upd_ne _ _ h50, up_same, upd_ne _ _ h4]
  have w50 : w 0 50 = 1 := by rw [← hw, up_same, upd_ne _ _ (by decide), up_same, upd_ne _ _ (by decide), up_same, upd_same]
  have w51 : w 0 51 = τ 0 33 := by rw [← hw, up_same, upd_ne _ _ (by decide), up_same, upd_same, up_same, upd_ne _ _ (by decide), up_same, upd_ne _ _ (by decide)]
  have w52 : w 0 52 = τ 0 34 := by rw [← hw, up_same, upd_same, up_same, upd_ne _ _ (by decide), up_same, upd_ne _ _ (by decide), up_same, upd_ne _ _ (by decide)]
  have hrow : rowM w = rowM τ := by
    funext j; unfold rowM; rw [w0 31 (by decide) (by decide) (by decide) (by decide), w0 32 (by decide) (by decide) (by decide) (by decide), wc 18 (by decide), wc 13 (by decide), wc 19 (by decide)]
  rw [pk_3, show (0 : Int32) = qN 0 from rfl, M_pkG (by decide) (by omega) w (o := 0) (by omega) (by decide), bd1_some, be_1, be_2, be_3, be_4, be_5, be_6, be_7, M_beG (by decide) (by decide) (by omega), bd1_some, M_beG (by decide) (by decide) (by omega), bd1_some, M_beG (by decide) (by decide) (by omega), bd1_some, M_beG (by decide) (by decide) (by omega), bd1_some, M_beG (by decide) (by decide) (by omega), bd1_some, M_beG (by decide) (by decide) (by omega), bd1_some, M_beG (by decide) (by decide) (by omega), bd1_some]
  refine ⟨_, rfl, ?_, ?_, ⟨?_, ?_, ?_⟩, ?_, ?_, ?_, ?_, ?_, ?_, ?_, ?_⟩
  · intro c h0 hc
    rw [acp_ne _ _ _ _ _ _ (by omega), acp_ne _ _ _ _ _ _ (by omega), acp_ne _ _ _ _ _ _ (by omega), acp_ne _ _ _ _ _ _ (by omega), acp_ne _ _ _ _ _ _ (by omega), acp_ne _ _ _ _ _ _ (by omega), acp_ne _ _ _ _ _ _ (by omega), pk_ne _ _ _ (by omega), wc c h0]
  · intro j h4 h50 h51 h52
    rw [acp_ne _ _ _ _ _ _ (by decide), acp_ne _ _ _ _ _ _ (by decide), acp_ne _ _ _ _ _ _ (by decide), acp_ne _ _ _ _ _ _ (by decide), acp_ne _ _ _ _ _ _ (by decide), acp_ne _ _ _ _ _ _ (by decide), acp_ne _ _ _ _ _ _ (by decide), pk_ne _ _ _ (by decide), w0 j h4 h50 h51 h52]
  · rw [acp_ne _ _ _ _ _ _ (by decide), acp_ne _ _ _ _ _ _ (by decide), acp_ne _ _ _ _ _ _ (by decide), acp_ne _ _ _ _ _ _ (by decide), acp_ne _ _ _ _ _ _ (by decide), acp_ne _ _ _ _ _ _ (by decide), acp_ne _ _ _ _ _ _ (by decide), pk_ne _ _ _ (by decide), w50]
  · rw [acp_ne _ _ _ _ _ _ (by decide), acp_ne _ _ _ _ _ _ (by decide), acp_ne _ _ _ _ _ _ (by decide), acp_ne _ _ _ _ _ _ (by decide), acp_ne _ _ _ _ _ _ (by decide), acp_ne _ _ _ _ _ _ (by decide), acp_ne _ _ _ _ _ _ (by decide), pk_ne _ _ _ (by decide), w51]
  · rw [acp_ne _ _ _ _ _ _ (by decide), acp_ne _ _ _ _ _ _ (by decide), acp_ne _ _ _ _ _ _ (by decide), acp_ne _ _ _ _ _ _ (by decide), acp_ne _ _ _ _ _ _ (by decide), acp_ne _ _ _ _ _ _ (by decide), acp_ne _ _ _ _ _ _ (by decide), pk_ne _ _ _ (by decide), w52]
  · intro j hj
    have := pk_at w 0 (k := 34) (by decide) hj
    rw [Nat.zero_add, hrow] at this
    rw [acp_ne _ _ _ _ _ _ (by decide), acp_ne _ _ _ _ _ _ (by decide), acp_ne _ _ _ _ _ _ (by decide), acp_ne _ _ _ _ _ _ (by decide), acp_ne _ _ _ _ _ _ (by decide), acp_ne _ _ _ _ _ _ (by decide), acp_ne _ _ _ _ _ _ (by decide), this]
  · intro j hj
    rw [acp_ne _ _ _ _ _ _ (by decide), acp_ne _ _ _ _ _ _ (by decide), acp_ne _ _ _ _ _ _ (by decide), acp_ne _ _ _ _ _ _ (by decide), acp_ne _ _ _ _ _ _ (by decide), acp_ne _ _ _ _ _ _ (by decide), acp_at _ _ _ _ hj, pk_ne _ _ _ (by decide), wc 20 (by decide)]
  · intro j hj
    rw [acp_ne _ _ _ _ _ _ (by decide), acp_ne _ _ _ _ _ _ (by decide), acp_ne _ _ _ _ _ _ (by decide), acp_ne _ _ _ _ _ _ (by decide), acp_ne _ _ _ _ _ _ (by decide), acp_at _ _ _ _ hj, acp_ne _ _ _ _ _ _ (by decide), pk_ne _ _ _ (by decide), wc 28 (by decide)]
  · intro j hj
    rw [acp_ne _ _ _ _ _ _ (by decide), acp_ne _ _ _ _ _ _ (by decide), acp_ne _ _ _ _ _ _ (by decide), acp_ne _ _ _ _ _ _ (by decide), acp_at _ _ _ _ hj, acp_ne _ _ _ _ _ _ (by decide), acp_ne _ _ _ _ _ _ (by decide), pk_ne _ _ _ (by decide), wc 29 (by decide)]
  · intro j hj
    rw [acp_ne _ _ _ _ _ _ (by decide), acp_ne _ _ _ _ _ _ (by decide), acp_ne _ _ _ _ _ _ (by decide), acp_at _ _ _ _ hj, acp_ne _ _ _ _ _ _ (by decide), acp_ne _ _ _ _ _ _ (by decide), acp_ne _ _ _ _ _ _ (by decide), pk_ne _ _ _ (by decide), wc 30 (by decide)]
  · intro j hj
    rw [acp_ne _ _ _ _ _ _ (by decide), acp_ne _ _ _ _ _ _ (by decide), acp_at _ _ _ _ hj, acp_ne _ _ _ _ _ _ (by decide), acp_ne _ _ _ _ _ _ (by decide), acp_ne _ _ _ _ _ _ (by decide), acp_ne _ _ _ _ _ _ (by decide), pk_ne _ _ _ (by decide), wc 31 (by decide)]
  · intro j hj
    rw [acp_ne _ _ _ _ _ _ (by decide), acp_at _ _ _ _ hj, acp_ne _ _ _ _ _ _ (by decide), acp_ne _ _ _ _ _ _ (by decide), acp_ne _ _ _ _ _ _ (by decide), acp_ne _ _ _ _ _ _ (by decide), acp_ne _ _ _ _ _ _ (by decide), pk_ne _ _ _ (by decide), wc 32 (by decide)]
  · intro j hj
    rw [acp_at _ _ _ _ hj, acp_ne _ _ _ _ _ _ (by decide), acp_ne _ _ _ _ _ _ (by decide), acp_ne _ _ _ _ _ _ (by decide), acp_ne _ _ _ _ _ _ (by decide), acp_ne _ _ _ _ _ _ (by decide), acp_ne _ _ _ _ _ _ (by decide), pk_ne _ _ _ (by decide), wc 16 (by decide)]
theorem sm_image (hF : 6000 ≤ F) : Sm_image F Rl := by
  intro σ τ R
  unfold fX10_image
  obtain ⟨u, hu, m1, m2, ⟨m50, m51, m52⟩, m34, m35, m36, m37, m38, m39, m40, m41⟩ := M_image hF τ
  obtain ⟨v, hv, v1, v0, c1, c2, c3, c4, c5, c6, c7, c8, c9, c10, c11⟩ := C_becG (s := 30) (d := 42) (by decide) F σ
  rw [bec_2, hv, hu, bd1_some]
  refine ⟨_, _, rfl, rfl, ?_⟩
  have e0 : ∀ x, x < 42 → x ≠ 0 → up v 0 3 1 x = σ x := fun x hx h0 => by rw [up_ne _ _ _ h0, v1 x (by omega)]
  have e00 : ∀ j, j ≠ 3 → up v 0 3 1 0 j = σ 0 j := fun j hj => by rw [up_same, upd_ne _ _ hj, v1 0 (by omega)]
  have T := R.2.1
  have nd : nD (up v 0 3 1) = nD σ := by unfold nD; rw [e0 2 (by decide) (by decide)]
  have ns : nS (up v 0 3 1) = nS σ := by funext d; unfold nS; rw [e0 7 (by decide) (by decide)]
  have hS : ∀ d, d < nD σ → nS σ d ≤ 10 := fun d hd => (T.dd hd).2
  have hrow : rowM u = rowM τ := by
    funext j; unfold rowM; rw [m2 31 (by decide) (by decide) (by decide) (by decide), m2 32 (by decide) (by decide) (by decide) (by decide), m1 18 (by decide) (by decide), m1 13 (by decide) (by decide), m1 19 (by decide) (by decide)]
  obtain ⟨r1, r2, r3, r4, r5⟩ := R
  refine ⟨?_, ?_, ?_, .inr ⟨?_, m50, ?_⟩, ?_⟩
  · unfold TapR at r1 ⊢
    rw [e0 1 (by decide) (by decide), e00 1 (by decide), e00 2 (by decide), m1 17 (by decide) (by decide), m2 18 (by decide) (by decide) (by decide) (by decide), m2 27 (by decide) (by decide) (by decide) (by decide)]
    exact r1
  · simp only [Told, TDn, TSt, LimR, DXY, nV, nD, nS] at r2 ⊢
    rw [e0 2 (by decide) (by decide), e0 3 (by decide) (by decide), e0 4 (by decide) (by decide), e0 5 (by decide) (by decide), e0 6 (by decide) (by decide), e0 7 (by decide) (by decide), e0 8 (by decide) (by decide), e0 9 (by decide) (by decide), e0 11 (by decide) (by decide), e0 12 (by decide) (by decide), e0 13 (by decide) (by decide), m1 3 (by decide) (by decide), m1 4 (by decide) (by decide), m1 5 (by decide) (by decide), m1 6 (by decide) (by decide), m1 7 (by decide) (by decide), m1 8 (by decide) (by decide), m1 9 (by decide) (by decide), m1 10 (by decide) (by decide), m1 11 (by decide) (by decide), m1 12 (by decide) (by decide), m1 14 (by decide) (by decide), m1 15 (by decide) (by decide)]
    exact r2
  · unfold NowR at r3 ⊢
    rw [nd, ns, hrow, e0 30 (by decide) (by decide), e0 31 (by decide) (by decide), e0 32 (by decide) (by decide), e0 33 (by decide) (by decide), e0 34 (by decide) (by decide), e0 35 (by decide) (by decide), e0 36 (by decide) (by decide), e0 37 (by decide) (by decide), e0 38 (by decide) (by decide), e0 39 (by decide) (by decide), e0 40 (by decide) (by decide), e0 41 (by decide) (by decide), m1 20 (by decide) (by decide), m1 28 (by decide) (by decide), m1 29 (by decide) (by decide), m1 30 (by decide) (by decide), m1 31 (by decide) (by decide), m1 32 (by decide) (by decide), m1 16 (by decide) (by decide), m2 33 (by decide) (by decide) (by decide) (by decide), m2 34 (by decide) (by decide) (by decide) (by decide)]
    exact r3
  · rw [up_same, upd_same]
  · unfold ImgR
    rw [nd, ns, up_ne _ _ _ (show 42 ≠ 0 by decide), up_ne _ _ _ (show 43 ≠ 0 by decide), up_ne _ _ _ (show 44 ≠ 0 by decide), up_ne _ _ _ (show 45 ≠ 0 by decide), up_ne _ _ _ (show 46 ≠ 0 by decide), up_ne _ _ _ (show 47 ≠ 0 by decide), up_ne _ _ _ (show 48 ≠ 0 by decide), up_ne _ _ _ (show 49 ≠ 0 by decide), up_ne _ _ _ (show 50 ≠ 0 by decide), up_ne _ _ _ (show 51 ≠ 0 by decide), up_ne _ _ _ (show 52 ≠ 0 by decide), up_ne _ _ _ (show 53 ≠ 0 by decide), m51, m52]
    have hN := r3
    unfold NowR at hN
    refine StR.go T.2.2.2.2.1 hS hN ⟨v0 0 (by decide), c1, c2, fun d i hd hi => c3 _ (by have := hS d hd; have := T.2.2.2.2.1; omega), c4⟩ m34 c5 m35 (v0 1 (by decide)) (v0 2 (by decide)) rfl rfl c6 c7 c8 c9 c10 m36 m37 m38 m39 m40 c11 m41
  · rw [m2 38 (by decide) (by decide) (by decide) (by decide), m1 27 (by decide) (by decide)]; exact r5
theorem sm_restore (hF : 6000 ≤ F) : Sm_restore F Rl := by
  intro σ τ R
  show G0 _ _
  unfold fX10_restore fX11_restore
  refine wnG0 fun τ0 h0 => ?_
  have R0 : Rl σ τ0 := by rw [h0]; exact R.fr CE.rfl ME4
  clear h0
  have T := R0.2.1
  rcases R0.2.2.2.1 with ⟨i1, i2⟩ | ⟨i1, i2, hI⟩
  · rw [if_pos i1, if_pos i2]; exact ⟨_, _, _, rfl, rfl, R0⟩
  · rw [if_neg (by rw [i1]; decide), if_neg (by rw [i2]; decide)]
    simp only [nm]
    obtain ⟨v, hv, v1, v0, c1, c2, c3, c4, c5, c6, c7, c8, c9, c10, c11⟩ := C_becG (s := 42) (d := 30) (by decide) F σ
    generalize hw : up (up τ0 0 33 (τ0 0 51)) 0 34 (up τ0 0 33 (τ0 0 51) 0 52) = w
    have wc : ∀ c, c ≠ 0 → w c = τ0 c := fun c hc => by rw [← hw, up_ne _ _ _ hc, up_ne _ _ _ hc]
    have w0 : ∀ j, j ≠ 33 → j ≠ 34 → w 0 j = τ0 0 j := fun j h3 h4 => by rw [← hw, up_same, upd_ne _ _ h4, up_same, upd_ne _ _ h3]
    have w33 : w 0 33 = τ0 0 51 := by rw [← hw, up_same, upd_ne _ _ (by decide), up_same, upd_same]
    have w34 : w 0 34 = τ0 0 52 := by rw [← hw, up_same, upd_same, up_same, upd_ne _ _ (by decide)]
    rw [bec_3, hv, bd1_some, un_3, show (0 : Int32) = qN 0 from rfl, M_unG (by decide) (by omega) w (o := 0) (by omega) (by decide), bd1_some, be_8, be_9, be_10, be_11, be_12, be_13, be_14, M_beG (by decide) (by decide) (by omega), bd1_some, M_beG (by decide) (by decide) (by omega), bd1_some, M_beG (by decide) (by decide) (by omega), bd1_some, M_beG (by decide) (by decide) (by omega), bd1_some, M_beG (by decide) (by decide) (by omega), bd1_some, M_beG (by decide) (by decide) (by omega), bd1_some, M_beG (by decide) (by decide) (by omega), bd1_some]
    have nd : nD v = nD σ := by unfold nD; rw [v1 2 (by omega)]
    have ns : nS v = nS σ := by funext d; unfold nS; rw [v1 7 (by omega)]
    have hS : ∀ d, d < nD σ → nS σ d ≤ 10 := fun d hd => (T.dd hd).2
    refine ⟨_, _, _, rfl, rfl, R0.now (fun x hx => v1 x (by omega)) (fun c hc => ?_) (fun j hj => ?_) ?_⟩
    · have h5 : c ≠ 0 ∧ c ≠ 13 ∧ c ≠ 18 ∧ c ≠ 19 ∧ c ≠ 20 ∧ c ≠ 28 ∧ c ≠ 29 ∧ c ≠ 30 ∧ c ≠ 31 ∧ c ≠ 32 ∧ c ≠ 16 := by simp [okN] at hc; omega
      rw [acp_ne _ _ _ _ _ _ (by omega), acp_ne _ _ _ _ _ _ (by omega), acp_ne _ _ _ _ _ _ (by omega), acp_ne _ _ _ _ _ _ (by omega), acp_ne _ _ _ _ _ _ (by omega), acp_ne _ _ _ _ _ _ (by omega), acp_ne _ _ _ _ _ _ (by omega), un_ne _ _ _ (by omega), wc c h5.1]
    · have h5 : j ≠ 31 ∧ j ≠ 32 ∧ j ≠ 33 ∧ j ≠ 34 := by simp at hj; omega
      rw [acp_ne _ _ _ _ _ _ (by decide), acp_ne _ _ _ _ _ _ (by decide), acp_ne _ _ _ _ _ _ (by decide), acp_ne _ _ _ _ _ _ (by decide), acp_ne _ _ _ _ _ _ (by decide), acp_ne _ _ _ _ _ _ (by decide), acp_ne _ _ _ _ _ _ (by decide), un_0 _ _ _ ⟨h5.1, h5.2.1⟩, w0 j h5.2.2.1 h5.2.2.2]
    · have z0 : ∀ j, j ≠ 31 ∧ j ≠ 32 → im8 (unT w 34 0) [(20, 35, 5520), (28, 36, 8), (29, 37, 8), (30, 38, 8), (31, 39, 8), (32, 40, 8), (16, 41, 3)] 0 j = w 0 j := fun j hj => by
        unfold im8; simp only [List.foldl]
        rw [acp_ne _ _ _ _ _ _ (by decide), acp_ne _ _ _ _ _ _ (by decide), acp_ne _ _ _ _ _ _ (by decide), acp_ne _ _ _ _ _ _ (by decide), acp_ne _ _ _ _ _ _ (by decide), acp_ne _ _ _ _ _ _ (by decide), acp_ne _ _ _ _ _ _ (by decide), un_0 _ _ _ hj]
      have hrow : ∀ j, j < 138 → rowM (im8 (unT w 34 0) [(20, 35, 5520), (28, 36, 8), (29, 37, 8), (30, 38, 8), (31, 39, 8), (32, 40, 8), (16, 41, 3)]) j = τ0 34 j := fun j hj => by
        have := un_at w 0 (k := 34) (by decide) hj
        rw [Nat.zero_add, wc 34 (by decide)] at this
        rw [← this]
        unfold im8; simp only [List.foldl]
        unfold rowM
        rw [acp_ne _ _ _ _ _ _ (show (0 : Nat) ≠ 16 by decide), acp_ne _ _ _ _ _ _ (show (0 : Nat) ≠ 32 by decide), acp_ne _ _ _ _ _ _ (show (0 : Nat) ≠ 31 by decide), acp_ne _ _ _ _ _ _ (show (0 : Nat) ≠ 30 by decide), acp_ne _ _ _ _ _ _ (show (0 : Nat) ≠ 29 by decide), acp_ne _ _ _ _ _ _ (show (0 : Nat) ≠ 28 by decide), acp_ne _ _ _ _ _ _ (show (0 : Nat) ≠ 20 by decide), acp_ne _ _ _ _ _ _ (show 18 ≠ 16 by decide), acp_ne _ _ _ _ _ _ (show 18 ≠ 32 by decide), acp_ne _ _ _ _ _ _ (show 18 ≠ 31 by decide), acp_ne _ _ _ _ _ _ (show 18 ≠ 30 by decide), acp_ne _ _ _ _ _ _ (show 18 ≠ 29 by decide), acp_ne _ _ _ _ _ _ (show 18 ≠ 28 by decide), acp_ne _ _ _ _ _ _ (show 18 ≠ 20 by decide), acp_ne _ _ _ _ _ _ (show 13 ≠ 16 by decide), acp_ne _ _ _ _ _ _ (show 13 ≠ 32 by decide), acp_ne _ _ _ _ _ _ (show 13 ≠ 31 by decide), acp_ne _ _ _ _ _ _ (show 13 ≠ 30 by decide), acp_ne _ _ _ _ _ _ (show 13 ≠ 29 by decide), acp_ne _ _ _ _ _ _ (show 13 ≠ 28 by decide), acp_ne _ _ _ _ _ _ (show 13 ≠ 20 by decide), acp_ne _ _ _ _ _ _ (show 19 ≠ 16 by decide), acp_ne _ _ _ _ _ _ (show 19 ≠ 32 by decide), acp_ne _ _ _ _ _ _ (show 19 ≠ 31 by decide), acp_ne _ _ _ _ _ _ (show 19 ≠ 30 by decide), acp_ne _ _ _ _ _ _ (show 19 ≠ 29 by decide), acp_ne _ _ _ _ _ _ (show 19 ≠ 28 by decide), acp_ne _ _ _ _ _ _ (show 19 ≠ 20 by decide)]
      unfold NowR
      rw [nd, ns]
      unfold ImgR at hI
      refine StR.go T.2.2.2.2.1 hS hI ⟨v0 0 (by decide), c1, c2, fun d i hd hi => c3 _ (by have := hS d hd; have := T.2.2.2.2.1; omega), c4⟩ hrow c5 (fun j hj => ?_) (v0 1 (by decide)) (v0 2 (by decide)) ((z0 33 (by decide)).trans w33) ((z0 34 (by decide)).trans w34) c6 c7 c8 c9 c10 (fun j hj => ?_) (fun j hj => ?_) (fun j hj => ?_) (fun j hj => ?_) (fun j hj => ?_) c11 (fun j hj => ?_)
      · rw [acp_ne _ _ _ _ _ _ (by decide), acp_ne _ _ _ _ _ _ (by decide), acp_ne _ _ _ _ _ _ (by decide), acp_ne _ _ _ _ _ _ (by decide), acp_ne _ _ _ _ _ _ (by decide), acp_ne _ _ _ _ _ _ (by decide), acp_at _ _ _ _ hj, un_ne _ _ _ (by decide), wc 35 (by decide)]
      · rw [acp_ne _ _ _ _ _ _ (by decide), acp_ne _ _ _ _ _ _ (by decide), acp_ne _ _ _ _ _ _ (by decide), acp_ne _ _ _ _ _ _ (by decide), acp_ne _ _ _ _ _ _ (by decide), acp_at _ _ _ _ hj, acp_ne _ _ _ _ _ _ (by decide), un_ne _ _ _ (by decide), wc 36 (by decide)]
      · rw [acp_ne _ _ _ _ _ _ (by decide), acp_ne _ _ _ _ _ _ (by decide), acp_ne _ _ _ _ _ _ (by decide), acp_ne _ _ _ _ _ _ (by decide), acp_at _ _ _ _ hj, acp_ne _ _ _ _ _ _ (by decide), acp_ne _ _ _ _ _ _ (by decide), un_ne _ _ _ (by decide), wc 37 (by decide)]
      · rw [acp_ne _ _ _ _ _ _ (by decide), acp_ne _ _ _ _ _ _ (by decide), acp_ne _ _ _ _ _ _ (by decide), acp_at _ _ _ _ hj, acp_ne _ _ _ _ _ _ (by decide), acp_ne _ _ _ _ _ _ (by decide), acp_ne _ _ _ _ _ _ (by decide), un_ne _ _ _ (by decide), wc 38 (by decide)]
      · rw [acp_ne _ _ _ _ _ _ (by decide), acp_ne _ _ _ _ _ _ (by decide), acp_at _ _ _ _ hj, acp_ne _ _ _ _ _ _ (by decide), acp_ne _ _ _ _ _ _ (by decide), acp_ne _ _ _ _ _ _ (by decide), acp_ne _ _ _ _ _ _ (by decide), un_ne _ _ _ (by decide), wc 39 (by decide)]
      · rw [acp_ne _ _ _ _ _ _ (by decide), acp_at _ _ _ _ hj, acp_ne _ _ _ _ _ _ (by decide), acp_ne _ _ _ _ _ _ (by decide), acp_ne _ _ _ _ _ _ (by decide), acp_ne _ _ _ _ _ _ (by decide), acp_ne _ _ _ _ _ _ (by decide), un_ne _ _ _ (by decide), wc 40 (by decide)]
      · rw [acp_at _ _ _ _ hj, acp_ne _ _ _ _ _ _ (by decide), acp_ne _ _ _ _ _ _ (by decide), acp_ne _ _ _ _ _ _ (by decide), acp_ne _ _ _ _ _ _ (by decide), acp_ne _ _ _ _ _ _ (by decide), acp_ne _ _ _ _ _ _ (by decide), un_ne _ _ _ (by decide), wc 41 (by decide)]
end
