set_option linter.unusedVariables false
set_option linter.unusedSimpArgs false
set_option maxRecDepth 16384
/-! drafts of both; valleys, floors, limits -/
def okD (c j : Nat) : Bool := if c = 0 then !lJ j else if c < 5 then true else if c = 5 then decide (j < 4) else if c = 6 then decide (j < 6) else if c ≤ 10 then decide (j < 8) else if c ≤ 14 then decide (j < 80) else if c = 15 then decide (j < 700) else true
def FD (σ u : St) : Prop := ∀ c, ¬ (15 ≤ c ∧ c ≤ 26) → c ≠ 28 → u c = σ c
def FDm (τ w : St) : Prop := ∀ c j, okD c j = true → w c j = τ c j
theorem FD.rfl {σ : St} : FD σ σ := fun _ _ _ => Eq.refl _
theorem FD.trans {a b c : St} (h : FD a b) (k : FD b c) : FD a c := fun x h1 h2 => (k x h1 h2).trans (h x h1 h2)
theorem FDm.rfl {σ : St} : FDm σ σ := fun _ _ _ => Eq.refl _
theorem FDm.trans {a b c : St} (h : FDm a b) (k : FDm b c) : FDm a c := fun x j h1 => (k x j h1).trans (h x j h1)
theorem FX.fd {a b : St} (h : FX a b) : FD a b := fun c h1 h2 => h c (by omega) (by omega) h2
theorem FL.fd {a b : St} (h : FL a b) : FD a b := h.fx.fd
theorem FXm.fd {a b : St} (h : FXm a b) : FDm a b := by
  intro c j hj
  by_cases c0 : c = 0
  · subst c0; exact h.2.1 j (by simpa [okD] using hj)
  by_cases c5 : c = 5
  · subst c5; exact h.2.2.1 j (by simp [okD] at hj; omega)
  by_cases c15 : c = 15
  · subst c15; exact h.2.2.2 j (by simp [okD] at hj; omega)
  rw [h.1 c c0 c5 c15]
theorem FLm.fd {a b : St} (h : FLm a b) : FDm a b := h.fx.fd
theorem FD_up {σ : St} {c j : Nat} {x : Int32} (h : 15 ≤ c ∧ c ≤ 26) : FD σ (up σ c j x) := fun a h1 _ => up_ne _ _ _ (by rintro rfl; exact h1 h)
theorem FDm_up {σ : St} {c j : Nat} {x : Int32} (h : okD c j = false) : FDm σ (up σ c j x) := by
  intro a i hi
  by_cases ha : a = c
  · subst ha
    rw [up_same, upd_ne]
    rintro rfl; rw [h] at hi; cases hi
  · rw [up_ne _ _ _ ha]
def DS (σ τ : St) (p : Nat) : Prop := τ 11 (80 + p) = σ 21 p ∧ τ 12 (80 + p) = σ 22 p ∧ τ 13 (80 + p) = σ 23 p ∧ τ 14 (80 + p) = σ 24 p ∧ (0 ≤ σ 21 p ∧ σ 21 p ≤ 4) ∧ (0 ≤ σ 22 p ∧ σ 22 p ≤ 2) ∧ (0 ≤ σ 23 p ∧ σ 23 p ≤ 9) ∧ ∃ a, σ 24 p = qN a ∧ a < 8
def DN (σ τ : St) (V d : Nat) : Prop := τ 7 (8 + d) = σ 17 d ∧ τ 8 (8 + d) = σ 18 d ∧ τ 9 (8 + d) = σ 19 d ∧ τ 10 (8 + d) = σ 20 d ∧ (∃ a, σ 17 d = qN a ∧ a < V) ∧ (∃ b, σ 18 d = qN b ∧ b < V) ∧ σ 17 d ≠ σ 18 d ∧ (1 ≤ σ 19 d ∧ σ 19 d ≤ 4) ∧ ∃ S, S ≤ 10 ∧ σ 20 d = qN S ∧ ∀ i, i < S → DS σ τ (10 * d + i)
def DD (σ τ : St) (V D : Nat) : Prop := V ≤ 6 ∧ D ≤ 8 ∧ σ 15 0 = qN V ∧ τ 5 4 = qN V ∧ σ 15 1 = qN D ∧ τ 5 5 = qN D ∧ τ 5 6 = σ 15 2 ∧ (4 ≤ σ 15 2 ∧ σ 15 2 ≤ 20) ∧ (∀ v, v < V → τ 6 (6 + v) = σ 16 v ∧ 0 ≤ σ 16 v ∧ σ 16 v ≤ 9) ∧ ∀ d, d < D → DN σ τ V d
theorem DD.cg {σ τ u w : St} {V D : Nat} (h : DD σ τ V D) (h15 : ∀ j, j < 3 → u 15 j = σ 15 j) (hc : ∀ c, 16 ≤ c → c ≤ 24 → u c = σ c) (h5 : ∀ j, 4 ≤ j → j ≤ 6 → w 5 j = τ 5 j) (hm : ∀ c, 6 ≤ c → c ≤ 14 → w c = τ c) : DD u w V D := by
  unfold DD DN DS at h ⊢
  rw [h15 0 (by decide), h15 1 (by decide), h15 2 (by decide), h5 4 (by decide) (by decide), h5 5 (by decide) (by decide), h5 6 (by decide) (by decide),
    hc 16 (by decide) (by decide), hc 17 (by decide) (by decide), hc 18 (by decide) (by decide), hc 19 (by decide) (by decide), hc 20 (by decide) (by decide), hc 21 (by decide) (by decide), hc 22 (by decide) (by decide), hc 23 (by decide) (by decide), hc 24 (by decide) (by decide),
    hm 6 (by decide) (by decide), hm 7 (by decide) (by decide), hm 8 (by decide) (by decide), hm 9 (by decide) (by decide), hm 10 (by decide) (by decide), hm 11 (by decide) (by decide), hm 12 (by decide) (by decide), hm 13 (by decide) (by decide), hm 14 (by decide) (by decide)]
  exact h
theorem PL.cg {t : Nat → Int32} {n : Nat} {σ τ u w : St} {s : Nat} (h : PL t n σ τ s) (h1 : u 1 = σ 1) (h28 : u 28 = σ 28) (h0 : w 0 = τ 0) (h17 : w 17 = τ 17) : PL t n u w s := by
  unfold PL LexC LexM at h ⊢
  rw [h1, h28, h0, h17]; exact h
theorem XR.cg {t : Nat → Int32} {n : Nat} {σ τ u w : St} {s L h : Nat} (x : XR t n σ τ s L h) (h1 : u 1 = σ 1) (h28 : u 28 = σ 28) (h25 : u 25 = σ 25) (h26 : u 26 = σ 26) (h0 : w 0 = τ 0) (h17 : w 17 = τ 17) (h57 : w 5 7 = τ 5 7) (h15 : w 15 = τ 15) : XR t n u w s L h := by
  obtain ⟨x1, x2⟩ := x
  refine ⟨x1.cg h1 h28 h0 h17, ?_⟩
  rw [h25, h26, h57, h15]; exact x2
theorem BDp.w0 {u w y : St} (h : BDp u w) (e : y 0 = w 0) : BDp u y := by
  unfold BDp at h ⊢
  rw [e]; exact h
def bN (b : Bool) : Nat := if b then 1 else 0
def DR (t : Nat → Int32) (n : Nat) (σ τ : St) (s : Nat) (b3 b4 : Bool) : Prop := (∃ L, XR t n σ τ s L (bN b4) ∧ L ≤ s ∧ (b4 = false → L = 0)) ∧ σ 15 3 = bI b3 ∧ σ 15 4 = bI b4 ∧ ∃ V D, DD σ τ V D
def LO (t : Nat → Int32) (n : Nat) (σ τ : St) (s : Nat) (b3 b4 : Bool) (x : Int32 × St) (y : St) : Prop := FD σ x.2 ∧ FDm τ y ∧ ((x.1 = 1 ∧ ∃ s', s < s' ∧ DR t n x.2 y s' b3 b4) ∨ (x.1 = 0 ∧ BDp x.2 y))
theorem LO_ok {t : Nat → Int32} {n : Nat} {σ τ u y : St} {s s' : Nat} {b3 b4 : Bool} (h1 : FD σ u) (h2 : FDm τ y) (h3 : s < s') (h4 : DR t n u y s' b3 b4) : LO t n σ τ s b3 b4 (1, u) y := ⟨h1, h2, .inl ⟨rfl, s', h3, h4⟩⟩
theorem LO_no {t : Nat → Int32} {n : Nat} {σ τ u y : St} {s : Nat} {b3 b4 : Bool} (h1 : FD σ u) (h2 : FDm τ y) (h3 : BDp u y) : LO t n σ τ s b3 b4 (0, u) y := ⟨h1, h2, .inr ⟨rfl, h3⟩⟩
theorem LO_bad {t : Nat → Int32} {n : Nat} {σ τ : St} {s : Nat} {b3 b4 : Bool} {f g : Nat} (hf : 1 ≤ f ∧ f ≤ 5) : LO t n σ τ s b3 b4 (0, rfS σ f g) (wrS τ f g) := ⟨rf_FL.fd, wr_FLm.fd, .inr ⟨rfl, rw_BD hf⟩⟩
section
variable {F : Nat} {t : Nat → Int32} {n : Nat}
theorem DR.pl {σ τ : St} {s : Nat} {b3 b4 : Bool} (h : DR t n σ τ s b3 b4) : PL t n σ τ s := by
  obtain ⟨⟨L, x, _⟩, _⟩ := h; exact x.1
theorem P_valley (hF : 800 ≤ F) (hn : n ≤ 700) (hb : ∀ k, 0 ≤ t k ∧ t k ≤ 255) {σ τ : St} {s : Nat} {b3 b4 : Bool} (h : DR t n σ τ s b3 b4) (hk0 : kdA t n s ≠ 0) :
    ∃ x y, fX7_readValley F σ = some x ∧ fX11_readValley F τ = some y ∧ LO t n σ τ s b3 b4 x y := by
  have hP := h.pl
  obtain ⟨⟨L, x, hL, hL0⟩, e3, e4, V, D, d⟩ := h
  have d' := d
  obtain ⟨hV, hD, c0, m4, c1, m5, m6, hfl, hkn, hdn⟩ := d'
  have hs1 := (nx_le (t := t) hn hP.2.2.1).2.2.1 hk0
  unfold fX7_readValley fX11_readValley
  simp only [jn]
  rw [c0, m4]
  by_cases hV6 : V = 6
  · rw [if_neg (show ¬ qN V < 6 by rw [hV6]; decide), if_pos (show qN V = 6 by rw [hV6]; rfl), show fX7_refuse F σ 2 = some (0, rfS σ 2 s) from C_ref hP 2, bd2_some, ckB0, show fX11_wrong F τ 2 = some (wrS τ 2 s) from M_wr hP 2, bd1_some, if_neg (wr_bad (by decide))]
    exact ⟨_, _, rfl, rfl, LO_bad (by decide)⟩
  · rw [if_pos (show qN V < 6 by rw [show (6 : Int32) = qN 6 from rfl, q_lt (by omega) (by omega)]; omega), if_neg (show ¬ qN V = 6 by rw [show (6 : Int32) = qN 6 from rfl, q_eq (by omega) (by omega)]; exact hV6), if_pos hP.2.2.2]
    obtain ⟨u, w, hu, hw, hP1, fu, fw, _⟩ := P_next (F := F) hF hn hb hP
    rw [hu, hw, bd1_some, bd1_some]
    have w54 : w 5 4 = qN V := by rw [fw.1 5 (by decide)]; exact m4
    rcases P_num (F := F) hF hn hb hP1 (lo := 0) (hi := 9) (by decide) (by decide) with ⟨v, u', w', r1', r2', hlo, hhi, hP2, hs2, fu', fw', _⟩ | ⟨u', w', r1', r2', hbd, fu', fw'⟩
    · rw [show fX7_takeNumber F u 0 9 = some (qN v, u') from r1', show fX11_readNumber F w 0 9 = some (qN v, w') from r2', bd2_some, bd2_some]
      have x15 : u' 15 = σ 15 := by rw [fu' 15 (by decide), fu 15 (by decide)]
      have y5 : w' 5 = τ 5 := by rw [fw'.1 5 (by decide), fw.1 5 (by decide)]
      rw [if_neg (show ¬ qN v = -1 by intro hh; exact (q_neg1 (by omega)).1 hh), x15, c0, ck_ok (by omega) (by omega), q_clamp (by omega), w54, show (6 : Int32) + qN V = qN (6 + V) from q_add 6 V, ck_ok (by omega) (by omega), q_clamp (by omega)]
      simp only [nm]
      refine ⟨_, _, rfl, rfl, LO_ok (s' := nxA t n (nxA t n s)) ?_ ?_ (by omega) ⟨⟨L, ?_, by omega, hL0⟩, ?_, ?_, V + 1, D, ?_⟩⟩
      · exact (fu.trans fu').fd.trans ((FD_up (by decide)).trans (FD_up (by decide)))
      · exact (fw.trans fw').fd.trans ((FDm_up (by simp [okD])).trans (FDm_up (by decide)))
      · refine (x.lex hP2 (fu.trans fu') (fw.trans fw')).cg ?_ ?_ ?_ ?_ ?_ ?_ ?_ ?_
        · rw [up_ne _ _ _ (by decide), up_ne _ _ _ (by decide)]
        · rw [up_ne _ _ _ (by decide), up_ne _ _ _ (by decide)]
        · rw [up_ne _ _ _ (by decide), up_ne _ _ _ (by decide)]
        · rw [up_ne _ _ _ (by decide), up_ne _ _ _ (by decide)]
        · rw [up_ne _ _ _ (by decide), up_ne _ _ _ (by decide)]
        · rw [up_ne _ _ _ (by decide), up_ne _ _ _ (by decide)]
        · rw [up_same, upd_ne _ _ (by decide), up_ne _ _ _ (by decide)]
        · rw [up_ne _ _ _ (by decide), up_ne _ _ _ (by decide)]
      · rw [up_same, upd_ne _ _ (by decide), up_ne _ _ _ (by decide), x15]; exact e3
      · rw [up_same, upd_ne _ _ (by decide), up_ne _ _ _ (by decide), x15]; exact e4
      · have dl : DD u' w' V D := d.cg (fun j _ => by rw [x15]) (fun c _ _ => by rw [fu' c (by omega), fu c (by omega)]) (fun j _ _ => by rw [y5]) (fun c _ _ => by rw [fw'.1 c (by omega), fw.1 c (by omega)])
        obtain ⟨_, _, q0, q4, q1, q5, q6, qf, qk, qd⟩ := dl
        refine ⟨by omega, hD, ?_, ?_, ?_, ?_, ?_, ?_, ?_, ?_⟩
        · rw [up_same, upd_same, up_ne _ _ _ (by decide), q0]; exact q_add V 1
        · rw [up_same, upd_same, up_ne _ _ _ (by decide), q4]; exact q_add V 1
        · rw [up_same, upd_ne _ _ (by decide), up_ne _ _ _ (by decide)]; exact q1
        · rw [up_same, upd_ne _ _ (by decide), up_ne _ _ _ (by decide)]; exact q5
        · rw [up_same, upd_ne _ _ (by decide), up_ne _ _ _ (by decide), up_same, upd_ne _ _ (by decide), up_ne _ _ _ (by decide)]; exact q6
        · rw [up_same, upd_ne _ _ (by decide), up_ne _ _ _ (by decide)]; exact qf
        · intro k hk
          rw [up_ne _ _ _ (by decide), up_same, up_ne _ _ _ (by decide), up_same]
          by_cases hkV : k = V
          · subst hkV
            rw [upd_same, upd_same]
            refine ⟨rfl, ?_, ?_⟩
            · rw [show (0 : Int32) = qN 0 from rfl, q_le (by omega) (by omega)]; omega
            · rw [show (9 : Int32) = qN 9 from rfl, q_le (by omega) (by omega)]; omega
          · rw [upd_ne _ _ hkV, upd_ne _ _ (by omega)]; exact qk k (by omega)
        · intro k hk
          have := qd k hk
          unfold DN DS at this ⊢
          simp only [up_ne _ _ _ (show (17 : Nat) ≠ 15 by decide), up_ne _ _ _ (show (17 : Nat) ≠ 16 by decide), up_ne _ _ _ (show (18 : Nat) ≠ 15 by decide), up_ne _ _ _ (show (18 : Nat) ≠ 16 by decide), up_ne _ _ _ (show (19 : Nat) ≠ 15 by decide), up_ne _ _ _ (show (19 : Nat) ≠ 16 by decide), up_ne _ _ _ (show (20 : Nat) ≠ 15 by decide), up_ne _ _ _ (show (20 : Nat) ≠ 16 by decide), up_ne _ _ _ (show (21 : Nat) ≠ 15 by decide), up_ne _ _ _ (show (21 : Nat) ≠ 16 by decide), up_ne _ _ _ (show (22 : Nat) ≠ 15 by decide), up_ne _ _ _ (show (22 : Nat) ≠ 16 by decide), up_ne _ _ _ (show (23 : Nat) ≠ 15 by decide), up_ne _ _ _ (show (23 : Nat) ≠ 16 by decide), up_ne _ _ _ (show (24 : Nat) ≠ 15 by decide), up_ne _ _ _ (show (24 : Nat) ≠ 16 by decide), up_ne _ _ _ (show (7 : Nat) ≠ 5 by decide), up_ne _ _ _ (show (7 : Nat) ≠ 6 by decide), up_ne _ _ _ (show (8 : Nat) ≠ 5 by decide), up_ne _ _ _ (show (8 : Nat) ≠ 6 by decide), up_ne _ _ _ (show (9 : Nat) ≠ 5 by decide), up_ne _ _ _ (show (9 : Nat) ≠ 6 by decide), up_ne _ _ _ (show (10 : Nat) ≠ 5 by decide), up_ne _ _ _ (show (10 : Nat) ≠ 6 by decide), up_ne _ _ _ (show (11 : Nat) ≠ 5 by decide), up_ne _ _ _ (show (11 : Nat) ≠ 6 by decide), up_ne _ _ _ (show (12 : Nat) ≠ 5 by decide), up_ne _ _ _ (show (12 : Nat) ≠ 6 by decide), up_ne _ _ _ (show (13 : Nat) ≠ 5 by decide), up_ne _ _ _ (show (13 : Nat) ≠ 6 by decide), up_ne _ _ _ (show (14 : Nat) ≠ 5 by decide), up_ne _ _ _ (show (14 : Nat) ≠ 6 by decide)]
          obtain ⟨a1, a2, a3, a4, ⟨a, a5, a6⟩, ⟨b, b5, b6⟩, a7⟩ := this
          exact ⟨a1, a2, a3, a4, ⟨a, a5, by omega⟩, ⟨b, b5, by omega⟩, a7⟩
    · rw [show fX7_takeNumber F u 0 9 = some (-1, u') from r1', show fX11_readNumber F w 0 9 = some (0, w') from r2', bd2_some, bd2_some, if_pos rfl, w54, show (6 : Int32) + qN V = qN (6 + V) from q_add 6 V, ck_ok (by omega) (by omega), q_clamp (by omega)]
      simp only [nm]
      refine ⟨_, _, rfl, rfl, (fu.trans fu').fd, (fw.trans fw').fd.trans ((FDm_up (by simp [okD])).trans (FDm_up (by decide))), .inr ⟨rfl, hbd.w0 ?_⟩⟩
      rw [up_ne _ _ _ (by decide), up_ne _ _ _ (by decide)]
/-- the rest of a line that tells the floor, in the reference -/
theorem P_floor (hF : 800 ≤ F) (hn : n ≤ 700) (hb : ∀ k, 0 ≤ t k ∧ t k ≤ 255) {σ τ : St} {s : Nat} {b4 : Bool} (h : DR t n σ τ s false b4) (hk0 : kdA t n s ≠ 0) :
    ∃ x y, fX7_readFloor F σ = some x ∧ (∀ R : Type, ∀ J : St → Option R, (bd1 (fX11_stepOn F τ) fun u26 => bd2 (fX11_readNumber F u26 4 20) fun r23 u24 => nm (up u24 5 6 r23) fun u25 => J u25) = J y) ∧ LO t n σ τ s true b4 x y := by
  have hP := h.pl
  obtain ⟨⟨L, x, hL, hL0⟩, e3, e4, V, D, d⟩ := h
  have hs1 := (nx_le (t := t) hn hP.2.2.1).2.2.1 hk0
  obtain ⟨u, w, hu, hw, hP1, fu, fw, _⟩ := P_next (F := F) hF hn hb hP
  unfold fX7_readFloor
  rw [if_pos (show σ 15 3 = 0 from e3), hu, bd1_some]
  rcases P_num (F := F) hF hn hb hP1 (lo := 4) (hi := 20) (by decide) (by decide) with ⟨v, u', w', r1', r2', hlo, hhi, hP2, hs2, fu', fw', _⟩ | ⟨u', w', r1', r2', hbd, fu', fw'⟩
  · rw [show fX7_takeNumber F u 4 20 = some (qN v, u') from r1', bd2_some]
    have x15 : u' 15 = σ 15 := by rw [fu' 15 (by decide), fu 15 (by decide)]
    have y5 : w' 5 = τ 5 := by rw [fw'.1 5 (by decide), fw.1 5 (by decide)]
    rw [if_neg (show ¬ qN v = -1 by intro hh; exact (q_neg1 (by omega)).1 hh)]
    simp only [nm]
    refine ⟨_, up w' 5 6 (qN v), rfl, fun R J => ?_, LO_ok (s' := nxA t n (nxA t n s)) ?_ ?_ (by omega) ⟨⟨L, ?_, by omega, hL0⟩, ?_, ?_, V, D, ?_⟩⟩
    · rw [hw, bd1_some, show fX11_readNumber F w 4 20 = some (qN v, w') from r2', bd2_some]
    · exact (fu.trans fu').fd.trans ((FD_up (by decide)).trans (FD_up (by decide)))
    · exact (fw.trans fw').fd.trans (FDm_up (by decide))
    · refine (x.lex hP2 (fu.trans fu') (fw.trans fw')).cg ?_ ?_ ?_ ?_ ?_ ?_ ?_ ?_
      · rw [up_ne _ _ _ (by decide), up_ne _ _ _ (by decide)]
      · rw [up_ne _ _ _ (by decide), up_ne _ _ _ (by decide)]
      · rw [up_ne _ _ _ (by decide), up_ne _ _ _ (by decide)]
      · rw [up_ne _ _ _ (by decide), up_ne _ _ _ (by decide)]
      · rw [up_ne _ _ _ (by decide)]
      · rw [up_ne _ _ _ (by decide)]
      · rw [up_same, upd_ne _ _ (by decide)]
      · rw [up_ne _ _ _ (by decide)]
    · rw [up_same, upd_same]; rfl
    · rw [up_same, upd_ne _ _ (by decide), up_same, upd_ne _ _ (by decide), x15]; exact e4
    · have hA : ∀ j, up u' 15 2 (σ 15 2) 15 j = σ 15 j := fun j => by
        rw [up_same]
        by_cases hj2 : j = 2
        · subst hj2; rw [upd_same]
        · rw [upd_ne _ _ hj2, x15]
      have hB : ∀ j, up w' 5 6 (τ 5 6) 5 j = τ 5 j := fun j => by
        rw [up_same]
        by_cases hj2 : j = 6
        · subst hj2; rw [upd_same]
        · rw [upd_ne _ _ hj2, y5]
      have dl : DD (up u' 15 2 (σ 15 2)) (up w' 5 6 (τ 5 6)) V D := d.cg (fun j _ => hA j) (fun c _ _ => by rw [up_ne _ _ _ (by omega), fu' c (by omega), fu c (by omega)]) (fun j _ _ => hB j) (fun c _ _ => by rw [up_ne _ _ _ (by omega), fw'.1 c (by omega), fw.1 c (by omega)])
      obtain ⟨q1, q2, q3, q4, q5, q6, q7, q8, q9, q10⟩ := dl
      have hc : ∀ c, 16 ≤ c → c ≤ 24 → (up (up u' 15 2 (qN v)) 15 3 1) c = (up u' 15 2 (σ 15 2)) c := fun c _ _ => by rw [up_ne _ _ _ (by omega), up_ne _ _ _ (by omega), up_ne _ _ _ (by omega)]
      have hm : ∀ c, 6 ≤ c → c ≤ 14 → (up w' 5 6 (qN v)) c = (up w' 5 6 (τ 5 6)) c := fun c _ _ => by rw [up_ne _ _ _ (by omega), up_ne _ _ _ (by omega)]
      refine ⟨q1, q2, ?_, ?_, ?_, ?_, ?_, ?_, ?_, ?_⟩
      · rw [up_same, upd_ne _ _ (by decide), up_same, upd_ne _ _ (by decide)]; rw [up_same, upd_ne _ _ (by decide)] at q3; exact q3
      · rw [up_same, upd_ne _ _ (by decide)]; rw [up_same, upd_ne _ _ (by decide)] at q4; exact q4
      · rw [up_same, upd_ne _ _ (by decide), up_same, upd_ne _ _ (by decide)]; rw [up_same, upd_ne _ _ (by decide)] at q5; exact q5
      · rw [up_same, upd_ne _ _ (by decide)]; rw [up_same, upd_ne _ _ (by decide)] at q6; exact q6
      · rw [up_same, upd_same, up_same, upd_ne _ _ (by decide), up_same, upd_same]
      · rw [up_same, upd_ne _ _ (by decide), up_same, upd_same]
        refine ⟨?_, ?_⟩
        · rw [show (4 : Int32) = qN 4 from rfl, q_le (by omega) (by omega)]; exact hlo
        · rw [show (20 : Int32) = qN 20 from rfl, q_le (by omega) (by omega)]; exact hhi
      · rw [hc 16 (by decide) (by decide), hm 6 (by decide) (by decide)]; exact q9
      · intro k hk
        have := q10 k hk
        unfold DN DS at this ⊢
        rw [hc 17 (by decide) (by decide), hc 18 (by decide) (by decide), hc 19 (by decide) (by decide), hc 20 (by decide) (by decide), hc 21 (by decide) (by decide), hc 22 (by decide) (by decide), hc 23 (by decide) (by decide), hc 24 (by decide) (by decide), hm 7 (by decide) (by decide), hm 8 (by decide) (by decide), hm 9 (by decide) (by decide), hm 10 (by decide) (by decide), hm 11 (by decide) (by decide), hm 12 (by decide) (by decide), hm 13 (by decide) (by decide), hm 14 (by decide) (by decide)]
        exact this
  · rw [show fX7_takeNumber F u 4 20 = some (-1, u') from r1', bd2_some, if_pos rfl]
    refine ⟨_, up w' 5 6 0, rfl, fun R J => ?_, (fu.trans fu').fd, (fw.trans fw').fd.trans (FDm_up (by decide)), .inr ⟨rfl, hbd.w0 (by rw [up_ne _ _ _ (by decide)])⟩⟩
    rw [hw, bd1_some, show fX11_readNumber F w 4 20 = some (0, w') from r2', bd2_some]; rfl
theorem P_limit (hF : 800 ≤ F) (hn : n ≤ 700) (hb : ∀ k, 0 ≤ t k ∧ t k ≤ 255) {σ τ : St} {s : Nat} {b3 : Bool} (h : DR t n σ τ s b3 false) (hk0 : kdA t n s ≠ 0) :
    ∃ x y, fX7_readLimit F σ = some x ∧ (∀ R : Type, ∀ J : St → Option R, (bd1 (fX11_stepOn F τ) fun u26 => bd1 (fX11_readExpression F 10 u26 0) fun u22 => J u22) = J y) ∧ LO t n σ τ s b3 true x y := by
  have hP := h.pl
  obtain ⟨⟨L, x, hL, hL0⟩, e3, e4, V, D, d⟩ := h
  have hs1 := (nx_le (t := t) hn hP.2.2.1).2.2.1 hk0
  obtain ⟨u, w, hu, hw, hP1, fu, fw, _⟩ := P_next (F := F) hF hn hb hP
  unfold fX7_readLimit
  rw [if_pos (show σ 15 4 = 0 from e4), hu, bd1_some]
  simp only [nm]
  have x1 : XR t n (up u 15 4 1) w (nxA t n s) L 0 := (x.lex hP1 fu fw).cg (up_ne _ _ _ (by decide)) (up_ne _ _ _ (by decide)) (up_ne _ _ _ (by decide)) (up_ne _ _ _ (by decide)) rfl rfl rfl rfl
  obtain ⟨z, y, g1, g2, fz, fy, hor⟩ := P_expr (F := F) hF hn hb 9 0 (by decide) (by decide) (up u 15 4 1) w (nxA t n s) L 0 x1 (by omega) (by decide)
  obtain ⟨z0, z1⟩ := z
  dsimp only at fz hor
  rw [show fX7_readExpr F 10 (up u 15 4 1) 0 = some (z0, z1) from g1, bd2_some]
  have hJ : ∀ R : Type, ∀ J : St → Option R, (bd1 (fX11_stepOn F τ) fun u26 => bd1 (fX11_readExpression F 10 u26 0) fun u22 => J u22) = J y := fun R J => by
    rw [hw, bd1_some, show fX11_readExpression F 10 w 0 = some y from g2, bd1_some]
  have hfd : FD σ z1 := fu.fd.trans ((FD_up (by decide)).trans fz.fd)
  have hfm : FDm τ y := fw.fd.trans fy.fd
  rcases hor with ⟨rfl, s2, L2, i1, i2, i3⟩ | ⟨rfl, i1⟩
  · rw [ckB1]
    have x15 : z1 15 = upd (σ 15) 4 1 := by rw [fz 15 (by decide) (by decide) (by decide), up_same, fu 15 (by decide)]
    refine ⟨_, y, rfl, hJ, hfd, hfm, .inl ⟨rfl, s2, by omega, ⟨L2, i3, by have := hL0 rfl; omega, fun hh => by cases hh⟩, ?_, ?_, V, D, ?_⟩⟩
    · dsimp only; rw [x15, upd_ne _ _ (by decide)]; exact e3
    · dsimp only; rw [x15, upd_same]; rfl
    · exact d.cg (fun j _ => by dsimp only; rw [x15, upd_ne _ _ (by omega)]) (fun c _ _ => by dsimp only; rw [fz c (by omega) (by omega) (by omega), up_ne _ _ _ (by omega), fu c (by omega)]) (fun j _ _ => by rw [fy.2.2.1 j (by omega), fw.1 5 (by decide)]) (fun c _ _ => by rw [fy.1 c (by omega) (by omega) (by omega), fw.1 c (by omega)])
  · rw [ckB0]
    exact ⟨_, y, rfl, hJ, hfd, hfm, .inr ⟨rfl, i1⟩⟩
end
