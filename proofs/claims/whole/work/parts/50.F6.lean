set_option linter.unusedVariables false
set_option linter.unusedSimpArgs false
set_option maxRecDepth 16384
/-! mend by two, of both sides -/
section
variable {F d S : Nat} {fl k0 k1 : Int32} {kd wh ns : Nat → Int32}
theorem C_firstCouple (hF : 20 ≤ F) (hB : PB S k0 k1 kd wh ns) {σ : St} (hC : CP σ d S fl k0 k1 kd wh ns) {p : Po} (hA : AtG 74 σ p) (hp : PoOk p) {i k : Nat} (hi : i < k) (hk : k < S) :
    ∃ u, fX5_firstFacingCouple F σ (qN i) (qN k) = some (nO (fO (cpN fl k0 k1 kd wh S ns i k p) 10), u) ∧ (∀ c, c ≠ 68 → c ≠ 69 → c ≠ 70 → c ≠ 71 → c ≠ 78 → c ≠ 79 → c ≠ 80 → u c = σ c) ∧ (∀ j, j < S → u 71 j = ns j) := by
  have hS := hB.1
  have hm : ∃ x, fX5_firstFacingCouple F σ (qN i) (qN k) = some x ∧ x.1 = nO (fO (cpN fl k0 k1 kd wh S ns i k p) 10) ∧ (∀ c, c ≠ 68 → c ≠ 69 → c ≠ 70 → c ≠ 71 → c ≠ 78 → c ≠ 79 → c ≠ 80 → x.2 c = σ c) ∧ (∀ j, j < S → x.2 71 j = ns j) := by
    refine wpI fun Q hQ => ?_
    unfold fX5_firstFacingCouple
    refine wk (k := i) rfl (by omega) (by omega) (wn fun x1 e1 => ?_)
    rw [q_clamp (by omega), (hC.2.2.2.2.2.2 i (by omega)).2.2] at e1
    subst e1
    refine lp_up Q (fun n (v : St × Int32 × Int32) => (∀ c, c ≠ 68 → c ≠ 69 → c ≠ 70 → c ≠ 71 → c ≠ 78 → c ≠ 79 → c ≠ 80 → v.1 c = σ c) ∧ (∀ j, j < S → j ≠ i → v.1 71 j = ns j) ∧ v.2.1 = qN n ∧ v.2.2 = nO (fO (cpN fl k0 k1 kd wh S ns i k p) n)) 10 ?_ F 0 _ (by omega) (by omega) ⟨fun _ _ _ _ _ _ _ _ => rfl, fun j hj _ => (hC.2.2.2.2.2.2 j hj).2.2, rfl, rfl⟩
    rintro n ⟨v, c, f⟩ K hn ⟨hE, h71, hc, hf⟩ hK
    dsimp only at hE h71 hc hf
    subst hc hf
    dsimp only
    refine wj fun J hJ => ?_
    have hJQ : fO (cpN fl k0 k1 kd wh S ns i k p) n = fO (cpN fl k0 k1 kd wh S ns i k p) 10 → Q (J ()) := by
      intro he
      rw [hJ]
      refine wk (k := i) rfl (by omega) (by omega) (wn fun u8 e8 => hQ _ ⟨by rw [he], fun c c1 c2 c3 c4 c5 c6 c7 => ?_, fun j hj => ?_⟩)
      · show u8 c = _; rw [e8, up_ne _ _ _ c4]; exact hE c c1 c2 c3 c4 c5 c6 c7
      · show u8 71 j = _
        rw [e8, q_clamp (by omega), up_same]
        by_cases hji : j = i
        · subst hji; rw [upd_same]
        · rw [upd_ne _ _ hji]; exact h71 j hj hji
    have hlt : ∀ x, fO (cpN fl k0 k1 kd wh S ns i k p) n = some x → x < 2147483648 := by
      intro x hx
      obtain ⟨k, hk, e⟩ := fO_ex hx
      have := cp_lt e
      omega
    by_cases h10 : n = 10
    · subst h10
      rw [if_pos (by decide)]; exact hJQ rfl
    · rw [if_neg (by rw [show (9 : Int32) = qN 9 from rfl, q_lt (by omega) (by omega)]; omega)]
      cases hfo : fO (cpN fl k0 k1 kd wh S ns i k p) n with
      | some x =>
        rw [hfo] at hlt
        rw [if_neg (by rw [nO_m1 hlt]; intro h; cases h)]
        exact hJQ (by rw [hfo]; exact (fO_some hfo 10 (by omega)).symm)
      | none =>
        rw [if_pos (show nO none = -1 from rfl)]
        obtain ⟨w, hw, wA, wE⟩ := C_b3 (s := 74) (e := 68) (F := F) (by omega) hF (hA.fr (u := v) (hE 74 (by decide) (by decide) (by decide) (by decide) (by decide) (by decide) (by decide)) (hE 75 (by decide) (by decide) (by decide) (by decide) (by decide) (by decide) (by decide)) (hE 76 (by decide) (by decide) (by decide) (by decide) (by decide) (by decide) (by decide)))
        rw [b3_2]
        refine wb1 hw (wk (k := i) rfl (by omega) (by omega) (wn fun u9 e9 => ?_))
        rw [q_clamp (by omega)] at e9
        have hX9 : ∀ c, c ≠ 68 → c ≠ 69 → c ≠ 70 → c ≠ 71 → c ≠ 78 → c ≠ 79 → c ≠ 80 → u9 c = σ c := fun c c1 c2 c3 c4 c5 c6 c7 => by rw [e9, up_ne _ _ _ c4, wE c c1 c2 c3]; exact hE c c1 c2 c3 c4 c5 c6 c7
        have hE9 : HE σ u9 := ⟨fun c hc => hX9 c (by omega) (by omega) (by omega) (by omega) (by omega) (by omega) (by omega), hX9 66 (by decide) (by decide) (by decide) (by decide) (by decide) (by decide) (by decide)⟩
        have h9 : ∀ j, j < S → u9 71 j = upd ns i (qN n) j := fun j hj => by
          rw [e9, up_same, wE 71 (by decide) (by decide) (by decide)]
          by_cases hji : j = i
          · subst hji; rw [upd_same, upd_same]
          · rw [upd_ne _ _ hji, upd_ne _ _ hji]; exact h71 j hj hji
        have hA9 : AtC u9 p := by
          have : AtG 68 u9 p := wA.fr (by rw [e9, up_ne _ _ _ (by decide)]) (by rw [e9, up_ne _ _ _ (by decide)]) (by rw [e9, up_ne _ _ _ (by decide)])
          exact this
        refine wi (fun hni => ?_) fun hni => ?_
        · refine hK _ (by omega) ⟨hX9, fun j hj hji => by show u9 71 j = _; rw [h9 j hj, upd_ne _ _ hji], q_add n 1, ?_⟩
          show nO none = nO (fO _ (n + 1))
          rw [fO_none hfo]; unfold cpN; rw [if_pos hni]
        · have hC9 := hC.he hE9 h9
          have hB9 := hB.upd (i := i) (q09 (n := n) (by omega))
          obtain ⟨y, hy, y1, y2, y3⟩ := C_walk hF hB9 hC9 hA9 hp (a := i) (b := k) (by omega) (by omega)
          refine wb2 (r := y.1) (u := y.2) hy ?_
          have hXy : ∀ c, c ≠ 68 → c ≠ 69 → c ≠ 70 → c ≠ 71 → c ≠ 78 → c ≠ 79 → c ≠ 80 → y.2 c = σ c := fun c c1 c2 c3 c4 c5 c6 c7 => by rw [y3 c c1 c2 c3]; exact hX9 c c1 c2 c3 c4 c5 c6 c7
          have h7y : ∀ j, j < S → y.2 71 j = upd ns i (qN n) j := fun j hj => by rw [y3 71 (by decide) (by decide) (by decide), h9 j hj]
          have hok := wk_ok (fl := fl) hB9 (k - i) i p (by omega) hp
          have hg : cpN fl k0 k1 kd wh S ns i k p n = if (wkS (sf fl k0 k1 kd wh (upd ns i (qN n))) i (k - i) p).1.isNone then (fO (frN fl k0 k1 kd wh S (upd ns i (qN n)) k (wkS (sf fl k0 k1 kd wh (upd ns i (qN n))) i (k - i) p).2) 10).map (fun x => 100 * (10 * i + n) + x) else none := by unfold cpN; rw [if_neg hni]
          rw [y1]
          cases hw1 : (wkS (sf fl k0 k1 kd wh (upd ns i (qN n))) i (k - i) p).1 with
          | some x =>
            have hx := wk_lt _ _ _ _ hw1
            rw [if_neg (by rw [nO_m1 (fun y hy => by injection hy with hy; omega)]; intro h; cases h)]
            refine hK _ (by omega) ⟨hXy, fun j hj hji => by show y.2 71 j = _; rw [h7y j hj, upd_ne _ _ hji], q_add n 1, ?_⟩
            show nO none = nO (fO _ (n + 1))
            rw [fO_none hfo, hg, hw1]; rfl
          | none =>
            rw [if_pos (show nO none = -1 from rfl)]
            rw [hw1, if_pos (show (none : Option Nat).isNone = true from rfl)] at hg
            generalize (wkS (sf fl k0 k1 kd wh (upd ns i (qN n))) i (k - i) p).2 = P at *
            obtain ⟨z, hz, zA, zE⟩ := C_b3 (s := 68) (e := 78) (F := F) (by omega) hF (σ := y.2) (p := P) y2
            rw [b3_3]
            refine wb1 hz ?_
            have hzy : HE y.2 z := ⟨fun c hc => zE c (by omega) (by omega) (by omega), zE 66 (by decide) (by decide) (by decide)⟩
            have hCz := (hC9.ex y3).he hzy (ns' := upd ns i (qN n)) (fun j hj => by rw [zE 71 (by decide) (by decide) (by decide)]; exact h7y j hj)
            obtain ⟨t, ht, tX, t7⟩ := C_firstFrom hF hB9 hCz zA hok hk
            refine wb2 ht ?_
            have hXt : ∀ c, c ≠ 68 → c ≠ 69 → c ≠ 70 → c ≠ 71 → c ≠ 78 → c ≠ 79 → c ≠ 80 → t c = σ c := fun c c1 c2 c3 c4 c5 c6 c7 => by rw [tX c c1 c2 c3 c4, zE c c5 c6 c7]; exact hXy c c1 c2 c3 c4 c5 c6 c7
            have h7t : ∀ j, j < S → j ≠ i → t 71 j = ns j := fun j hj hji => by rw [t7 j hj, upd_ne _ _ hji]
            cases hfr : fO (frN fl k0 k1 kd wh S (upd ns i (qN n)) k P) 10 with
            | none =>
              rw [if_pos (show nO none = -1 from rfl)]
              refine hK _ (by omega) ⟨hXt, h7t, q_add n 1, ?_⟩
              show _ = nO (fO _ (n + 1))
              rw [fO_none hfo, hg, hfr]; rfl
            | some x =>
              have hx : x < 10 * k + 10 := by
                obtain ⟨q, hq, e⟩ := fO_ex hfr
                have := fr_lt e
                omega
              rw [if_neg (by rw [nO_m1 (fun y hy => by injection hy with hy; omega)]; intro h; cases h)]
              refine wn fun x12 e12 => hK _ (by omega) ⟨hXt, h7t, q_add n 1, ?_⟩
              show x12 = nO (fO _ (n + 1))
              rw [fO_none hfo, hg, hfr, e12, pl_m, show (100 : Int32) = qN 100 from rfl, q_mul]
              exact q_add _ _
  obtain ⟨x, hx, x1, x2, x3⟩ := hm
  exact ⟨x.2, by rw [hx, ← x1], x2, x3⟩
theorem m2_lt {i x : Nat} (h : m2N fl k0 k1 kd wh S ns i = some x) (hS : S ≤ 10) : x < 1000 * i + 1100 := by
  unfold m2N at h
  obtain ⟨j, hj, e⟩ := fO_ex h
  split at e
  · obtain ⟨n, hn, e2⟩ := fO_ex e
    have := mb_lt hn e2
    omega
  · cases e
theorem C_mendByTwo (hF : 20 ≤ F) (hB : PB S k0 k1 kd wh ns) {σ : St} (hC : CP σ d S fl k0 k1 kd wh ns) :
    ∃ u, fX5_mendByTwo F σ = some (nO (fO (m2N fl k0 k1 kd wh S ns) S), u) ∧ HE σ u := by
  have hS := hB.1
  have hm : ∃ x, fX5_mendByTwo F σ = some x ∧ x.1 = nO (fO (m2N fl k0 k1 kd wh S ns) S) ∧ HE σ x.2 := by
    refine wpI fun Q hQ => ?_
    unfold fX5_mendByTwo
    refine lp_up Q (fun i (v : St × Int32 × Int32) => HE σ v.1 ∧ (∀ j, j < S → v.1 71 j = ns j) ∧ v.2.1 = qN i ∧ v.2.2 = nO (fO (m2N fl k0 k1 kd wh S ns) i)) S ?_ F 0 _ (by omega) (by omega) ⟨HE.rfl, fun j hj => (hC.2.2.2.2.2.2 j hj).2.2, rfl, rfl⟩
    rintro i ⟨v, c, f⟩ K hi ⟨hE, h71, hc, hf⟩ hK
    dsimp only at hE h71 hc hf
    subst hc hf
    dsimp only
    have hCv := hC.he hE h71
    have hlt : ∀ x, fO (m2N fl k0 k1 kd wh S ns) i = some x → x < 2147483648 := by
      intro x hx
      obtain ⟨k, hk, e⟩ := fO_ex hx
      have := m2_lt e hS
      omega
    by_cases hiS : i = S
    · refine wiT (by rw [hCv.2.2.1, hiS]; exact Int32.le_refl _) ?_
      subst hiS
      exact hQ _ ⟨rfl, hE⟩
    · refine wiF (by rw [hCv.2.2.1, q_le (by omega) (by omega)]; omega) ?_
      cases hfo : fO (m2N fl k0 k1 kd wh S ns) i with
      | some x =>
        rw [hfo] at hlt
        rw [if_neg (by rw [nO_m1 hlt]; intro h; cases h)]
        exact hQ _ ⟨by show nO (some x) = _; rw [fO_some hfo S (by omega)], hE⟩
      | none =>
        rw [if_pos (show nO none = -1 from rfl), hCv.2.2.2.2.2.1]
        obtain ⟨b, hb, bA, bE⟩ := C_begin (F := F) v fl
        refine wb1 hb ?_
        obtain ⟨y, hy, y1, y2, y3⟩ := C_walk hF hB (hCv.ex bE) bA (p0_ok fl) (a := 0) (b := i) (by omega) (by omega)
        refine wb2 (r := y.1) (u := y.2) hy ?_
        rw [Nat.sub_zero] at y1 y2
        have hEy : HE σ y.2 := hE.trans (bE.he.trans y3.he)
        have h7y : ∀ j, j < S → y.2 71 j = ns j := fun j hj => by rw [y3 71 (by decide) (by decide) (by decide), bE 71 (by decide) (by decide) (by decide)]; exact h71 j hj
        rw [y1]
        cases hw1 : (wkS (sf fl k0 k1 kd wh ns) 0 i (p0 fl)).1 with
        | some x =>
          have hx := wk_lt _ _ _ _ hw1
          rw [if_neg (by rw [nO_m1 (fun y hy => by injection hy with hy; omega)]; intro h; cases h)]
          refine hQ _ ⟨?_, hEy⟩
          have : fO (m2N fl k0 k1 kd wh S ns) S = none := by
            refine fO_all S (fun e he => ?_)
            by_cases hei : e < i
            · cases hme : m2N fl k0 k1 kd wh S ns e with
              | none => rfl
              | some z =>
                have hz : ∃ z', fO (m2N fl k0 k1 kd wh S ns) (e + 1) = some z' := by
                  cases h' : fO (m2N fl k0 k1 kd wh S ns) e with
                  | some z' => exact ⟨z', fO_some h' _ (by omega)⟩
                  | none => exact ⟨z, by rw [fO_none h', hme]⟩
                obtain ⟨z', hz'⟩ := hz
                have := fO_some hz' i (by omega)
                rw [hfo] at this; cases this
            · unfold m2N
              refine fO_all S (fun j hj => ?_)
              by_cases hjj : e < j ∧ cgK kd e = true ∧ cgK kd j = true
              · rw [if_pos hjj]; exact mb_bad hjj.1 hj (wk_bad hw1 (by omega))
              · rw [if_neg hjj]
          rw [this]; rfl
        | none =>
          rw [if_pos (show nO none = -1 from rfl)]
          have hok := wk_ok (fl := fl) hB i 0 (p0 fl) (by omega) (p0_ok fl)
          obtain ⟨z, hz, zA, zE⟩ := C_b3 (s := 68) (e := 74) (F := F) (by omega) hF (σ := y.2) y2
          rw [b3_1]
          refine wb1 hz (wn fun x8 e8 => ?_)
          subst e8
          have hzE : HE σ z := hEy.trans ⟨fun c hc => zE c (by omega) (by omega) (by omega), zE 66 (by decide) (by decide) (by decide)⟩
          have h7z : ∀ j, j < S → z 71 j = ns j := fun j hj => by rw [zE 71 (by decide) (by decide) (by decide)]; exact h7y j hj
          let gj : Nat → Option Nat := fun j => if i < j ∧ cgK kd i = true ∧ cgK kd j = true then fO (mbN fl k0 k1 kd wh S ns i j) 10 else none
          have hgj : ∀ j, gj j = if i < j ∧ cgK kd i = true ∧ cgK kd j = true then fO (mbN fl k0 k1 kd wh S ns i j) 10 else none := fun _ => rfl
          have hm2 : m2N fl k0 k1 kd wh S ns i = fO gj S := rfl
          have hg0 : fO gj (i + 1) = none := fO_all _ (fun j hj => by rw [hgj, if_neg (by omega)])
          have hglt : ∀ t x, t ≤ S → fO gj t = some x → x < 2147483648 := by
            intro t x ht hx
            have := m2_lt (show m2N fl k0 k1 kd wh S ns i = some x by rw [hm2]; exact fO_some hx S ht) hS
            omega
          refine lp_up Q (fun t (v : St × Int32 × Int32) => HE σ v.1 ∧ (∀ j, j < S → v.1 71 j = ns j) ∧ AtG 74 v.1 (wkS (sf fl k0 k1 kd wh ns) 0 i (p0 fl)).2 ∧ v.2.1 = qN (i + 1 + t) ∧ v.2.2 = nO (fO gj (i + 1 + t))) (S - (i + 1)) ?_ F 0 _ (by omega) (by omega) ⟨hzE, h7z, zA, q_add i 1, by rw [Nat.add_zero, hg0]⟩
          rintro t ⟨w, c, f⟩ K2 ht ⟨hw, h7w, hA, hc, hf⟩ hK2
          dsimp only at hw h7w hA hc hf
          subst hc hf
          dsimp only
          have hCw := hC.he hw h7w
          by_cases htS : i + 1 + t = S
          · refine wiT (by rw [hCw.2.2.1, htS]; exact Int32.le_refl _) ?_
            refine hK _ (by omega) ⟨hw, h7w, q_add i 1, ?_⟩
            show _ = nO (fO _ (i + 1))
            rw [fO_none hfo, hm2, htS]
          · refine wiF (by rw [hCw.2.2.1, q_le (by omega) (by omega)]; omega) ?_
            cases hgo : fO gj (i + 1 + t) with
            | some x =>
              have := hglt _ _ (by omega) hgo
              rw [if_neg (by rw [nO_m1 (fun y hy => by injection hy with hy; omega)]; intro h; cases h)]
              refine hK _ (by omega) ⟨hw, h7w, q_add i 1, ?_⟩
              show _ = nO (fO _ (i + 1))
              rw [fO_none hfo, hm2, fO_some hgo S (by omega)]
            | none =>
              rw [if_pos (show nO none = -1 from rfl)]
              refine wb1 (C_chg5 hCw hS (by omega)) ?_
              have hnext : gj (i + 1 + t) = none → Q (K2 (w, qN (i + 1 + t) + 1, nO none)) := by
                intro hh
                refine hK2 _ (by omega) ⟨hw, h7w, hA, q_add _ 1, ?_⟩
                show nO none = nO (fO gj (i + 1 + t + 1))
                rw [fO_none hgo, hh]
              cases hcg : cgK kd i with
              | false =>
                rw [if_pos (show bI false = 0 from rfl)]
                exact hnext (by rw [hgj, if_neg (by rw [hcg]; intro h; exact absurd h.2.1 (by decide))])
              | true =>
                rw [if_neg (show ¬ bI true = 0 by decide)]
                refine wb1 (C_chg5 hCw hS (by omega)) ?_
                cases hcj : cgK kd (i + 1 + t) with
                | false =>
                  rw [if_pos (show bI false = 0 from rfl)]
                  exact hnext (by rw [hgj, if_neg (by rw [hcj]; intro h; exact absurd h.2.2 (by decide))])
                | true =>
                  rw [if_neg (show ¬ bI true = 0 by decide)]
                  obtain ⟨r, hr, rE, r7⟩ := C_firstCouple hF hB hCw hA hok (i := i) (k := i + 1 + t) (by omega) (by omega)
                  refine wb2 hr (hK2 _ (by omega) ⟨hw.trans ⟨fun c hc => rE c (by omega) (by omega) (by omega) (by omega) (by omega) (by omega) (by omega), rE 66 (by decide) (by decide) (by decide) (by decide) (by decide) (by decide) (by decide)⟩, r7, hA.fr (rE 74 (by decide) (by decide) (by decide) (by decide) (by decide) (by decide) (by decide)) (rE 75 (by decide) (by decide) (by decide) (by decide) (by decide) (by decide) (by decide)) (rE 76 (by decide) (by decide) (by decide) (by decide) (by decide) (by decide) (by decide)), q_add _ 1, ?_⟩)
                  show nO _ = nO (fO gj (i + 1 + t + 1))
                  rw [fO_none hgo, hgj, if_pos ⟨by omega, hcg, hcj⟩, mb_cp (by omega) (by omega) hw1]
  obtain ⟨x, hx, x1, x2⟩ := hm
  exact ⟨x.2, by rw [hx, ← x1], x2⟩
/-! the reference -/
theorem M_mendBoth (hF : 20 ≤ F) (hB : PB S k0 k1 kd wh ns) {τ : St} (hM : MP F τ d S fl k0 k1 kd wh ns) {i k : Nat} (hi : i < k) (hk : k < S) :
    ∃ w, fX11_mendBoth F τ (qN d) (qN i) (qN k) = some (nO (fO (mbN fl k0 k1 kd wh S ns i k) 10), w) ∧ ExM τ w := by
  have hS := hB.1
  have hd := hM.1
  have hni : τ 13 (10 * d + i) = ns i := (hM.2.2.2.2.2.2 i (by omega)).2.2
  have hm : ∃ x, fX11_mendBoth F τ (qN d) (qN i) (qN k) = some x ∧ x.1 = nO (fO (mbN fl k0 k1 kd wh S ns i k) 10) ∧ ExM τ x.2 := by
    refine wpI fun Q hQ => ?_
    unfold fX11_mendBoth
    simp only [pl_m]
    refine wn fun x1 e1 => ?_
    subst e1
    refine wk (k := 10 * d + i) rfl (by omega) (by omega) (wn fun x2 e2 => ?_)
    rw [q_clamp (by omega), hni] at e2
    subst e2
    have hlt : ∀ n x, n ≤ 10 → fO (mbN fl k0 k1 kd wh S ns i k) n = some x → x < 2147483648 := by
      intro n x hn hx
      obtain ⟨q, hq, e⟩ := fO_ex hx
      have := mb_lt (by omega) e
      omega
    refine lp_up Q (fun n (v : St × Int32 × Int32) => (∀ c, c ≠ 21 → c ≠ 22 → c ≠ 23 → c ≠ 13 → v.1 c = τ c) ∧ (∀ j, j ≠ 10 * d + i → v.1 13 j = τ 13 j) ∧ v.2.1 = qN n ∧ v.2.2 = nO (fO (mbN fl k0 k1 kd wh S ns i k) n)) 10 ?_ F 0 _ (by omega) (by omega) ⟨fun _ _ _ _ _ => rfl, fun _ _ => rfl, rfl, rfl⟩
    rintro n ⟨v, c, f⟩ K hn ⟨hE, h13, hc, hf⟩ hK
    dsimp only at hE h13 hc hf
    subst hc hf
    dsimp only
    have hfin : fO (mbN fl k0 k1 kd wh S ns i k) n = fO (mbN fl k0 k1 kd wh S ns i k) 10 → Q (ckI (qN (10 * d + i)) 160 (nm (up v 13 (Int32.toNatClampNeg (qN (10 * d + i))) (ns i)) fun u6 => some (nO (fO (mbN fl k0 k1 kd wh S ns i k) n), u6))) := by
      intro he
      refine wk (k := 10 * d + i) rfl (by omega) (by omega) (wn fun u6 e6 => hQ _ ⟨by rw [he], fun c c1 c2 c3 => ?_⟩)
      show u6 c = _
      rw [e6, q_clamp (by omega)]
      by_cases h13' : c = 13
      · subst h13'
        rw [up_same]; funext j
        by_cases hj : j = 10 * d + i
        · subst hj; rw [upd_same, hni]
        · rw [upd_ne _ _ hj]; exact h13 j hj
      · rw [up_ne _ _ _ h13']; exact hE c c1 c2 c3 h13'
    by_cases h10 : n = 10
    · subst h10
      rw [if_pos (by decide)]; exact hfin rfl
    · rw [if_neg (by rw [show (10 : Int32) = qN 10 from rfl, q_le (by omega) (by omega)]; omega)]
      cases hfo : fO (mbN fl k0 k1 kd wh S ns i k) n with
      | some x =>
        have := hlt n x (by omega) hfo
        rw [if_neg (by rw [nO_m1 (fun y hy => by injection hy with hy; omega)]; intro h; cases h)]
        rw [hfo] at hfin
        exact hfin (fO_some hfo 10 (by omega)).symm
      | none =>
        rw [if_pos (show nO none = -1 from rfl)]
        have hg : mbN fl k0 k1 kd wh S ns i k n = if qN n = ns i then none else fO (mqN fl k0 k1 kd wh S ns i k n) 10 := rfl
        refine wi (fun hni' => ?_) fun hni' => ?_
        · refine hK _ (by omega) ⟨hE, h13, q_add n 1, ?_⟩
          show nO none = nO (fO _ (n + 1))
          rw [fO_none hfo, hg, if_pos hni']
        · rw [if_neg hni'] at hg
          refine wk (k := 10 * d + i) rfl (by omega) (by omega) (wn fun u8 e8 => ?_)
          rw [q_clamp (by omega)] at e8
          have hE8 : ExM (up τ 13 (10 * d + i) (qN n)) u8 := by
            intro c c1 c2 c3
            rw [e8]
            by_cases h13' : c = 13
            · subst h13'
              rw [up_same, up_same]; funext j
              by_cases hj : j = 10 * d + i
              · subst hj; rw [upd_same, upd_same]
              · rw [upd_ne _ _ hj, upd_ne _ _ hj]; exact h13 j hj
            · rw [up_ne _ _ _ h13', up_ne _ _ _ h13']; exact hE c c1 c2 c3 h13'
          have hM8 := (hM.set hS (i := i) (by omega) (qN n))
          have hB8 := hB.upd (i := i) (q09 (n := n) (by omega))
          refine lp_up Q (fun q (v : St × Int32 × Int32) => ExM (up τ 13 (10 * d + i) (qN n)) v.1 ∧ v.2.1 = qN q ∧ v.2.2 = nO (fO (mqN fl k0 k1 kd wh S ns i k n) q)) 10 ?_ F 0 _ (by omega) (by omega) ⟨hE8, rfl, rfl⟩
          rintro q ⟨w, c, f⟩ K2 hq ⟨hw, hc, hf⟩ hK2
          dsimp only at hw hc hf
          subst hc hf
          dsimp only
          have hout : fO (mqN fl k0 k1 kd wh S ns i k n) q = fO (mqN fl k0 k1 kd wh S ns i k n) 10 → Q (K (w, qN n + 1, nO (fO (mqN fl k0 k1 kd wh S ns i k n) q))) := by
            intro he
            refine hK _ (by omega) ⟨fun c c1 c2 c3 c4 => ?_, fun j hj => ?_, q_add n 1, ?_⟩
            · show w c = _; rw [hw c c1 c2 c3, up_ne _ _ _ c4]
            · show w 13 j = _; rw [hw 13 (by decide) (by decide) (by decide), up_same, upd_ne _ _ hj]
            · show nO _ = nO (fO _ (n + 1)); rw [fO_none hfo, hg, he]
          by_cases hq10 : q = 10
          · subst hq10
            rw [if_pos (by decide)]; exact hout rfl
          · rw [if_neg (by rw [show (10 : Int32) = qN 10 from rfl, q_le (by omega) (by omega)]; omega)]
            cases hqo : fO (mqN fl k0 k1 kd wh S ns i k n) q with
            | some x =>
              have h1 : mbN fl k0 k1 kd wh S ns i k n = some x := by rw [hg]; exact fO_some hqo 10 (by omega)
              have := mb_lt (by omega) h1
              rw [if_neg (by rw [nO_m1 (fun y hy => by injection hy with hy; omega)]; intro h; cases h)]
              rw [hqo] at hout
              exact hout (fO_some hqo 10 (by omega)).symm
            | none =>
              rw [if_pos (show nO none = -1 from rfl)]
              refine wk (k := 10 * d + k) rfl (by omega) (by omega) ?_
              have hMw := hM8.ex hw
              have hnk : w 13 (10 * d + k) = ns k := by rw [(hMw.2.2.2.2.2.2 k hk).2.2, upd_ne _ _ (by omega)]
              have hgq : mqN fl k0 k1 kd wh S ns i k n q = if qN q = ns k then none else if efN fl k0 k1 kd wh S (upd (upd ns i (qN n)) k (qN q)) then some (100 * (10 * i + n) + 10 * k + q) else none := rfl
              refine wi (fun hqk => ?_) fun hqk => ?_ <;> rw [q_clamp (by omega), hnk] at hqk
              · refine hK2 _ (by omega) ⟨hw, q_add q 1, ?_⟩
                show nO none = nO (fO _ (q + 1))
                rw [fO_none hqo, hgq, if_pos hqk]
              · rw [if_neg hqk] at hgq
                obtain ⟨z, hz, z1⟩ := M_endsBy hF hB8 hMw hk (q09 (n := q) (by omega))
                refine wb2 hz ?_
                cases hef : efN fl k0 k1 kd wh S (upd (upd ns i (qN n)) k (qN q)) with
                | false =>
                  rw [if_pos (show bI false = 0 from rfl)]
                  refine hK2 _ (by omega) ⟨hw.trans z1, q_add q 1, ?_⟩
                  show nO none = nO (fO _ (q + 1))
                  rw [fO_none hqo, hgq, hef]; rfl
                | true =>
                  rw [if_neg (show ¬ bI true = 0 by decide)]
                  refine wn fun x12 e12 => hK2 _ (by omega) ⟨hw.trans z1, q_add q 1, ?_⟩
                  show x12 = nO (fO _ (q + 1))
                  rw [fO_none hqo, hgq, hef, e12, show (100 : Int32) = qN 100 from rfl, show (10 : Int32) = qN 10 from rfl]
                  simp only [q_mul, q_add]; rfl
  obtain ⟨x, hx, x1, x2⟩ := hm
  exact ⟨x.2, by rw [hx, ← x1], x2⟩
theorem M_mendTwo (hF : 20 ≤ F) (hB : PB S k0 k1 kd wh ns) {τ : St} (hM : MP F τ d S fl k0 k1 kd wh ns) :
    ∃ w, fX11_mendTwo F τ (qN d) = some (nO (fO (m2N fl k0 k1 kd wh S ns) S), w) ∧ ExM τ w := by
  have hS := hB.1
  have hd := hM.1
  have hm : ∃ x, fX11_mendTwo F τ (qN d) = some x ∧ x.1 = nO (fO (m2N fl k0 k1 kd wh S ns) S) ∧ ExM τ x.2 := by
    refine wpI fun Q hQ => ?_
    unfold fX11_mendTwo
    refine lp_up Q (fun i (v : St × Int32) => ExM τ v.1 ∧ v.2 = qN i ∧ fO (m2N fl k0 k1 kd wh S ns) i = none) S ?_ F 0 _ (by omega) (by omega) ⟨ExM.rfl, rfl, rfl⟩
    rintro i ⟨v, c⟩ K hi ⟨hE, hc, hf⟩ hK
    dsimp only at hE hc
    subst hc
    dsimp only
    refine wk (k := d) rfl (by omega) (by omega) ?_
    by_cases hiS : i = S
    · refine wiT (by rw [q_clamp (by omega), hE 10 (by decide) (by decide) (by decide), hM.2.2.2.1, hiS]; exact Int32.le_refl _) ?_
      subst hiS
      exact hQ _ ⟨by rw [hf]; rfl, hE⟩
    · have hiS' : i < S := by omega
      refine wiF (by rw [q_clamp (by omega), hE 10 (by decide) (by decide) (by decide), hM.2.2.2.1, q_le (by omega) (by omega)]; omega) ?_
      refine wn fun x8 e8 => ?_
      subst e8
      let gj : Nat → Option Nat := fun j => if i < j ∧ cgK kd i = true ∧ cgK kd j = true then fO (mbN fl k0 k1 kd wh S ns i j) 10 else none
      have hgj : ∀ j, gj j = if i < j ∧ cgK kd i = true ∧ cgK kd j = true then fO (mbN fl k0 k1 kd wh S ns i j) 10 else none := fun _ => rfl
      have hm2 : m2N fl k0 k1 kd wh S ns i = fO gj S := rfl
      have hg0 : fO gj (i + 1) = none := fO_all _ (fun j hj => by rw [hgj, if_neg (by omega)])
      refine lp_up Q (fun t (v : St × Int32) => ExM τ v.1 ∧ v.2 = qN (i + 1 + t) ∧ fO gj (i + 1 + t) = none) (S - (i + 1)) ?_ F 0 _ (by omega) (by omega) ⟨hE, q_add i 1, hg0⟩
      rintro t ⟨w, c⟩ K2 ht ⟨hw, hc, hgo⟩ hK2
      dsimp only at hw hc
      subst hc
      dsimp only
      have hMw := hM.ex hw
      refine wk (k := d) rfl (by omega) (by omega) ?_
      by_cases htS : i + 1 + t = S
      · refine wiT (by rw [q_clamp (by omega), hMw.2.2.2.1, htS]; exact Int32.le_refl _) ?_
        refine hK _ hiS' ⟨hw, q_add i 1, ?_⟩
        rw [fO_none hf, hm2, ← htS]; exact hgo
      · refine wiF (by rw [q_clamp (by omega), hMw.2.2.2.1, q_le (by omega) (by omega)]; omega) ?_
        refine wb1 (M_chg hMw hS hiS') ?_
        refine wj fun J10 hJ10 => wj fun J13 hJ13 => ?_
        have hnext : gj (i + 1 + t) = none → Q (J13 ()) := by
          intro hh
          rw [hJ13, hJ10, if_pos rfl]
          refine hK2 _ (by omega) ⟨hw, q_add _ 1, ?_⟩
          show fO gj (i + 1 + t + 1) = none
          rw [fO_none hgo, hh]
        cases hcg : cgK kd i with
        | false =>
          rw [if_pos (show bI false = 0 from rfl)]
          exact hnext (by rw [hgj, if_neg (by rw [hcg]; intro h; exact absurd h.2.1 (by decide))])
        | true =>
          rw [if_neg (show ¬ bI true = 0 by decide)]
          refine wb1 (M_chg hMw hS (by omega)) ?_
          cases hcj : cgK kd (i + 1 + t) with
          | false =>
            rw [if_pos (show bI false = 0 from rfl)]
            exact hnext (by rw [hgj, if_neg (by rw [hcj]; intro h; exact absurd h.2.2 (by decide))])
          | true =>
            rw [if_neg (show ¬ bI true = 0 by decide)]
            obtain ⟨r, hr, rE⟩ := M_mendBoth hF hB hMw (i := i) (k := i + 1 + t) (by omega) (by omega)
            refine wb2 hr ?_
            rw [hJ10]
            have hgv : gj (i + 1 + t) = fO (mbN fl k0 k1 kd wh S ns i (i + 1 + t)) 10 := by rw [hgj, if_pos ⟨by omega, hcg, hcj⟩]
            dsimp only
            cases hmb : fO (mbN fl k0 k1 kd wh S ns i (i + 1 + t)) 10 with
            | none =>
              rw [if_pos (show nO none = -1 from rfl)]
              refine hK2 _ (by omega) ⟨hw.trans rE, q_add _ 1, ?_⟩
              show fO gj (i + 1 + t + 1) = none
              rw [fO_none hgo, hgv, hmb]
            | some x =>
              have hx : fO gj (i + 1 + t + 1) = some x := by rw [fO_none hgo, hgv, hmb]
              have hx2 : m2N fl k0 k1 kd wh S ns i = some x := by rw [hm2]; exact fO_some hx S (by omega)
              have := m2_lt hx2 hS
              rw [if_neg (by rw [nO_m1 (fun y hy => by injection hy with hy; omega)]; intro h; cases h)]
              refine hQ _ ⟨?_, hw.trans rE⟩
              have h3 : fO (m2N fl k0 k1 kd wh S ns) (i + 1) = some x := by rw [fO_none hf, hx2]
              rw [fO_some h3 S (by omega)]
  obtain ⟨x, hx, x1, x2⟩ := hm
  exact ⟨x.2, by rw [hx, ← x1], x2⟩
end
section
variable {F : Nat}
theorem sm_mend (hF : 800 ≤ F) : Sm_mend F Rl := by
  intro σ τ a w R
  show G1 1 _ _
  unfold fX10_mend fX11_mend
  refine wnG1 fun τ0 h0 => ?_
  have R0 : Rl σ τ0 := by rw [h0]; exact R.fr CE.rfl ME4
  have h4 : τ0 0 4 = 0 := by rw [h0]; exact up4
  clear h0
  have T := R0.2.1
  have N := R0.nw
  rw [C_chkD, M_isDance T, bd1_some, bd1_some]
  simp only [jn]
  have hno : G1 1 (some (1, 0, σ)) (bd2 (fX11_fail F τ0 1) fun r7 u8 => some (r7, u8)) := by
    rw [M_fail]; exact G1_no (by decide) R0 rfl rfl CE.rfl ME4 up4
  by_cases hv : 0 ≤ a ∧ a < σ 2 1
  · rw [if_pos hv, if_pos hv, if_pos rfl, if_neg i10n, C_chkB, bd1_some]
    by_cases hw : 0 ≤ w ∧ w < 2
    · rw [if_pos hw, if_pos rfl, if_neg (show ¬ w < 0 by grind), if_pos (show w ≤ 1 by grind)]
      obtain ⟨d, rfl, hd⟩ := get_d T hv
      have hB := PB_of T N hd (more := 0) (by decide)
      have hM := MP_of (F := F) T N hd R0.2.2.2.2.1
      obtain ⟨x, hx, xC, xE⟩ := C_prepare (F := F) (by omega) T hd (more := 0)
      obtain ⟨y, hy, y1, y2⟩ := C_endsFacing (F := F) (by omega) hB xC
      obtain ⟨z, hz, z1, z2⟩ := M_endsWell (F := F) (by omega) hB hM
      have hxe : CE σ x := fun c h1 h2 => xE c (by omega) (by omega)
      have hy' : fX2_endsFacing F x = some (y.1, y.2) := hy
      have hz' : fX11_endsWell F τ0 (qN d) = some (z.1, z.2) := hz
      rw [hx, bd1_some, hy', bd2_some, hz', bd2_some, y1, z1]
      have hye : CE σ y.2 := hxe.trans y2.ce
      obtain ⟨u, hu, u1, u7⟩ := C_mendByOne (F := F) (by omega) hB (xC.ex y2)
      obtain ⟨v, hv', v1⟩ := M_mendFrom (F := F) (by omega) hB (hM.ex z2)
      have hCu := (xC.ex y2).he u1 u7
      obtain ⟨u', hu', u1'⟩ := C_mendByTwo (F := F) (by omega) hB hCu
      obtain ⟨v', hv'', v1'⟩ := M_mendTwo (F := F) (by omega) hB ((hM.ex z2).ex v1)
      rw [hu, hv', bd2_some, bd2_some, hu', hv'', bd2_some, bd2_some]
      have e1 : ∀ {t : St}, ExM τ0 t → t 0 4 = 0 := fun h => by rw [mq4 h.mq]; exact h4
      cases efS (σ 2 2) (sf (σ 2 2) (kn0 30 31 σ 0 d) (kn1 30 31 σ 0 d) (kdF σ d) (whF σ d) (nsF 33 σ d)) (nS σ d) with
      | true =>
        rw [if_neg (show ¬ bI true = 0 by decide), if_neg (show ¬ bI true = 0 by decide)]
        by_cases w0 : w = 0
        · rw [if_pos w0, if_pos w0]; exact G1_ok R0 rfl rfl rfl hye z2.me (e1 z2)
        · rw [if_neg w0, if_neg w0]; exact G1_ok R0 rfl rfl rfl hye z2.me (e1 z2)
      | false =>
        rw [if_pos (show bI false = 0 from rfl), if_pos (show bI false = 0 from rfl)]
        have hue : CE σ u := hye.trans u1.ce
        have hve : ExM τ0 v := z2.trans v1
        by_cases hm1 : nO (fO (m1N (σ 2 2) (kn0 30 31 σ 0 d) (kn1 30 31 σ 0 d) (kdF σ d) (whF σ d) (nS σ d) (nsF 33 σ d)) (nS σ d)) = -1
        · rw [if_pos hm1, if_pos hm1]
          have hue' : CE σ u' := hue.trans u1'.ce
          have hve' : ExM τ0 v' := hve.trans v1'
          by_cases hm2 : nO (fO (m2N (σ 2 2) (kn0 30 31 σ 0 d) (kn1 30 31 σ 0 d) (kdF σ d) (whF σ d) (nS σ d) (nsF 33 σ d)) (nS σ d)) = -1
          · rw [if_pos hm2, if_pos hm2]
            by_cases w0 : w = 0
            · rw [if_pos w0]; exact G1_ok R0 rfl rfl hm2 hue' hve'.me (e1 hve')
            · rw [if_neg w0]; exact G1_ok R0 rfl rfl hm2 hue' hve'.me (e1 hve')
          · rw [if_neg hm2, if_neg hm2]
            by_cases w0 : w = 0
            · rw [if_pos w0, if_pos w0]; exact G1_ok R0 rfl rfl rfl hue' hve'.me (e1 hve')
            · rw [if_neg w0, if_neg w0]; exact G1_ok R0 rfl rfl rfl hue' hve'.me (e1 hve')
        · rw [if_neg hm1, if_neg hm1]
          by_cases w0 : w = 0
          · rw [if_pos w0, if_pos w0]; exact G1_ok R0 rfl rfl rfl hue hve.me (e1 hve)
          · rw [if_neg w0, if_neg w0]; exact G1_ok R0 rfl rfl rfl hue hve.me (e1 hve)
    · rw [if_neg hw, if_neg (by decide)]
      by_cases w1 : w < 0
      · rw [if_pos w1]; exact hno
      · rw [if_neg w1, if_neg (show ¬ w ≤ 1 by grind)]; exact hno
  · rw [if_neg hv, if_neg hv, if_neg (by decide), if_pos rfl]; exact hno
end
