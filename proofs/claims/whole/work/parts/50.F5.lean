set_option linter.unusedVariables false
set_option linter.unusedSimpArgs false
set_option maxRecDepth 16384
/-! walks cut in two; mend by two -/
theorem wkS_s (f : Nat → Po → Option Po) (a m : Nat) (p : Po) : wkS f a (m + 1) p = match f a p with
    | none => (some a, p)
    | some q => wkS f (a + 1) m q := rfl
theorem wk_split (f : Nat → Po → Option Po) : ∀ (m a n : Nat) (p : Po), wkS f a (m + n) p = match (wkS f a m p).1 with
    | none => wkS f (a + m) n (wkS f a m p).2
    | some _ => wkS f a m p := by
  intro m
  induction m with
  | zero => intro a n p; rw [Nat.zero_add]; rfl
  | succ m ih =>
    intro a n p
    rw [show m + 1 + n = (m + n) + 1 by omega, wkS_s f a (m + n) p, wkS_s f a m p]
    cases hf : f a p with
    | none => rfl
    | some q =>
      show wkS f (a + 1) (m + n) q = match (wkS f (a + 1) m q).1 with
        | none => wkS f (a + (m + 1)) n (wkS f (a + 1) m q).2
        | some _ => wkS f (a + 1) m q
      rw [ih (a + 1) n q, show a + 1 + m = a + (m + 1) by omega]
theorem wk_cg {f g : Nat → Po → Option Po} : ∀ (m a : Nat) (p : Po), (∀ k, a ≤ k → k < a + m → f k = g k) → wkS f a m p = wkS g a m p := by
  intro m
  induction m with
  | zero => intro a p _; rfl
  | succ m ih =>
    intro a p h
    rw [wkS_s, wkS_s, h a (by omega) (by omega)]
    cases g a p with
    | none => rfl
    | some q => exact ih (a + 1) q (fun k h1 h2 => h k (by omega) (by omega))
theorem wk_bad {f : Nat → Po → Option Po} {i j : Nat} {p : Po} {x : Nat} (h : (wkS f 0 i p).1 = some x) (hij : i ≤ j) : (wkS f 0 j p).1 = some x := by
  have := wk_split f i 0 (j - i) p
  rw [show i + (j - i) = j by omega, h] at this
  rw [this]; exact h
theorem fO_map (g : Nat → Option Nat) (h : Nat → Nat) : ∀ n, (fO g n).map h = fO (fun k => (g k).map h) n := by
  intro n
  induction n with
  | zero => rfl
  | succ n ih =>
    rw [fO_s, fO_s, ← ih]
    cases fO g n <;> rfl
def AtG (c : Nat) (σ : St) (p : Po) : Prop := σ c 0 = p.1 ∧ σ (c + 1) 0 = p.2.1 ∧ σ (c + 2) 0 = p.2.2.1 ∧ σ c 1 = p.2.2.2.1 ∧ σ (c + 1) 1 = p.2.2.2.2.1 ∧ σ (c + 2) 1 = p.2.2.2.2.2
theorem AtG.fr {c : Nat} {σ u : St} {p : Po} (h : AtG c σ p) (h0 : u c = σ c) (h1 : u (c + 1) = σ (c + 1)) (h2 : u (c + 2) = σ (c + 2)) : AtG c u p := by
  unfold AtG; rw [h0, h1, h2]; exact h
def b3G (s e : Nat) (F : Nat) (σ : St) : Option St := lp (fun (K2 : (St × Int32) → Option St) (v1 : St × Int32) => if (1 : Int32) < v1.2 then (some v1.1) else ckI (v1.2) 2 (ckI (v1.2) 2 (nm (up v1.1 e (Int32.toNatClampNeg v1.2) (v1.1 s (Int32.toNatClampNeg v1.2))) fun u4 => ckI (v1.2) 2 (ckI (v1.2) 2 (nm (up u4 (e + 1) (Int32.toNatClampNeg v1.2) (u4 (s + 1) (Int32.toNatClampNeg v1.2))) fun u5 => ckI (v1.2) 2 (ckI (v1.2) 2 (nm (up u5 (e + 2) (Int32.toNatClampNeg v1.2) (u5 (s + 2) (Int32.toNatClampNeg v1.2))) fun u6 => K2 ((u6, v1.2 + 1))))))))) F ((σ, 0))
theorem b3_1 : fX3_become = b3G 68 74 := rfl
theorem b3_2 : fX3_become_2 = b3G 74 68 := rfl
theorem b3_3 : fX3_become_3 = b3G 68 78 := rfl
theorem b3_4 : fX3_become_4 = b3G 78 68 := rfl
theorem C_b3 {s e F : Nat} (h : s + 3 ≤ e ∨ e + 3 ≤ s) (hF : 20 ≤ F) {σ : St} {p : Po} (hA : AtG s σ p) : ∃ u, b3G s e F σ = some u ∧ AtG e u p ∧ (∀ c, c ≠ e → c ≠ e + 1 → c ≠ e + 2 → u c = σ c) := by
  refine wpI fun Q hQ => ?_
  unfold b3G
  refine lp_up Q (fun k (v : St × Int32) => v.2 = qN k ∧ (∀ c, c ≠ e → c ≠ e + 1 → c ≠ e + 2 → v.1 c = σ c) ∧ (∀ j, j < k → v.1 e j = σ s j ∧ v.1 (e + 1) j = σ (s + 1) j ∧ v.1 (e + 2) j = σ (s + 2) j)) 2 ?_ F 0 _ (by omega) (by omega) ⟨rfl, fun _ _ _ _ => rfl, fun j hj => absurd hj (by omega)⟩
  rintro k ⟨v, c⟩ K hk ⟨hc, hE, hv⟩ hK
  dsimp only at hc hE hv
  subst hc
  dsimp only
  by_cases h2 : k = 2
  · subst h2
    rw [if_pos (by decide)]
    have a0 := hv 0 (by decide)
    have a1 := hv 1 (by decide)
    refine hQ _ ⟨⟨a0.1.trans hA.1, a0.2.1.trans hA.2.1, a0.2.2.trans hA.2.2.1, a1.1.trans hA.2.2.2.1, a1.2.1.trans hA.2.2.2.2.1, a1.2.2.trans hA.2.2.2.2.2⟩, hE⟩
  · rw [if_neg (by rw [show (1 : Int32) = qN 1 from rfl, q_lt (by omega) (by omega)]; omega)]
    refine wk (k := k) rfl (by omega) (by omega) (wk (k := k) rfl (by omega) (by omega) (wn fun u4 e4 => wk (k := k) rfl (by omega) (by omega) (wk (k := k) rfl (by omega) (by omega) (wn fun u5 e5 => wk (k := k) rfl (by omega) (by omega) (wk (k := k) rfl (by omega) (by omega) (wn fun u6 e6 => ?_))))))
    rw [q_clamp (by omega)] at e4 e5 e6
    have c4 : ∀ c, c ≠ e → u4 c = v c := fun c hc => by rw [e4, up_ne _ _ _ hc]
    have c5 : ∀ c, c ≠ e + 1 → u5 c = u4 c := fun c hc => by rw [e5, up_ne _ _ _ hc]
    have c6 : ∀ c, c ≠ e + 2 → u6 c = u5 c := fun c hc => by rw [e6, up_ne _ _ _ hc]
    refine hK _ (by omega) ⟨q_add k 1, fun c h1 h2 h3 => ?_, fun j hj => ?_⟩
    · show u6 c = _; rw [c6 c h3, c5 c h2, c4 c h1, hE c h1 h2 h3]
    · show u6 e j = _ ∧ u6 (e + 1) j = _ ∧ u6 (e + 2) j = _
      have g0 : u6 e = upd (v e) k (σ s k) := by rw [c6 e (by omega), c5 e (by omega), e4, up_same, hE s (by omega) (by omega) (by omega)]
      have g1 : u6 (e + 1) = upd (v (e + 1)) k (σ (s + 1) k) := by rw [c6 _ (by omega), e5, up_same, c4 _ (by omega), c4 (s + 1) (by omega), hE (s + 1) (by omega) (by omega) (by omega)]
      have g2 : u6 (e + 2) = upd (v (e + 2)) k (σ (s + 2) k) := by rw [e6, up_same, c5 _ (by omega), c4 _ (by omega), c5 (s + 2) (by omega), c4 (s + 2) (by omega), hE (s + 2) (by omega) (by omega) (by omega)]
      rw [g0, g1, g2]
      by_cases hjk : j = k
      · subst hjk; rw [upd_same, upd_same, upd_same]; exact ⟨rfl, rfl, rfl⟩
      · rw [upd_ne _ _ hjk, upd_ne _ _ hjk, upd_ne _ _ hjk]; exact hv j (by omega)
section
variable {F d S : Nat} {fl k0 k1 : Int32} {kd wh ns : Nat → Int32}
theorem sf_cg {ns ns' : Nat → Int32} {k : Nat} (h : ns k = ns' k) : sf fl k0 k1 kd wh ns k = sf fl k0 k1 kd wh ns' k := by
  funext p; unfold sf; rw [h]
/-- what comes out of a couple of other N -/
theorem ef_bad {ns' : Nat → Int32} {i x : Nat} (hi : i ≤ S) (hn : ∀ k, k < i → ns' k = ns k) (h : (wkS (sf fl k0 k1 kd wh ns) 0 i (p0 fl)).1 = some x) : efN fl k0 k1 kd wh S ns' = false := by
  have e : wkS (sf fl k0 k1 kd wh ns') 0 i (p0 fl) = wkS (sf fl k0 k1 kd wh ns) 0 i (p0 fl) := wk_cg _ _ _ (fun k _ hk => sf_cg (hn k (by omega)))
  rw [← e] at h
  unfold efN efS
  rw [wk_bad h hi]; rfl
theorem ef_cut {ns' : Nat → Int32} {i : Nat} (hi : i ≤ S) (hn : ∀ k, k < i → ns' k = ns k) (h : (wkS (sf fl k0 k1 kd wh ns) 0 i (p0 fl)).1 = none) : efN fl k0 k1 kd wh S ns' = ((wkS (sf fl k0 k1 kd wh ns') i (S - i) (wkS (sf fl k0 k1 kd wh ns) 0 i (p0 fl)).2).1.isNone && fcS (wkS (sf fl k0 k1 kd wh ns') i (S - i) (wkS (sf fl k0 k1 kd wh ns) 0 i (p0 fl)).2).2) := by
  have e : wkS (sf fl k0 k1 kd wh ns') 0 i (p0 fl) = wkS (sf fl k0 k1 kd wh ns) 0 i (p0 fl) := wk_cg _ _ _ (fun k _ hk => sf_cg (hn k (by omega)))
  unfold efN efS
  have := wk_split (sf fl k0 k1 kd wh ns') i 0 (S - i) (p0 fl)
  rw [show i + (S - i) = S by omega, e, h] at this
  rw [this, Nat.zero_add]
def frN (fl k0 k1 : Int32) (kd wh : Nat → Int32) (S : Nat) (ns : Nat → Int32) (j : Nat) (p : Po) (n : Nat) : Option Nat := if qN n = ns j then none else if (wkS (sf fl k0 k1 kd wh (upd ns j (qN n))) j (S - j) p).1.isNone && fcS (wkS (sf fl k0 k1 kd wh (upd ns j (qN n))) j (S - j) p).2 then some (10 * j + n) else none
def cpN (fl k0 k1 : Int32) (kd wh : Nat → Int32) (S : Nat) (ns : Nat → Int32) (i j : Nat) (p : Po) (n : Nat) : Option Nat := if qN n = ns i then none else if (wkS (sf fl k0 k1 kd wh (upd ns i (qN n))) i (j - i) p).1.isNone then (fO (frN fl k0 k1 kd wh S (upd ns i (qN n)) j (wkS (sf fl k0 k1 kd wh (upd ns i (qN n))) i (j - i) p).2) 10).map (fun x => 100 * (10 * i + n) + x) else none
def mqN (fl k0 k1 : Int32) (kd wh : Nat → Int32) (S : Nat) (ns : Nat → Int32) (i j n q : Nat) : Option Nat := if qN q = ns j then none else if efN fl k0 k1 kd wh S (upd (upd ns i (qN n)) j (qN q)) then some (100 * (10 * i + n) + 10 * j + q) else none
def mbN (fl k0 k1 : Int32) (kd wh : Nat → Int32) (S : Nat) (ns : Nat → Int32) (i j n : Nat) : Option Nat := if qN n = ns i then none else fO (mqN fl k0 k1 kd wh S ns i j n) 10
def m2N (fl k0 k1 : Int32) (kd wh : Nat → Int32) (S : Nat) (ns : Nat → Int32) (i : Nat) : Option Nat := fO (fun j => if i < j ∧ cgK kd i = true ∧ cgK kd j = true then fO (mbN fl k0 k1 kd wh S ns i j) 10 else none) S
theorem mb_bad {i j x : Nat} (hj : i < j) (hjS : j < S) (h : (wkS (sf fl k0 k1 kd wh ns) 0 i (p0 fl)).1 = some x) : fO (mbN fl k0 k1 kd wh S ns i j) 10 = none := by
  refine fO_all 10 (fun n hn => ?_)
  unfold mbN
  split
  · rfl
  · refine fO_all 10 (fun q hq => ?_)
    unfold mqN
    split
    · rfl
    · rw [ef_bad (ns := ns) (i := i) (by omega) (fun k hk => by rw [upd_ne _ _ (by omega), upd_ne _ _ (by omega)]) h]; rfl
theorem mb_cp {i j : Nat} (hj : i < j) (hjS : j < S) (h : (wkS (sf fl k0 k1 kd wh ns) 0 i (p0 fl)).1 = none) : fO (cpN fl k0 k1 kd wh S ns i j (wkS (sf fl k0 k1 kd wh ns) 0 i (p0 fl)).2) 10 = fO (mbN fl k0 k1 kd wh S ns i j) 10 := by
  refine fO_cg 10 (fun n hn => ?_)
  unfold cpN mbN
  split
  · rfl
  · generalize hP : (wkS (sf fl k0 k1 kd wh ns) 0 i (p0 fl)).2 = P at *
    have hw : wkS (sf fl k0 k1 kd wh (upd ns i (qN n))) 0 i (p0 fl) = wkS (sf fl k0 k1 kd wh ns) 0 i (p0 fl) := wk_cg _ _ _ (fun k _ hk => sf_cg (by rw [upd_ne _ _ (by omega)]))
    have hwj : wkS (sf fl k0 k1 kd wh (upd ns i (qN n))) 0 j (p0 fl) = wkS (sf fl k0 k1 kd wh (upd ns i (qN n))) i (j - i) P := by
      have := wk_split (sf fl k0 k1 kd wh (upd ns i (qN n))) i 0 (j - i) (p0 fl)
      rw [show i + (j - i) = j by omega, hw, h, hP, Nat.zero_add] at this
      exact this
    cases hc : (wkS (sf fl k0 k1 kd wh (upd ns i (qN n))) i (j - i) P).1 with
    | some x =>
      rw [if_neg (by simp)]
      refine (fO_all 10 (fun q hq => ?_)).symm
      unfold mqN
      split
      · rfl
      · rw [ef_bad (ns := upd ns i (qN n)) (i := j) (by omega) (fun k hk => by rw [upd_ne _ _ (by omega)]) (by rw [hwj]; exact hc)]; rfl
    | none =>
      rw [if_pos (show (none : Option Nat).isNone = true from rfl), fO_map]
      refine fO_cg 10 (fun q hq => ?_)
      have hnj : upd ns i (qN n) j = ns j := upd_ne _ _ (by omega)
      have hef := ef_cut (S := S) (ns := upd ns i (qN n)) (ns' := upd (upd ns i (qN n)) j (qN q)) (i := j) (by omega) (fun k hk => by rw [upd_ne _ _ (by omega)]) (by rw [hwj]; exact hc)
      rw [hwj] at hef
      unfold mqN frN
      rw [hnj, hef]
      split
      · rfl
      · cases ((wkS (sf fl k0 k1 kd wh (upd (upd ns i (qN n)) j (qN q))) j (S - j) (wkS (sf fl k0 k1 kd wh (upd ns i (qN n))) i (j - i) P).2).1.isNone && fcS (wkS (sf fl k0 k1 kd wh (upd (upd ns i (qN n)) j (qN q))) j (S - j) (wkS (sf fl k0 k1 kd wh (upd ns i (qN n))) i (j - i) P).2).2)
        · rfl
        · show some (100 * (10 * i + n) + (10 * j + q)) = some (100 * (10 * i + n) + 10 * j + q)
          congr 1; omega
theorem fr_lt {j n x : Nat} {p : Po} (h : frN fl k0 k1 kd wh S ns j p n = some x) : x = 10 * j + n := by
  unfold frN at h
  by_cases h1 : qN n = ns j
  · rw [if_pos h1] at h; cases h
  · rw [if_neg h1] at h
    split at h
    · injection h with h; exact h.symm
    · cases h
theorem cp_lt {i j n x : Nat} {p : Po} (h : cpN fl k0 k1 kd wh S ns i j p n = some x) : x < 100 * (10 * i + n) + 10 * j + 10 := by
  unfold cpN at h
  by_cases h1 : qN n = ns i
  · rw [if_pos h1] at h; cases h
  · rw [if_neg h1] at h
    split at h
    · cases hf : fO (frN fl k0 k1 kd wh S (upd ns i (qN n)) j (wkS (sf fl k0 k1 kd wh (upd ns i (qN n))) i (j - i) p).2) 10 with
      | none => rw [hf] at h; cases h
      | some y =>
        rw [hf] at h
        obtain ⟨k, hk, e⟩ := fO_ex hf
        have := fr_lt e
        have h' : 100 * (10 * i + n) + y = x := Option.some.inj h
        omega
    · cases h
theorem mb_lt {i j n x : Nat} (hn : n < 10) (h : mbN fl k0 k1 kd wh S ns i j n = some x) : x < 100 * (10 * i + n) + 10 * j + 10 := by
  unfold mbN at h
  split at h
  · cases h
  · obtain ⟨q, hq, e⟩ := fO_ex h
    unfold mqN at e
    split at e
    · cases e
    · split at e
      · injection e with e; omega
      · cases e
theorem C_firstFrom (hF : 20 ≤ F) (hB : PB S k0 k1 kd wh ns) {σ : St} (hC : CP σ d S fl k0 k1 kd wh ns) {p : Po} (hA : AtG 78 σ p) (hp : PoOk p) {i : Nat} (hi : i < S) :
    ∃ u, fX5_firstFacingFrom F σ (qN i) = some (nO (fO (frN fl k0 k1 kd wh S ns i p) 10), u) ∧ (∀ c, c ≠ 68 → c ≠ 69 → c ≠ 70 → c ≠ 71 → u c = σ c) ∧ (∀ j, j < S → u 71 j = ns j) := by
  have hS := hB.1
  have hm : ∃ x, fX5_firstFacingFrom F σ (qN i) = some x ∧ x.1 = nO (fO (frN fl k0 k1 kd wh S ns i p) 10) ∧ (∀ c, c ≠ 68 → c ≠ 69 → c ≠ 70 → c ≠ 71 → x.2 c = σ c) ∧ (∀ j, j < S → x.2 71 j = ns j) := by
    refine wpI fun Q hQ => ?_
    unfold fX5_firstFacingFrom
    refine wk (k := i) rfl (by omega) (by omega) (wn fun x1 e1 => ?_)
    rw [q_clamp (by omega), (hC.2.2.2.2.2.2 i hi).2.2] at e1
    subst e1
    refine lp_up Q (fun n (v : St × Int32 × Int32) => (∀ c, c ≠ 68 → c ≠ 69 → c ≠ 70 → c ≠ 71 → v.1 c = σ c) ∧ (∀ j, j < S → j ≠ i → v.1 71 j = ns j) ∧ v.2.1 = qN n ∧ v.2.2 = nO (fO (frN fl k0 k1 kd wh S ns i p) n)) 10 ?_ F 0 _ (by omega) (by omega) ⟨fun _ _ _ _ _ => rfl, fun j hj _ => (hC.2.2.2.2.2.2 j hj).2.2, rfl, rfl⟩
    rintro n ⟨v, c, f⟩ K hn ⟨hE, h71, hc, hf⟩ hK
    dsimp only at hE h71 hc hf
    subst hc hf
    dsimp only
    refine wj fun J hJ => ?_
    have hJQ : fO (frN fl k0 k1 kd wh S ns i p) n = fO (frN fl k0 k1 kd wh S ns i p) 10 → Q (J ()) := by
      intro he
      rw [hJ]
      refine wk (k := i) rfl (by omega) (by omega) (wn fun u8 e8 => hQ _ ⟨by rw [he], fun c c1 c2 c3 c4 => ?_, fun j hj => ?_⟩)
      · show u8 c = _; rw [e8, up_ne _ _ _ c4]; exact hE c c1 c2 c3 c4
      · show u8 71 j = _
        rw [e8, q_clamp (by omega), up_same]
        by_cases hji : j = i
        · subst hji; rw [upd_same]
        · rw [upd_ne _ _ hji]; exact h71 j hj hji
    have hlt : ∀ x, fO (frN fl k0 k1 kd wh S ns i p) n = some x → x < 2147483648 := by
      intro x hx
      obtain ⟨k, hk, e⟩ := fO_ex hx
      have := fr_lt e
      omega
    by_cases h10 : n = 10
    · subst h10
      rw [if_pos (by decide)]; exact hJQ rfl
    · rw [if_neg (by rw [show (9 : Int32) = qN 9 from rfl, q_lt (by omega) (by omega)]; omega)]
      cases hfo : fO (frN fl k0 k1 kd wh S ns i p) n with
      | some x =>
        rw [hfo] at hlt
        rw [if_neg (by rw [nO_m1 hlt]; intro h; cases h)]
        exact hJQ (by rw [hfo]; exact (fO_some hfo 10 (by omega)).symm)
      | none =>
        rw [if_pos (show nO none = -1 from rfl)]
        obtain ⟨w, hw, wA, wE⟩ := C_b3 (s := 78) (e := 68) (F := F) (by omega) hF (hA.fr (u := v) (hE 78 (by decide) (by decide) (by decide) (by decide)) (hE 79 (by decide) (by decide) (by decide) (by decide)) (hE 80 (by decide) (by decide) (by decide) (by decide)))
        rw [b3_4]
        refine wb1 hw (wk (k := i) rfl (by omega) (by omega) (wn fun u9 e9 => ?_))
        rw [q_clamp (by omega)] at e9
        have hX9 : ∀ c, c ≠ 68 → c ≠ 69 → c ≠ 70 → c ≠ 71 → u9 c = σ c := fun c c1 c2 c3 c4 => by rw [e9, up_ne _ _ _ c4, wE c c1 c2 c3]; exact hE c c1 c2 c3 c4
        have hE9 : HE σ u9 := ⟨fun c hc => hX9 c (by omega) (by omega) (by omega) (by omega), hX9 66 (by decide) (by decide) (by decide) (by decide)⟩
        have h9 : ∀ j, j < S → u9 71 j = upd ns i (qN n) j := fun j hj => by
          rw [e9, up_same, wE 71 (by decide) (by decide) (by decide)]
          by_cases hji : j = i
          · subst hji; rw [upd_same, upd_same]
          · rw [upd_ne _ _ hji, upd_ne _ _ hji]; exact h71 j hj hji
        have hA9 : AtC u9 p := by
          have : AtG 68 u9 p := wA.fr (by rw [e9, up_ne _ _ _ (by decide)]) (by rw [e9, up_ne _ _ _ (by decide)]) (by rw [e9, up_ne _ _ _ (by decide)])
          exact this
        refine wi (fun hni => ?_) fun hni => ?_
        · refine hK _ (by omega) ⟨hX9, fun j hj hji => by show u9 71 j = _; rw [h9 j hj, upd_ne _ _ hji], q_add n 1, ?_⟩
          show nO none = nO (fO _ (n + 1))
          rw [fO_none hfo]; unfold frN; rw [if_pos hni]
        · have hC9 := hC.he hE9 h9
          have hB9 := hB.upd (i := i) (q09 (n := n) (by omega))
          rw [hC9.2.2.1]
          obtain ⟨y, hy, y1, y2, y3⟩ := C_walk hF hB9 hC9 hA9 hp (a := i) (b := S) (by omega) (Nat.le_refl S)
          refine wb2 (r := y.1) (u := y.2) hy ?_
          have hXy : ∀ c, c ≠ 68 → c ≠ 69 → c ≠ 70 → c ≠ 71 → y.2 c = σ c := fun c c1 c2 c3 c4 => by rw [y3 c c1 c2 c3]; exact hX9 c c1 c2 c3 c4
          have h7y : ∀ j, j < S → j ≠ i → y.2 71 j = ns j := fun j hj hji => by rw [y3 71 (by decide) (by decide) (by decide), h9 j hj, upd_ne _ _ hji]
          have hg : frN fl k0 k1 kd wh S ns i p n = if (wkS (sf fl k0 k1 kd wh (upd ns i (qN n))) i (S - i) p).1.isNone && fcS (wkS (sf fl k0 k1 kd wh (upd ns i (qN n))) i (S - i) p).2 then some (10 * i + n) else none := by unfold frN; rw [if_neg hni]
          rw [y1]
          have hok := wk_ok (fl := fl) hB9 (S - i) i p (by omega) hp
          cases hw1 : (wkS (sf fl k0 k1 kd wh (upd ns i (qN n))) i (S - i) p).1 with
          | some x =>
            have hx := wk_lt _ _ _ _ hw1
            rw [if_neg (by rw [nO_m1 (fun y hy => by injection hy with hy; omega)]; intro h; cases h)]
            refine hK _ (by omega) ⟨hXy, h7y, q_add n 1, ?_⟩
            show nO none = nO (fO _ (n + 1))
            rw [fO_none hfo, hg, hw1]; rfl
          | none =>
            rw [if_pos (show nO none = -1 from rfl)]
            refine wb1 (C_facing y2 hok) ?_
            rw [hw1] at hg
            cases hfc : fcS (wkS (sf fl k0 k1 kd wh (upd ns i (qN n))) i (S - i) p).2 with
            | false =>
              rw [if_pos (show bI false = 0 from rfl)]
              refine hK _ (by omega) ⟨hXy, h7y, q_add n 1, ?_⟩
              show nO none = nO (fO _ (n + 1))
              rw [fO_none hfo, hg, hfc]; rfl
            | true =>
              rw [if_neg (show ¬ bI true = 0 by decide)]
              refine wn fun x12 e12 => hK _ (by omega) ⟨hXy, h7y, q_add n 1, ?_⟩
              show x12 = nO (fO _ (n + 1))
              rw [fO_none hfo, hg, hfc, e12, pl_m]; rfl
  obtain ⟨x, hx, x1, x2, x3⟩ := hm
  exact ⟨x.2, by rw [hx, ← x1], x2, x3⟩
end
