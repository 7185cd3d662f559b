set_option linter.unusedVariables false
set_option linter.unusedSimpArgs false
set_option maxRecDepth 16384
/-! copies, rows that are packed -/
theorem acp_0 (σ : St) (c sO k dO : Nat) : acp σ c sO k dO 0 = σ := by
  funext a
  unfold acp va_cpy
  by_cases h : a = k
  · subst h
    rw [if_pos rfl]
    funext j
    rw [if_neg (by omega)]
  · rw [if_neg h]
theorem acp_ne (σ : St) (c sO k dO N : Nat) {a : Nat} (h : a ≠ k) : acp σ c sO k dO N a = σ a := by unfold acp; rw [if_neg h]
theorem acp_in (σ : St) (c sO k dO N : Nat) {i : Nat} (h : i < N) : acp σ c sO k dO N k (dO + i) = σ c (sO + i) := by
  unfold acp va_cpy
  rw [if_pos rfl, if_pos ⟨by omega, by omega⟩, show dO + i - dO = i by omega]
theorem acp_out (σ : St) (c sO k dO N : Nat) {j : Nat} (h : j < dO ∨ dO + N ≤ j) : acp σ c sO k dO N k j = σ k j := by
  unfold acp va_cpy
  rw [if_pos rfl, if_neg (by omega)]
theorem acp_s (σ : St) (c sO k dO i : Nat) (hkc : c ≠ k ∨ dO ≤ sO) : up (acp σ c sO k dO i) k (dO + i) (acp σ c sO k dO i c (sO + i)) = acp σ c sO k dO (i + 1) := by
  have hr : acp σ c sO k dO i c (sO + i) = σ c (sO + i) := by
    by_cases hc : c = k
    · subst hc
      exact acp_out _ _ _ _ _ _ (by have := hkc.resolve_left (fun h => h rfl); omega)
    · rw [acp_ne _ _ _ _ _ _ hc]
  rw [hr]
  funext a
  by_cases h : a = k
  · subst h
    rw [up_same]
    funext j
    by_cases hj : j = dO + i
    · subst hj
      rw [upd_same, acp_in _ _ _ _ _ _ (by omega)]
    · rw [upd_ne _ _ hj]
      by_cases h2 : j < dO ∨ dO + i ≤ j
      · rw [acp_out _ _ _ _ _ _ h2, acp_out _ _ _ _ _ _ (by omega)]
      · obtain ⟨t, rfl⟩ : ∃ t, j = dO + t := ⟨j - dO, by omega⟩
        rw [acp_in _ _ _ _ _ _ (by omega), acp_in _ _ _ _ _ _ (by omega)]
  · rw [up_ne _ _ _ h, acp_ne _ _ _ _ _ _ h, acp_ne _ _ _ _ _ _ h]
theorem cp_lp {R : Type} {b : ((St × Int32) → Option R) → St × Int32 → Option R} (s0 N k c sO dO : Nat) (hkc : c ≠ k ∨ dO ≤ sO)
    (hb : ∀ K u i, i < N → b K (u, qN (s0 + i)) = K (up u k (dO + i) (u c (sO + i)), qN (s0 + (i + 1))))
    (he : ∀ K K' u, b K (u, qN (s0 + N)) = b K' (u, qN (s0 + N))) {F : Nat} (hF : N < F) (σ : St) : lp b F (σ, qN s0) = b (fun _ => none) (acp σ c sO k dO N, qN (s0 + N)) := by
  have key : ∀ (m F i : Nat), i + m = N → m < F → lp b F (acp σ c sO k dO i, qN (s0 + i)) = b (fun _ => none) (acp σ c sO k dO N, qN (s0 + N)) := by
    intro m
    induction m with
    | zero =>
      intro F i hi hF
      cases F with
      | zero => omega
      | succ F =>
        have : i = N := by omega
        subst this
        exact he _ _ _
    | succ m ih =>
      intro F i hi hF
      cases F with
      | zero => omega
      | succ F =>
        show b (lp b F) (acp σ c sO k dO i, qN (s0 + i)) = _
        rw [hb _ _ i (by omega), acp_s _ _ _ _ _ _ hkc]
        exact ih F (i + 1) (by omega) (by omega)
  have := key N F 0 (by omega) hF
  rw [acp_0] at this
  exact this
def beG (k c n : Nat) (F : Nat) (σ : St) : Option St := lp (fun (K2 : (St × Int32) → Option St) (v1 : St × Int32) => if qN n ≤ v1.2 then (some v1.1) else ckI (v1.2) n (ckI (v1.2) n (nm (up v1.1 k (Int32.toNatClampNeg v1.2) (v1.1 c (Int32.toNatClampNeg v1.2))) fun u4 => K2 ((u4, v1.2 + 1))))) F ((σ, 0))
theorem M_beG {k c n F : Nat} (hkc : c ≠ k) (hn : n < 10000) (hF : n < F) (σ : St) : beG k c n F σ = some (acp σ c 0 k 0 n) := by
  unfold beG
  rw [show (0 : Int32) = qN 0 from rfl, cp_lp 0 n k c 0 0 (.inl hkc) ?_ ?_ hF]
  · dsimp only
    rw [if_pos (by rw [Nat.zero_add]; exact Int32.le_refl _)]
  · intro K u i hi
    dsimp only
    rw [Nat.zero_add, if_neg (by rw [q_le (by omega) (by omega)]; omega), ck_ok (by omega) (by omega), ck_ok (by omega) (by omega), q_clamp (by omega)]
    show K (_, qN i + qN 1) = _
    rw [q_add, Nat.zero_add]
  · intro K K' u
    dsimp only
    rw [if_pos (by rw [Nat.zero_add]; exact Int32.le_refl _), if_pos (by rw [Nat.zero_add]; exact Int32.le_refl _)]
def pkS (τ : St) (k o : Nat) : St := acp (acp (acp (up (up τ k o (τ 0 31)) k (o + 1) (τ 0 32)) 18 0 k (o + 2) 8) 13 0 k (o + 10) 80) 19 0 k (o + 90) 48
def unT (τ : St) (k o : Nat) : St := acp (acp (acp (up (up τ 0 31 (τ k o)) 0 32 (τ k (o + 1))) k (o + 2) 18 0 8) k (o + 10) 13 0 80) k (o + 90) 19 0 48
def pkG (k n : Nat) (F : Nat) (σ : St) (a1 : Int32) : Option St := ckI (a1) n (nm (up σ k (Int32.toNatClampNeg a1) (σ 0 31)) fun u1 => ckI (a1 + qN 1) n (nm (up u1 k (Int32.toNatClampNeg (a1 + qN 1)) (u1 0 32)) fun u2 => nm (a1 + qN 2) fun x3 => lp (fun (K5 : (St × Int32) → Option St) (v4 : St × Int32) => if qN 8 ≤ v4.2 then (lp (fun (K8 : (St × Int32) → Option St) (v7 : St × Int32) => if qN 80 ≤ v7.2 then (lp (fun (K11 : (St × Int32) → Option St) (v10 : St × Int32) => if qN 48 ≤ v10.2 then (some v10.1) else ckI (v10.2) 48 (ckI (((x3 + qN 8) + qN 80) + v10.2) n (nm (up v10.1 k (Int32.toNatClampNeg (((x3 + qN 8) + qN 80) + v10.2)) (v10.1 19 (Int32.toNatClampNeg v10.2))) fun u13 => K11 ((u13, v10.2 + qN 1))))) F ((v7.1, qN 0))) else ckI (v7.2) 160 (ckI ((x3 + qN 8) + v7.2) n (nm (up v7.1 k (Int32.toNatClampNeg ((x3 + qN 8) + v7.2)) (v7.1 13 (Int32.toNatClampNeg v7.2))) fun u14 => K8 ((u14, v7.2 + qN 1))))) F ((v4.1, qN 0))) else ckI (v4.2) 8 (ckI (x3 + v4.2) n (nm (up v4.1 k (Int32.toNatClampNeg (x3 + v4.2)) (v4.1 18 (Int32.toNatClampNeg v4.2))) fun u15 => K5 ((u15, v4.2 + qN 1))))) F ((u2, qN 0))))
def unG (k n : Nat) (F : Nat) (σ : St) (a1 : Int32) : Option St := ckI (a1) n (nm (up σ 0 31 (σ k (Int32.toNatClampNeg a1))) fun u2 => ckI (a1 + qN 1) n (nm (up u2 0 32 (u2 k (Int32.toNatClampNeg (a1 + qN 1)))) fun u4 => nm (a1 + qN 2) fun x5 => lp (fun (K7 : (St × Int32) → Option St) (v6 : St × Int32) => if qN 8 ≤ v6.2 then (lp (fun (K10 : (St × Int32) → Option St) (v9 : St × Int32) => if qN 80 ≤ v9.2 then (lp (fun (K13 : (St × Int32) → Option St) (v12 : St × Int32) => if qN 48 ≤ v12.2 then (some v12.1) else ckI (((x5 + qN 8) + qN 80) + v12.2) n (ckI (v12.2) 48 (nm (up v12.1 19 (Int32.toNatClampNeg v12.2) (v12.1 k (Int32.toNatClampNeg (((x5 + qN 8) + qN 80) + v12.2)))) fun u15 => K13 ((u15, v12.2 + qN 1))))) F ((v9.1, qN 0))) else ckI ((x5 + qN 8) + v9.2) n (ckI (v9.2) 160 (nm (up v9.1 13 (Int32.toNatClampNeg v9.2) (v9.1 k (Int32.toNatClampNeg ((x5 + qN 8) + v9.2)))) fun u16 => K10 ((u16, v9.2 + qN 1))))) F ((v6.1, qN 0))) else ckI (x5 + v6.2) n (ckI (v6.2) 8 (nm (up v6.1 18 (Int32.toNatClampNeg v6.2) (v6.1 k (Int32.toNatClampNeg (x5 + v6.2)))) fun u17 => K7 ((u17, v6.2 + qN 1))))) F ((u4, qN 0))))
theorem pk_1 : fX11_pack = pkG 20 5520 := rfl
theorem pk_2 : fX11_pack_2 = pkG 33 138 := rfl
theorem pk_3 : fX11_pack_3 = pkG 34 138 := rfl
theorem un_1 : fX11_unpack = unG 20 5520 := rfl
theorem un_2 : fX11_unpack_2 = unG 33 138 := rfl
theorem un_3 : fX11_unpack_3 = unG 34 138 := rfl
theorem M_pkG {k n F : Nat} (hk : k ≠ 0 ∧ k ≠ 13 ∧ k ≠ 18 ∧ k ≠ 19) (hF : 100 ≤ F) (τ : St) {o : Nat} (ho : o + 138 ≤ n) (hn : n < 10000) : pkG k n F τ (qN o) = some (pkS τ k o) := by
  unfold pkG
  simp only [nm, q_add]
  rw [ck_ok (by omega) (by omega), q_clamp (by omega)]
  rw [ck_ok (by omega) (by omega), q_clamp (by omega), up_ne _ _ _ (Ne.symm hk.1)]
  rw [cp_lp 0 8 k 18 0 (o + 2) (.inl (Ne.symm hk.2.2.1)) ?_ ?_ (by omega)]
  · dsimp only
    rw [if_pos (show qN 8 ≤ qN (0 + 8) from Int32.le_refl (qN 8)), cp_lp 0 80 k 13 0 (o + 10) (.inl (Ne.symm hk.2.1)) ?_ ?_ (by omega)]
    · dsimp only
      rw [if_pos (show qN 80 ≤ qN (0 + 80) from Int32.le_refl (qN 80)), cp_lp 0 48 k 19 0 (o + 90) (.inl (Ne.symm hk.2.2.2)) ?_ ?_ (by omega)]
      · dsimp only
        rw [if_pos (show qN 48 ≤ qN (0 + 48) from Int32.le_refl (qN 48))]
        rfl
      · intro K u i hi
        dsimp only
        rw [Nat.zero_add, if_neg (by rw [q_le (by omega) (by omega)]; omega), q_add, ck_ok (by omega) (by omega), ck_ok (by omega) (by omega), q_clamp (by omega), q_clamp (by omega), q_add]
        rw [show o + 2 + 8 + 80 + i = o + 90 + i by omega, Nat.zero_add]
      · intro K K' u
        dsimp only
        rw [if_pos (show qN 48 ≤ qN (0 + 48) from Int32.le_refl (qN 48)), if_pos (show qN 48 ≤ qN (0 + 48) from Int32.le_refl (qN 48))]
    · intro K u i hi
      dsimp only
      rw [Nat.zero_add, if_neg (by rw [q_le (by omega) (by omega)]; omega), q_add, ck_ok (by omega) (by omega), ck_ok (by omega) (by omega), q_clamp (by omega), q_clamp (by omega), q_add]
      rw [show o + 2 + 8 + i = o + 10 + i by omega, Nat.zero_add]
    · intro K K' u
      dsimp only
      rw [if_pos (show qN 80 ≤ qN (0 + 80) from Int32.le_refl (qN 80)), if_pos (show qN 80 ≤ qN (0 + 80) from Int32.le_refl (qN 80))]
  · intro K u i hi
    dsimp only
    rw [Nat.zero_add, if_neg (by rw [q_le (by omega) (by omega)]; omega), q_add, ck_ok (by omega) (by omega), ck_ok (by omega) (by omega), q_clamp (by omega), q_clamp (by omega), q_add, Nat.zero_add]
  · intro K K' u
    dsimp only
    rw [if_pos (show qN 8 ≤ qN (0 + 8) from Int32.le_refl (qN 8)), if_pos (show qN 8 ≤ qN (0 + 8) from Int32.le_refl (qN 8))]
theorem M_unG {k n F : Nat} (hk : k ≠ 0 ∧ k ≠ 13 ∧ k ≠ 18 ∧ k ≠ 19) (hF : 100 ≤ F) (τ : St) {o : Nat} (ho : o + 138 ≤ n) (hn : n < 10000) : unG k n F τ (qN o) = some (unT τ k o) := by
  unfold unG
  simp only [nm, q_add]
  rw [ck_ok (by omega) (by omega), q_clamp (by omega)]
  rw [ck_ok (by omega) (by omega), q_clamp (by omega), up_ne _ _ _ hk.1]
  rw [cp_lp 0 8 18 k (o + 2) 0 (.inl hk.2.2.1) ?_ ?_ (by omega)]
  · dsimp only
    rw [if_pos (show qN 8 ≤ qN (0 + 8) from Int32.le_refl (qN 8)), cp_lp 0 80 13 k (o + 10) 0 (.inl hk.2.1) ?_ ?_ (by omega)]
    · dsimp only
      rw [if_pos (show qN 80 ≤ qN (0 + 80) from Int32.le_refl (qN 80)), cp_lp 0 48 19 k (o + 90) 0 (.inl hk.2.2.2) ?_ ?_ (by omega)]
      · dsimp only
        rw [if_pos (show qN 48 ≤ qN (0 + 48) from Int32.le_refl (qN 48))]
        rfl
      · intro K u i hi
        dsimp only
        rw [Nat.zero_add, if_neg (by rw [q_le (by omega) (by omega)]; omega), q_add, ck_ok (by omega) (by omega), ck_ok (by omega) (by omega), q_clamp (by omega), q_clamp (by omega), q_add]
        rw [show o + 2 + 8 + 80 + i = o + 90 + i by omega, Nat.zero_add]
      · intro K K' u
        dsimp only
        rw [if_pos (show qN 48 ≤ qN (0 + 48) from Int32.le_refl (qN 48)), if_pos (show qN 48 ≤ qN (0 + 48) from Int32.le_refl (qN 48))]
    · intro K u i hi
      dsimp only
      rw [Nat.zero_add, if_neg (by rw [q_le (by omega) (by omega)]; omega), q_add, ck_ok (by omega) (by omega), ck_ok (by omega) (by omega), q_clamp (by omega), q_clamp (by omega), q_add]
      rw [show o + 2 + 8 + i = o + 10 + i by omega, Nat.zero_add]
    · intro K K' u
      dsimp only
      rw [if_pos (show qN 80 ≤ qN (0 + 80) from Int32.le_refl (qN 80)), if_pos (show qN 80 ≤ qN (0 + 80) from Int32.le_refl (qN 80))]
  · intro K u i hi
    dsimp only
    rw [Nat.zero_add, if_neg (by rw [q_le (by omega) (by omega)]; omega), q_add, ck_ok (by omega) (by omega), ck_ok (by omega) (by omega), q_clamp (by omega), q_clamp (by omega), q_add, Nat.zero_add]
  · intro K K' u
    dsimp only
    rw [if_pos (show qN 8 ≤ qN (0 + 8) from Int32.le_refl (qN 8)), if_pos (show qN 8 ≤ qN (0 + 8) from Int32.le_refl (qN 8))]
theorem pk_ne (τ : St) (k o : Nat) {c : Nat} (h : c ≠ k) : pkS τ k o c = τ c := by
  unfold pkS
  rw [acp_ne _ _ _ _ _ _ h, acp_ne _ _ _ _ _ _ h, acp_ne _ _ _ _ _ _ h, up_ne _ _ _ h, up_ne _ _ _ h]
theorem pk_out (τ : St) (k o : Nat) {j : Nat} (h : j < o ∨ o + 138 ≤ j) : pkS τ k o k j = τ k j := by
  unfold pkS
  rw [acp_out _ _ _ _ _ _ (by omega), acp_out _ _ _ _ _ _ (by omega), acp_out _ _ _ _ _ _ (by omega), up_same, upd_ne _ _ (by omega), up_same, upd_ne _ _ (by omega)]
theorem pk_at (τ : St) {k : Nat} (o : Nat) (hk : k ≠ 0 ∧ k ≠ 13 ∧ k ≠ 18 ∧ k ≠ 19) {j : Nat} (h : j < 138) : pkS τ k o k (o + j) = rowM τ j := by
  unfold pkS rowM
  by_cases h0 : j = 0
  · subst h0
    rw [if_pos rfl, acp_out _ _ _ _ _ _ (by omega), acp_out _ _ _ _ _ _ (by omega), acp_out _ _ _ _ _ _ (by omega), up_same, upd_ne _ _ (by omega), up_same, Nat.add_zero, upd_same]
  by_cases h1 : j = 1
  · subst h1
    rw [if_neg (by decide), if_pos rfl, acp_out _ _ _ _ _ _ (by omega), acp_out _ _ _ _ _ _ (by omega), acp_out _ _ _ _ _ _ (by omega), up_same, upd_same]
  rw [if_neg h0, if_neg h1]
  by_cases h2 : j < 10
  · rw [if_pos h2, acp_out _ _ _ _ _ _ (by omega), acp_out _ _ _ _ _ _ (by omega), show o + j = o + 2 + (j - 2) by omega, acp_in _ _ _ _ _ _ (by omega), up_ne _ _ _ (Ne.symm hk.2.2.1), up_ne _ _ _ (Ne.symm hk.2.2.1), Nat.zero_add]
  rw [if_neg h2]
  by_cases h3 : j < 90
  · rw [if_pos h3, acp_out _ _ _ _ _ _ (by omega), show o + j = o + 10 + (j - 10) by omega, acp_in _ _ _ _ _ _ (by omega), acp_ne _ _ _ _ _ _ (Ne.symm hk.2.1), up_ne _ _ _ (Ne.symm hk.2.1), up_ne _ _ _ (Ne.symm hk.2.1), Nat.zero_add]
  rw [if_neg h3, show o + j = o + 90 + (j - 90) by omega, acp_in _ _ _ _ _ _ (by omega), acp_ne _ _ _ _ _ _ (Ne.symm hk.2.2.2), acp_ne _ _ _ _ _ _ (Ne.symm hk.2.2.2), up_ne _ _ _ (Ne.symm hk.2.2.2), up_ne _ _ _ (Ne.symm hk.2.2.2), Nat.zero_add]
theorem un_ne (τ : St) (k o : Nat) {c : Nat} (h : c ≠ 0 ∧ c ≠ 13 ∧ c ≠ 18 ∧ c ≠ 19) : unT τ k o c = τ c := by
  unfold unT
  rw [acp_ne _ _ _ _ _ _ h.2.2.2, acp_ne _ _ _ _ _ _ h.2.1, acp_ne _ _ _ _ _ _ h.2.2.1, up_ne _ _ _ h.1, up_ne _ _ _ h.1]
theorem un_0 (τ : St) (k o : Nat) {j : Nat} (h : j ≠ 31 ∧ j ≠ 32) : unT τ k o 0 j = τ 0 j := by
  unfold unT
  rw [acp_ne _ _ _ _ _ _ (by decide), acp_ne _ _ _ _ _ _ (by decide), acp_ne _ _ _ _ _ _ (by decide), up_same, upd_ne _ _ h.2, up_same, upd_ne _ _ h.1]
theorem un_at (τ : St) {k : Nat} (o : Nat) (hk : k ≠ 0 ∧ k ≠ 13 ∧ k ≠ 18 ∧ k ≠ 19) {j : Nat} (h : j < 138) : rowM (unT τ k o) j = τ k (o + j) := by
  unfold unT rowM
  by_cases h0 : j = 0
  · subst h0
    rw [if_pos rfl, acp_ne _ _ _ _ _ _ (by decide), acp_ne _ _ _ _ _ _ (by decide), acp_ne _ _ _ _ _ _ (by decide), up_same, upd_ne _ _ (by decide), up_same, upd_same, Nat.add_zero]
  by_cases h1 : j = 1
  · subst h1
    rw [if_neg (by decide), if_pos rfl, acp_ne _ _ _ _ _ _ (by decide), acp_ne _ _ _ _ _ _ (by decide), acp_ne _ _ _ _ _ _ (by decide), up_same, upd_same]
  rw [if_neg h0, if_neg h1]
  have e2 : ∀ i, (0 + i : Nat) = i := Nat.zero_add
  by_cases h2 : j < 10
  · rw [if_pos h2, acp_ne _ _ _ _ _ _ (by decide), acp_ne _ _ _ _ _ _ (by decide), ← e2 (j - 2), acp_in _ _ _ _ _ _ (by omega), up_ne _ _ _ hk.1, up_ne _ _ _ hk.1]
    congr 1; omega
  rw [if_neg h2]
  by_cases h3 : j < 90
  · rw [if_pos h3, acp_ne _ _ _ _ _ _ (by decide), ← e2 (j - 10), acp_in _ _ _ _ _ _ (by omega), acp_ne _ _ _ _ _ _ hk.2.2.1, up_ne _ _ _ hk.1, up_ne _ _ _ hk.1]
    congr 1; omega
  rw [if_neg h3, ← e2 (j - 90), acp_in _ _ _ _ _ _ (by omega), acp_ne _ _ _ _ _ _ hk.2.1, acp_ne _ _ _ _ _ _ hk.2.2.1, up_ne _ _ _ hk.1, up_ne _ _ _ hk.1]
  congr 1; omega
