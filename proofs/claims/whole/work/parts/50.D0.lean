set_option linter.unusedVariables false
set_option linter.unusedSimpArgs false
set_option maxRecDepth 16384
/-! small words for Int32 over Nat -/
def qN (k : Nat) : Int32 := Int32.ofNat k
theorem q_lit (n : Nat) : (@OfNat.ofNat Int32 n _) = qN (@OfNat.ofNat Nat n _) := rfl
theorem q_ofInt : Int32.ofInt (-1) = -qN 1 := rfl
theorem q_toInt {k : Nat} (h : k < 2147483648) : (qN k).toInt = (k : Int) := Int32.toInt_ofNat_of_lt (by omega)
theorem q_clamp {k : Nat} (h : k < 2147483648) : (qN k).toNatClampNeg = k := by
  have := q_toInt h
  simp only [Int32.toNatClampNeg, this]; rfl
theorem q_add (a b : Nat) : qN a + qN b = qN (a + b) := (Int32.ofNat_add a b).symm
theorem q_mul (a b : Nat) : qN a * qN b = qN (a * b) := (Int32.ofNat_mul a b).symm
theorem q_lt {a b : Nat} (ha : a < 2147483648) (hb : b < 2147483648) : (qN a < qN b) ↔ a < b := by
  rw [Int32.lt_iff_toInt_lt, q_toInt ha, q_toInt hb]; omega
theorem q_le {a b : Nat} (ha : a < 2147483648) (hb : b < 2147483648) : (qN a ≤ qN b) ↔ a ≤ b := by
  rw [Int32.le_iff_toInt_le, q_toInt ha, q_toInt hb]; omega
theorem q_eq {a b : Nat} (ha : a < 2147483648) (hb : b < 2147483648) : (qN a = qN b) ↔ a = b := by
  rw [← Int32.toInt_inj, q_toInt ha, q_toInt hb]; omega
theorem q_neg1 {a : Nat} (ha : a < 2147483648) : (qN a = -qN 1) ↔ False := by
  rw [← Int32.toInt_inj, q_toInt ha]
  have : (-qN 1).toInt = -1 := by decide
  rw [this]; constructor
  · intro h; omega
  · intro h; exact h.elim
theorem q_sub {a b : Nat} (h : b ≤ a) : qN a - qN b = qN (a - b) := by
  have : qN a = qN (a - b) + qN b := by rw [q_add]; congr 1; omega
  rw [this, Int32.add_sub_cancel]
theorem q_get {x : Int32} {n : Nat} (h0 : ¬ x < 0) (h1 : x < qN n) (hn : n < 2147483648) : ∃ k, x = qN k ∧ k < n := by
  have h0' : 0 ≤ x.toInt := by
    rw [Int32.lt_iff_toInt_lt] at h0; simpa using h0
  rw [Int32.lt_iff_toInt_lt, q_toInt hn] at h1
  refine ⟨x.toInt.toNat, ?_, by omega⟩
  rw [← Int32.toInt_inj, q_toInt (by omega)]; omega
theorem q_get0 {x : Int32} (h0 : 0 ≤ x) : ∃ k, x = qN k ∧ k < 2147483648 := by
  have h0' : 0 ≤ x.toInt := by
    rw [Int32.le_iff_toInt_le] at h0; simpa using h0
  have := Int32.toInt_lt x
  refine ⟨x.toInt.toNat, ?_, by omega⟩
  rw [← Int32.toInt_inj, q_toInt (by omega)]; omega
theorem ck_ok {α : Type} {k n : Nat} {x : Option α} (h : k < n) (h2 : k < 2147483648) : ckI (qN k) n x = x := by
  unfold ckI
  rw [if_neg]
  rw [q_clamp h2, show (0 : Int32) = qN 0 from rfl, q_lt h2 (by omega)]; omega
/-! loops -/
theorem lp_up {V R : Type} {b : (V → Option R) → V → Option R} (Q : Option R → Prop) (P : Nat → V → Prop) (N : Nat)
    (hs : ∀ k v K, k ≤ N → P k v → (∀ v', k < N → P (k + 1) v' → Q (K v')) → Q (b K v)) :
    ∀ (F k : Nat) (v : V), k ≤ N → N - k < F → P k v → Q (lp b F v) := by
  intro F
  induction F with
  | zero => intro k v hk hF; omega
  | succ F ih =>
    intro k v hk hF hP
    exact hs k v _ hk hP fun v' hlt hP' => ih (k + 1) v' (by omega) (by omega) hP'
theorem lp2_up {V R V' R' : Type} {b : (V → Option R) → V → Option R} {b' : (V' → Option R') → V' → Option R'} (Q : Option R → Option R' → Prop) (P : Nat → V → V' → Prop) (N : Nat)
    (hs : ∀ k v w K K', k ≤ N → P k v w → (∀ v' w', k < N → P (k + 1) v' w' → Q (K v') (K' w')) → Q (b K v) (b' K' w)) :
    ∀ (F F' k : Nat) (v : V) (w : V'), k ≤ N → N - k < F → N - k < F' → P k v w → Q (lp b F v) (lp b' F' w) := by
  intro F
  induction F with
  | zero => intro F' k v w hk hF; omega
  | succ F ih =>
    intro F' k v w hk hF hF' hP
    cases F' with
    | zero => omega
    | succ F' => exact hs k v w _ _ hk hP fun v' w' hlt hP' => ih F' (k + 1) v' w' (by omega) (by omega) (by omega) hP'
/-! the store -/
theorem up_same (σ : St) (c j : Nat) (x : Int32) : up σ c j x c = upd (σ c) j x := by simp [up]
theorem up_ne (σ : St) {c c' : Nat} (j : Nat) (x : Int32) (h : c' ≠ c) : up σ c j x c' = σ c' := by simp [up, h]
theorem upd_same (f : Nat → Int32) (j : Nat) (x : Int32) : upd f j x j = x := by simp [upd]
theorem upd_ne (f : Nat → Int32) {j j' : Nat} (x : Int32) (h : j' ≠ j) : upd f j x j' = f j' := by simp [upd, h]
/-! bits -/
def bt (a : Int32) (e : Nat) : Bool := a.toBitVec.getLsbD e
theorem bt_or (a b : Int32) (e : Nat) : bt (a ||| b) e = (bt a e || bt b e) := by simp [bt]
theorem bt_and (a b : Int32) (e : Nat) : bt (a &&& b) e = (bt a e && bt b e) := by simp [bt]
theorem bt_xor (a b : Int32) (e : Nat) : bt (a ^^^ b) e = (bt a e ^^ bt b e) := by simp [bt]
theorem bt_zero (e : Nat) : bt 0 e = false := by simp [bt]
theorem bt_ext {a b : Int32} (h : ∀ e, e < 32 → bt a e = bt b e) : a = b := by
  apply Int32.toBitVec_inj.1
  apply BitVec.eq_of_getLsbD_eq
  intro e he; exact h e he
theorem bt_out (a : Int32) {e : Nat} (h : 32 ≤ e) : bt a e = false := BitVec.getLsbD_of_ge _ _ h
theorem bt_neg1 {e : Nat} (h : e < 32) : bt (-1) e = true := by
  have : ∀ e : Fin 32, bt (-1) e.1 = true := by decide
  exact this ⟨e, h⟩
theorem bt_one (e : Nat) : bt 1 e = decide (e = 0) := by
  by_cases h : e < 32
  · have : ∀ e : Fin 32, bt 1 e.1 = decide (e.1 = 0) := by decide
    exact this ⟨e, h⟩
  · rw [bt_out _ (by omega)]; simp; omega
theorem bt_pow {d : Nat} (hd : d < 32) (e : Nat) : bt ((1 : Int32) <<< (qN d &&& 31)) e = decide (e = d) := by
  by_cases h : e < 32
  · have : ∀ d e : Fin 32, bt ((1 : Int32) <<< (qN d.1 &&& 31)) e.1 = decide (e.1 = d.1) := by decide
    exact this ⟨d, hd⟩ ⟨e, h⟩
  · rw [bt_out _ (by omega)]; simp; omega
theorem bt_shr (a : Int32) {d : Nat} (hd : d < 32) : (a >>> (qN d &&& 31)) &&& 1 = if bt a d then 1 else 0 := by
  have hs : ∀ d : Fin 32, ((qN d.1 &&& 31).toBitVec.smod 32).toNat = d.1 := by decide
  have h1 : bt (a >>> (qN d &&& 31)) 0 = bt a d := by
    unfold bt
    rw [Int32.toBitVec_shiftRight, show ∀ (x y : BitVec 32), x.sshiftRight' y = x.sshiftRight y.toNat from fun _ _ => rfl, hs ⟨d, hd⟩, BitVec.getLsbD_sshiftRight]
    simp [hd]
  apply bt_ext
  intro e he
  rw [bt_and, bt_one]
  by_cases h0 : e = 0
  · subst h0
    rw [h1]
    cases bt a d <;> simp [bt_zero, bt_one]
  · cases bt a d <;> simp [bt_zero, bt_one, h0]
/-! a walk over pure words -/
theorem wpI {R : Type} {e : Option R} {P : R → Prop} (h : ∀ Q : Option R → Prop, (∀ x, P x → Q (some x)) → Q e) : ∃ x, e = some x ∧ P x := h (fun o => ∃ x, o = some x ∧ P x) (fun x hx => ⟨x, rfl, hx⟩)
theorem wpI2 {R R' : Type} {e : Option R} {e' : Option R'} {P : R → R' → Prop} (h : ∀ Q : Option R → Option R' → Prop, (∀ x y, P x y → Q (some x) (some y)) → Q e e') : ∃ x y, e = some x ∧ e' = some y ∧ P x y := h (fun o o' => ∃ x y, o = some x ∧ o' = some y ∧ P x y) (fun x y hx => ⟨x, y, rfl, rfl, hx⟩)
theorem wn {α R : Type} {Q : R → Prop} {x : α} {f : α → R} (h : ∀ y, y = x → Q (f y)) : Q (nm x f) := h x rfl
theorem wj {V R : Type} {Q : Option R → Prop} {J : V → Option R} {B : (V → Option R) → Option R} (h : ∀ J', (∀ v, J' v = J v) → Q (B J')) : Q (jn J B) := h J (fun _ => rfl)
theorem wi {R : Type} {Q : R → Prop} {c : Prop} [Decidable c] {a b : R} (h : c → Q a) (k : ¬ c → Q b) : Q (if c then a else b) := by
  by_cases hc : c
  · rw [if_pos hc]; exact h hc
  · rw [if_neg hc]; exact k hc
theorem wk {R : Type} {Q : Option R → Prop} {i : Int32} {n k : Nat} {x : Option R} (hi : i = qN k) (h : k < n) (h2 : k < 2147483648) (hq : Q x) : Q (ckI i n x) := by
  subst hi; rw [ck_ok h h2]; exact hq
theorem wb1 {α R : Type} {Q : Option R → Prop} {f : Option α} {r : α} {g : α → Option R} (h : f = some r) (hq : Q (g r)) : Q (bd1 f g) := by rw [h]; exact hq
theorem wb2 {α β R : Type} {Q : Option R → Prop} {f : Option (α × β)} {r : α} {u : β} {g : α → β → Option R} (h : f = some (r, u)) (hq : Q (g r u)) : Q (bd2 f g) := by rw [h]; exact hq
theorem wb3 {α β γ R : Type} {Q : Option R → Prop} {f : Option (α × β × γ)} {r : α} {u : β} {v : γ} {g : α → β → γ → Option R} (h : f = some (r, u, v)) (hq : Q (g r u v)) : Q (bd3 f g) := by rw [h]; exact hq
theorem bd1_some {α R : Type} (r : α) (g : α → Option R) : bd1 (some r) g = g r := rfl
theorem bd2_some {α β R : Type} (r : α) (u : β) (g : α → β → Option R) : bd2 (some (r, u)) g = g r u := rfl
theorem bd3_some {α β γ R : Type} (r : α) (u : β) (v : γ) (g : α → β → γ → Option R) : bd3 (some (r, u, v)) g = g r u v := rfl
theorem wpE {R : Type} {e : Option R} {r : R} (h : ∀ Q : Option R → Prop, Q (some r) → Q e) : e = some r := h (fun o => o = some r) rfl
