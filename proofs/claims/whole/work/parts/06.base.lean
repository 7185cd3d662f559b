/-! THE STORE: all that changes in the world of fixed cells, by cell and slot; pure words for what methods do -/
abbrev St : Type := Nat → Nat → Int32
def up (σ : St) (k j : Nat) (v : Int32) : St := fun a => if a = k then upd (σ k) j v else σ a
def cpS (σ : St) (k : Nat) (f : Nat → Int32) : St := fun a => if a = k then f else σ a
def nm {α β : Type} (x : α) (f : α → β) : β := f x
def ckI {α : Type} (i : Int32) (n : Nat) (x : Option α) : Option α := if i < 0 ∨ n ≤ i.toNatClampNeg then none else x
def ckZ {α : Type} (y : Int32) (x : Option α) : Option α := if y = 0 then none else x
def ckE {α : Type} (y z : Int32) (x : Option α) : Option α := if y = z then x else none
def bd1 {α β : Type} (x : Option α) (f : α → Option β) : Option β := match x with
  | none => none
  | some r => f r
def bd2 {α β γ : Type} (x : Option (α × β)) (f : α → β → Option γ) : Option γ := match x with
  | none => none
  | some (r, u) => f r u
def bd3 {α β γ δ : Type} (x : Option (α × β × γ)) (f : α → β → γ → Option δ) : Option δ := match x with
  | none => none
  | some (r, u, v) => f r u v
def lp {V R : Type} (body : (V → Option R) → V → Option R) : Nat → V → Option R
  | 0, _ => none
  | n + 1, v => body (lp body n) v
def jn {V R : Type} (J : V → Option R) (B : (V → Option R) → Option R) : Option R := B J
theorem lp_w {V R : Type} {body : (V → Option R) → V → Option R} {res : R} (P : V → Prop) (hb : ∀ K : V → Option R, (∀ v, K v = some res → P v) → ∀ v, body K v = some res → P v) : ∀ (n : Nat) (v : V), lp body n v = some res → P v
  | 0, _, h => nomatch h
  | n + 1, v, h => hb (lp body n) (lp_w P hb n) v h
theorem jn_w {V R : Type} {J : V → Option R} {B : (V → Option R) → Option R} {res : R} {Z : Prop} (P : V → Prop) (h : jn J B = some res) (hj : ∀ v, J v = some res → P v) (hb : ∀ J' : V → Option R, (∀ v, J' v = some res → P v) → B J' = some res → Z) : Z := hb J hj h
theorem ckI_w {α : Type} {i : Int32} {n : Nat} {x : Option α} {res : α} (h : ckI i n x = some res) : vp_in i n ∧ x = some res := by
  unfold ckI at h
  by_cases q : i < 0 ∨ n ≤ i.toNatClampNeg
  · rw [if_pos q] at h; cases h
  · rw [if_neg q] at h; exact ⟨q, h⟩
theorem ckZ_w {α : Type} {y : Int32} {x : Option α} {res : α} (h : ckZ y x = some res) : ¬ y = 0 ∧ x = some res := by
  unfold ckZ at h
  by_cases q : y = 0
  · rw [if_pos q] at h; cases h
  · rw [if_neg q] at h; exact ⟨q, h⟩
theorem ckE_w {α : Type} {y z : Int32} {x : Option α} {res : α} (h : ckE y z x = some res) : y = z ∧ x = some res := by
  unfold ckE at h
  by_cases q : y = z
  · rw [if_pos q] at h; exact ⟨q, h⟩
  · rw [if_neg q] at h; cases h
theorem bd1_w {α β : Type} {x : Option α} {f : α → Option β} {res : β} {Z : Prop} (h : bd1 x f = some res) (k : ∀ r, x = some r → f r = some res → Z) : Z := by
  cases x with
  | none => cases h
  | some r => exact k r rfl h
theorem bd2_w {α β γ : Type} {x : Option (α × β)} {f : α → β → Option γ} {res : γ} {Z : Prop} (h : bd2 x f = some res) (k : ∀ r u, x = some (r, u) → f r u = some res → Z) : Z := by
  cases x with
  | none => cases h
  | some r => exact k r.1 r.2 rfl h
theorem bd3_w {α β γ δ : Type} {x : Option (α × β × γ)} {f : α → β → γ → Option δ} {res : δ} {Z : Prop} (h : bd3 x f = some res) (k : ∀ r u v, x = some (r, u, v) → f r u v = some res → Z) : Z := by
  cases x with
  | none => cases h
  | some r => exact k r.1 r.2.1 r.2.2 rfl h
theorem if_w {α : Type} {c : Prop} [inst : Decidable c] {x y : Option α} {res : α} {Z : Prop} (h : (if c then x else y) = some res) (kt : c → x = some res → Z) (kf : ¬ c → y = some res → Z) : Z := by
  by_cases q : c
  · rw [if_pos q] at h; exact kt q h
  · rw [if_neg q] at h; exact kf q h
/-! THE WORLD of fixed cells -/
abbrev GT : Type := va_G × List (ClassId × FieldType) × Nat × (Nat → Nat) × (Nat → (Nat → Int32) → va_E)
abbrev gad (G : GT) (k : Nat) : Nat := G.2.2.2.1 k
def AA (G : GT) : Nat → Prop := fun q => ∃ k : Nat, k < G.2.2.1 ∧ q = gad G k
def wW (G : GT) (σ : St) : va_W := (List.range G.2.2.1).map fun k => (gad G k, G.2.2.2.2 k (σ k))
def gAp (G : GT) : Prop := ∀ i j : Nat, i < G.2.2.1 → j < G.2.2.1 → gad G i = gad G j → i = j
theorem wW_get {G : GT} {σ : St} {k : Nat} (h : k < G.2.2.1) {x : va_E} (hx : G.2.2.2.2 k (σ k) = x) : (wW G σ)[k]? = some (gad G k, x) := by
  subst hx
  simp [wW, h]
theorem wW_D {G : GT} {σ : St} (h : gAp G) : va_D (AA G) (wW G σ) := by
  have e : ∀ (k : Nat) (q : Nat × va_E), (wW G σ)[k]? = some q → k < G.2.2.1 ∧ q.1 = gad G k := by
    intro k q hq
    simp only [wW, List.getElem?_map, Option.map_eq_some_iff] at hq
    obtain ⟨a, ha, rfl⟩ := hq
    obtain ⟨h1, h2⟩ := List.getElem?_eq_some_iff.mp ha
    rw [List.getElem_range] at h2
    rw [List.length_range] at h1
    subst h2
    exact ⟨h1, rfl⟩
  refine ⟨fun i j p q hp hq he => ?_, fun k q hq => ⟨k, e k q hq⟩⟩
  obtain ⟨p1, p2⟩ := e i p hp
  obtain ⟨q1, q2⟩ := e j q hq
  exact h i j p1 q1 (by rw [← p2, ← q2]; exact he)
theorem wW_set {G : GT} {σ σ' : St} {k : Nat} (f : Nat → Int32) (hs : σ' = fun a => if a = k then f else σ a) {x : va_E} (hx : x = G.2.2.2.2 k f) : (wW G σ).set k (gad G k, x) = wW G σ' := by
  subst hx; subst hs
  apply List.ext_getElem?
  intro i
  rw [List.getElem?_set]
  simp only [wW, List.getElem?_map, List.length_map, List.length_range]
  by_cases hi : k = i
  · subst hi
    by_cases hk : k < G.2.2.1
    · simp [hk]
    · simp [hk]
  · by_cases hk : i < G.2.2.1
    · simp [hi, hk, Ne.symm hi]
    · simp [hi, hk]
/-! WHAT STANDS OUTSIDE: nest links, statics, String constants -/
def nestW : List (String × Nat × MethodName × String) := [(RX9, 70, yX10_placeOf, RX10), (RX7, 141, yX10_placeOf, RX10), (RX2, 54, yX10_placeOf, RX10), (RX0, 80, yX10_placeOf, RX10), (RX6, 60, yX10_placeOf, RX10)]
def declW : List MethodName := [⟨"java/lang/RuntimeException", "<init>", "(Ljava/lang/String;)V"⟩, ⟨"java/lang/Exception", "<init>", "(Ljava/lang/String;)V"⟩, ⟨"java/lang/Throwable", "<init>", "(Ljava/lang/String;)V"⟩]
def castW : List (String × String) := [("java/util/NoSuchElementException", "java/util/NoSuchElementException"), ("java/lang/IllegalArgumentException", "java/lang/IllegalArgumentException")]
/-- texts: owner, entry, text, its place among the Strings -/
def strR : List (String × Nat × String × Nat) := [(RX10, 105, "the tape has not so many bytes", 100), (RX10, 158, "no such count", 101), (RX10, 198, "no such thing of a dance", 102), (RX10, 219, "no such thing of a step", 103), (RX10, 235, "that step isn't come to", 104), (RX10, 293, "not 0 to 99 years", 105), (RX10, 300, "no such time", 106), (RX10, 350, "both are one valley", 107), (RX10, 362, "not 0 to 40 years", 108), (RX10, 378, "no such valley", 109), (RX10, 380, "no such dance", 110), (RX10, 382, "no such step", 111), (RX10, 384, "no such thing", 112), (RX7, 156, "step", 0), (RX7, 158, "turn", 1), (RX7, 160, "hop", 2), (RX7, 162, "glove", 3), (RX7, 164, "bow", 4), (RX7, 172, "or", 5), (RX7, 187, "and", 6), (RX7, 189, "not", 7), (RX7, 213, "n", 8), (RX7, 216, "about", 9), (RX7, 217, "time", 10), (RX7, 218, "place", 11), (RX7, 220, "lead", 12), (RX7, 60, "valley", 13), (RX7, 69, "dance", 14), (RX7, 74, "floor", 15), (RX7, 79, "limit", 16), (RX11, 11, "step", 0), (RX11, 13, "turn", 1), (RX11, 15, "hop", 2), (RX11, 17, "glove", 3), (RX11, 19, "bow", 4), (RX11, 25, "n", 8), (RX11, 266, "not", 7), (RX11, 27, "about", 9), (RX11, 274, "and", 6), (RX11, 279, "or", 5), (RX11, 287, "floor", 15), (RX11, 289, "limit", 16), (RX11, 29, "time", 10), (RX11, 294, "valley", 13), (RX11, 299, "dance", 14), (RX11, 31, "place", 11), (RX11, 33, "lead", 12)]
def strB : List (List Int32) := [[115, 116, 101, 112], [116, 117, 114, 110], [104, 111, 112], [103, 108, 111, 118, 101], [98, 111, 119], [111, 114], [97, 110, 100], [110, 111, 116], [110], [97, 98, 111, 117, 116], [116, 105, 109, 101], [112, 108, 97, 99, 101], [108, 101, 97, 100], [118, 97, 108, 108, 101, 121], [100, 97, 110, 99, 101], [102, 108, 111, 111, 114], [108, 105, 109, 105, 116]]
def dAL : Nat → Int32 := fun j => if j = 0 then 1 else if j = 2 then -1 else 0
def dDN : Nat → Int32 := fun j => if j = 1 then 1 else if j = 3 then -1 else 0
abbrev sK (G : GT) (i : Nat) : Nat := gad G (1100 + i)
abbrev sV (G : GT) (i : Nat) : Nat := gad G (1300 + i)
def strA (G : GT) (i : Nat) (A : Nat → Prop) (U : State) (H : Heap) : Prop := va_O "java/lang/String" (sK G i) A U H ∧ va_OF "java/lang/String" "coder" "B" (.int 0) (sK G i) A U H ∧ va_OF "java/lang/String" "value" "[B" (.ref (sV G i)) (sK G i) A U H ∧ va_T .byte (sV G i) (strB.getD i []).length (fun j => .int ((strB.getD i []).getD j 0)) A U H
def EVA (G : GT) (A : Nat → Prop) (U : State) (H : Heap) : Prop :=
  (∀ q ∈ nestW, va_Nw (.methodLinkNest q.1 q.2.1 q.2.2.1 q.2.2.2) U) ∧
  (va_Z RX3 "ALONG" "[I" (.ref (gad G 1000)) A U H ∧ va_T .int (gad G 1000) 4 (fun j => .int (dAL j)) A U H) ∧
  (va_Z RX3 "DOWN" "[I" (.ref (gad G 1001)) A U H ∧ va_T .int (gad G 1001) 4 (fun j => .int (dDN j)) A U H) ∧
  (vx_Zq Bundle.tN "UNASSIGNED_STACK" Bundle.steD A U H ∧ vx_Zq Bundle.tN "SUPPRESSED_SENTINEL" Bundle.listD A U H) ∧
  (∀ q ∈ strR, vk_R q.1 q.2.1 q.2.2.1 (sK G q.2.2.2) U) ∧
  (∀ i, i < 17 → strA G i A U H) ∧
  (va_Z "java/lang/String" "COMPACT_STRINGS" "Z" (.int 1) A U H ∧ va_Zq "jdk/internal/util/Preconditions" "SIOOBE_FORMATTER" "Ljava/util/function/BiFunction;" A U H) ∧
  (∀ x ∈ declW, va_Nw (.declares x) U) ∧ (∀ q ∈ castW, va_Nw (.castable q.1 q.2) U)
theorem EVA.go {G : GT} {A : Nat → Prop} {s U : State} {H : Heap} {locs : List Loc} (hW : s.WarmedH U.vm) (hS : va_S A s.heap H locs) (h : EVA G A s s.heap) : EVA G A U H := by
  obtain ⟨h1, ⟨h2, h3⟩, ⟨h4, h5⟩, ⟨h6, h7⟩, h8, h9, ⟨h10, h11⟩, h12, h13⟩ := h
  have hq := hS.2.1
  have ha := hW.alike
  exact ⟨fun q hq => va_Nw.warmM hW (h1 q hq), ⟨(h2.kept hq).moved ha, (h3.kept hq).moved ha⟩, ⟨(h4.kept hq).moved ha, (h5.kept hq).moved ha⟩, ⟨(h6.kept hq).moved ha, (h7.kept hq).moved ha⟩, fun q hq => (h8 q hq).warm hW,
    fun i hi => ⟨((h9 i hi).1.kept hq).moved ha, ((h9 i hi).2.1.kept hq).moved ha, ((h9 i hi).2.2.1.kept hq).moved ha, ((h9 i hi).2.2.2.kept hq).moved ha⟩, ⟨(h10.kept hq).moved ha, (h11.kept hq).moved ha⟩, fun x hx => va_Nw.warmD hW (h12 x hx), fun q hq => va_Nw.warmC hW (h13 q hq)⟩
theorem EVA.same {G : GT} {A : Nat → Prop} {u U : State} {H : Heap} (hv : u.vm = U.vm) (h : EVA G A u H) : EVA G A U H := by
  obtain ⟨h1, ⟨h2, h3⟩, ⟨h4, h5⟩, ⟨h6, h7⟩, h8, h9, ⟨h10, h11⟩, h12, h13⟩ := h
  have ha : u.vm.Alike U.vm := by rw [hv]; exact Vm.Alike.refl U.vm
  exact ⟨fun q hq => va_Nw.same rfl hv (h1 q hq), ⟨h2.moved ha, h3.moved ha⟩, ⟨h4.moved ha, h5.moved ha⟩, ⟨h6.moved ha, h7.moved ha⟩, fun q hq => (h8 q hq).same hv.symm,
    fun i hi => ⟨(h9 i hi).1.moved ha, (h9 i hi).2.1.moved ha, (h9 i hi).2.2.1.moved ha, (h9 i hi).2.2.2.moved ha⟩, ⟨h10.moved ha, h11.moved ha⟩, fun x hx => va_Nw.same rfl hv (h12 x hx), fun q hq => va_Nw.same rfl hv (h13 q hq)⟩
theorem EVA.narrow {G : GT} {A B : Nat → Prop} {U : State} {H : Heap} (h : EVA G A U H) (hAB : ∀ q, B q → A q) : EVA G B U H := by
  obtain ⟨h1, ⟨h2, h3⟩, ⟨h4, h5⟩, ⟨h6, h7⟩, h8, h9, ⟨h10, h11⟩, h12, h13⟩ := h
  exact ⟨h1, ⟨h2.narrow hAB, h3.narrow hAB⟩, ⟨h4.narrow hAB, h5.narrow hAB⟩, ⟨h6.narrow hAB, h7.narrow hAB⟩, h8,
    fun i hi => ⟨(h9 i hi).1.narrow hAB, (h9 i hi).2.1.narrow hAB, (h9 i hi).2.2.1.narrow hAB, (h9 i hi).2.2.2.narrow hAB⟩, ⟨h10.narrow hAB, h11.narrow hAB⟩, h12, h13⟩
abbrev EV (G : GT) (U : State) (H : Heap) : Prop := EVA G (AA G) U H
theorem EV.go {G : GT} {s U : State} {H : Heap} {locs : List Loc} (hW : s.WarmedH U.vm) (hS : va_S (AA G) s.heap H locs) (h : EV G s s.heap) : EV G U H := EVA.go hW hS h
theorem EV.same {G : GT} {u U : State} {H : Heap} (hv : u.vm = U.vm) (h : EV G u H) : EV G U H := EVA.same hv h
/-! THE WALK, over the store -/
abbrev XT : Type := Program × Launch × Env × Room × State × MethodId × Array Value × List Frame × Method × Code × (State → Prop)
abbrev xs (X : XT) : State := X.2.2.2.2.1
abbrev xm (X : XT) : MethodId := X.2.2.2.2.2.1
abbrev xa (X : XT) : Array Value := X.2.2.2.2.2.2.1
abbrev xc (X : XT) : Code := X.2.2.2.2.2.2.2.2.2.1
abbrev xR (X : XT) : Room := X.2.2.2.1
def WX (X : XT) (cn : Nat) (H : Heap) (locs : List Loc) (g : JFrame) : Prop := W X.1 X.2.1 X.2.2.1 (xR X) (xs X) (xm X) (xa X) X.2.2.2.2.2.2.2.1 X.2.2.2.2.2.2.2.2.1 (xc X) H locs cn (6 * cn) X.2.2.2.2.2.2.2.2.2.2 g
def WP (X : XT) (G : GT) (nL cn pc : Nat) (σ : St) (lv : List (Nat × Value)) (st : List Value) : Prop :=
  ∀ (H : Heap) (locs : List Loc) (ls : Array Slot), lv_has ls nL lv → va_P G.1 vwCl (wW G σ) H → va_S (AA G) (xs X).heap H locs → WX X cn H locs (F0 (xm X) pc ls st)
def Cx (X : XT) (G : GT) (cc : ByteArray) (nL : Nat) (own : String) (fr lo rc : Nat) : Prop :=
  CallFix X.1 (xm X) (xc X) cc nL (xs X) (xa X) BG own ∧ va_K G.1 vwCl G.2.1 (xs X) ∧ gAp G ∧ EV G (xs X) (xs X).heap ∧ (xR X).frames = fr ∧ (xR X).locals = lo ∧ (xR X).cells = rc ∧ (xR X).slots = 6 * rc
section ROWS
variable {X : XT} {G : GT} {cc : ByteArray} {nL : Nat} {own : String} {fr lo rc cn : Nat} {pc q : Nat} {σ : St} {lv : List (Nat × Value)} {st : List Value}
theorem w_sub (ks : List Nat) {lv' : List (Nat × Value)} (hl : lv_pick lv ks = lv') (k : WP X G nL cn pc σ lv' st) : WP X G nL cn pc σ lv st := fun H locs ls h hP hS => k H locs ls (lv_sub h ks hl) hP hS
theorem w_iconst (C : Cx X G cc nL own fr lo rc) {n : Int} (v : Int32) (hdg : decode cc pc = .ok (.iconst n, 1)) (hq : pc + 1 = q) (hv : Int32.ofInt n = v) (k : WP X G nL cn q σ lv (.int v :: st)) : WP X G nL cn pc σ lv st := by subst hq; exact fun H locs ls h hP hS => lv_iconst C.1.1 C.1.2.1 hdg hv (k H locs ls h hP hS)
theorem w_bipush (C : Cx X G cc nL own fr lo rc) {n : Int} (v : Int32) (hdg : decode cc pc = .ok (.bipush n, 2)) (hq : pc + 2 = q) (hv : (Int8.ofInt n).toInt32 = v) (k : WP X G nL cn q σ lv (.int v :: st)) : WP X G nL cn pc σ lv st := by subst hq; exact fun H locs ls h hP hS => lv_bipush C.1.1 C.1.2.1 hdg hv (k H locs ls h hP hS)
theorem w_sipush (C : Cx X G cc nL own fr lo rc) {n : Int} (v : Int32) (hdg : decode cc pc = .ok (.sipush n, 3)) (hq : pc + 3 = q) (hv : (Int16.ofInt n).toInt32 = v) (k : WP X G nL cn q σ lv (.int v :: st)) : WP X G nL cn pc σ lv st := by subst hq; exact fun H locs ls h hP hS => lv_sipush C.1.1 C.1.2.1 hdg hv (k H locs ls h hP hS)
theorem w_ldc (C : Cx X G cc nL own fr lo rc) {index : Nat} (v : Int32) (hdg : decode cc pc = .ok (.ldc index, 2)) (hq : pc + 2 = q) (hv : Jvm.Cond.constant own index v ∈ BG) (k : WP X G nL cn q σ lv (.int v :: st)) : WP X G nL cn pc σ lv st := by subst hq; exact fun H locs ls h hP hS => lv_ldc C.1.1 C.1.2.1 C.1.2.2.2.1 (C.1.2.2.2.2 _ hv) hdg (k H locs ls h hP hS)
theorem w_ldcw (C : Cx X G cc nL own fr lo rc) {index : Nat} (v : Int32) (hdg : decode cc pc = .ok (.ldc_w index, 3)) (hq : pc + 3 = q) (hv : Jvm.Cond.constant own index v ∈ BG) (k : WP X G nL cn q σ lv (.int v :: st)) : WP X G nL cn pc σ lv st := by subst hq; exact fun H locs ls h hP hS => lv_ldcw C.1.1 C.1.2.1 C.1.2.2.2.1 (C.1.2.2.2.2 _ hv) hdg (k H locs ls h hP hS)
theorem w_iload_n (C : Cx X G cc nL own fr lo rc) {i : Fin 4} {x : Int32} (hdg : decode cc pc = .ok (.iload_n i, 1)) (hq : pc + 1 = q) (j : Nat) (hl : lv[j]? = some (i.val, .int x)) (k : WP X G nL cn q σ lv (.int x :: st)) : WP X G nL cn pc σ lv st := by subst hq; exact fun H locs ls h hP hS => lv_iload_n C.1.1 C.1.2.1 hdg rfl (lv_at h j hl) (k H locs ls h hP hS)
theorem w_iload (C : Cx X G cc nL own fr lo rc) {i : Nat} {x : Int32} (hdg : decode cc pc = .ok (.iload i, 2)) (hq : pc + 2 = q) (j : Nat) (hl : lv[j]? = some (i, .int x)) (k : WP X G nL cn q σ lv (.int x :: st)) : WP X G nL cn pc σ lv st := by subst hq; exact fun H locs ls h hP hS => lv_iload C.1.1 C.1.2.1 hdg (lv_at h j hl) (k H locs ls h hP hS)
theorem w_lload_n (C : Cx X G cc nL own fr lo rc) {i : Fin 4} {x : Int64} (hdg : decode cc pc = .ok (.lload_n i, 1)) (hq : pc + 1 = q) (j : Nat) (hl : lv[j]? = some (i.val, .long x)) (k : WP X G nL cn q σ lv (.long x :: st)) : WP X G nL cn pc σ lv st := by subst hq; exact fun H locs ls h hP hS => lv_lload_n C.1.1 C.1.2.1 hdg rfl (lv_at h j hl) (k H locs ls h hP hS)
theorem w_lload (C : Cx X G cc nL own fr lo rc) {i : Nat} {x : Int64} (hdg : decode cc pc = .ok (.lload i, 2)) (hq : pc + 2 = q) (j : Nat) (hl : lv[j]? = some (i, .long x)) (k : WP X G nL cn q σ lv (.long x :: st)) : WP X G nL cn pc σ lv st := by subst hq; exact fun H locs ls h hP hS => lv_lload C.1.1 C.1.2.1 hdg (lv_at h j hl) (k H locs ls h hP hS)
theorem w_aload_n (C : Cx X G cc nL own fr lo rc) {i : Fin 4} {x : Nat} (hdg : decode cc pc = .ok (.aload_n i, 1)) (hq : pc + 1 = q) (j : Nat) (hl : lv[j]? = some (i.val, .ref x)) (k : WP X G nL cn q σ lv (.ref x :: st)) : WP X G nL cn pc σ lv st := by subst hq; exact fun H locs ls h hP hS => lv_aload_n C.1.1 C.1.2.1 hdg rfl (lv_at h j hl) (k H locs ls h hP hS)
theorem w_aload (C : Cx X G cc nL own fr lo rc) {i : Nat} {x : Nat} (hdg : decode cc pc = .ok (.aload i, 2)) (hq : pc + 2 = q) (j : Nat) (hl : lv[j]? = some (i, .ref x)) (k : WP X G nL cn q σ lv (.ref x :: st)) : WP X G nL cn pc σ lv st := by subst hq; exact fun H locs ls h hP hS => lv_aload C.1.1 C.1.2.1 hdg (lv_at h j hl) (k H locs ls h hP hS)
theorem w_istore_n (C : Cx X G cc nL own fr lo rc) {i : Fin 4} {x : Int32} (lv' : List (Nat × Value)) (hdg : decode cc pc = .ok (.istore_n i, 1)) (hq : pc + 1 = q) (hn : i.val < nL) (hl : (i.val, Value.int x) :: lv.filter (fun q => !(q.1 == i.val) && !(q.1 + 1 == i.val && q.2.category == 2)) = lv') (k : WP X G nL cn q σ lv' st) : WP X G nL cn pc σ lv (.int x :: st) := by subst hq; exact fun H locs ls h hP hS => lv_istore_n C.1.1 C.1.2.1 hdg rfl h hn hl (fun ls' h' => k H locs ls' h' hP hS)
theorem w_istore (C : Cx X G cc nL own fr lo rc) {i : Nat} {x : Int32} (lv' : List (Nat × Value)) (hdg : decode cc pc = .ok (.istore i, 2)) (hq : pc + 2 = q) (hn : i < nL) (hl : (i, Value.int x) :: lv.filter (fun q => !(q.1 == i) && !(q.1 + 1 == i && q.2.category == 2)) = lv') (k : WP X G nL cn q σ lv' st) : WP X G nL cn pc σ lv (.int x :: st) := by subst hq; exact fun H locs ls h hP hS => lv_istore C.1.1 C.1.2.1 hdg h hn hl (fun ls' h' => k H locs ls' h' hP hS)
theorem w_astore_n (C : Cx X G cc nL own fr lo rc) {i : Fin 4} {x : Nat} (lv' : List (Nat × Value)) (hdg : decode cc pc = .ok (.astore_n i, 1)) (hq : pc + 1 = q) (hn : i.val < nL) (hl : (i.val, Value.ref x) :: lv.filter (fun q => !(q.1 == i.val) && !(q.1 + 1 == i.val && q.2.category == 2)) = lv') (k : WP X G nL cn q σ lv' st) : WP X G nL cn pc σ lv (.ref x :: st) := by subst hq; exact fun H locs ls h hP hS => lv_astore_n C.1.1 C.1.2.1 hdg rfl h hn hl (fun ls' h' => k H locs ls' h' hP hS)
theorem w_astore (C : Cx X G cc nL own fr lo rc) {i : Nat} {x : Nat} (lv' : List (Nat × Value)) (hdg : decode cc pc = .ok (.astore i, 2)) (hq : pc + 2 = q) (hn : i < nL) (hl : (i, Value.ref x) :: lv.filter (fun q => !(q.1 == i) && !(q.1 + 1 == i && q.2.category == 2)) = lv') (k : WP X G nL cn q σ lv' st) : WP X G nL cn pc σ lv (.ref x :: st) := by subst hq; exact fun H locs ls h hP hS => lv_astore C.1.1 C.1.2.1 hdg h hn hl (fun ls' h' => k H locs ls' h' hP hS)
theorem w_iinc (C : Cx X G cc nL own fr lo rc) {i j : Nat} {n : Int} {x : Int32} (v : Int32) (lv' : List (Nat × Value)) (hdg : decode cc pc = .ok (.iinc i n, 3)) (hq : pc + 3 = q) (hj : lv[j]? = some (i, .int x)) (hv : x + Int32.ofInt n = v) (hn : i < nL) (hl : (i, Value.int v) :: lv.filter (fun q => !(q.1 == i) && !(q.1 + 1 == i && q.2.category == 2)) = lv') (k : WP X G nL cn q σ lv' st) : WP X G nL cn pc σ lv st := by subst hq; exact fun H locs ls h hP hS => lv_iinc C.1.1 C.1.2.1 hdg h hj hv hn hl (fun ls' h' => k H locs ls' h' hP hS)
theorem w_iadd (C : Cx X G cc nL own fr lo rc) {x y : Int32} (hdg : decode cc pc = .ok (.iadd, 1)) (hq : pc + 1 = q) (k : WP X G nL cn q σ lv (.int (x + y) :: st)) : WP X G nL cn pc σ lv (.int y :: .int x :: st) := by subst hq; exact fun H locs ls h hP hS => lv_iadd C.1.1 C.1.2.1 hdg (k H locs ls h hP hS)
theorem w_isub (C : Cx X G cc nL own fr lo rc) {x y : Int32} (hdg : decode cc pc = .ok (.isub, 1)) (hq : pc + 1 = q) (k : WP X G nL cn q σ lv (.int (x - y) :: st)) : WP X G nL cn pc σ lv (.int y :: .int x :: st) := by subst hq; exact fun H locs ls h hP hS => lv_isub C.1.1 C.1.2.1 hdg (k H locs ls h hP hS)
theorem w_imul (C : Cx X G cc nL own fr lo rc) {x y : Int32} (hdg : decode cc pc = .ok (.imul, 1)) (hq : pc + 1 = q) (k : WP X G nL cn q σ lv (.int (x * y) :: st)) : WP X G nL cn pc σ lv (.int y :: .int x :: st) := by subst hq; exact fun H locs ls h hP hS => lv_imul C.1.1 C.1.2.1 hdg (k H locs ls h hP hS)
theorem w_iand (C : Cx X G cc nL own fr lo rc) {x y : Int32} (hdg : decode cc pc = .ok (.iand, 1)) (hq : pc + 1 = q) (k : WP X G nL cn q σ lv (.int (x &&& y) :: st)) : WP X G nL cn pc σ lv (.int y :: .int x :: st) := by subst hq; exact fun H locs ls h hP hS => lv_iand C.1.1 C.1.2.1 hdg (k H locs ls h hP hS)
theorem w_ior (C : Cx X G cc nL own fr lo rc) {x y : Int32} (hdg : decode cc pc = .ok (.ior, 1)) (hq : pc + 1 = q) (k : WP X G nL cn q σ lv (.int (x ||| y) :: st)) : WP X G nL cn pc σ lv (.int y :: .int x :: st) := by subst hq; exact fun H locs ls h hP hS => lv_ior C.1.1 C.1.2.1 hdg (k H locs ls h hP hS)
theorem w_ixor (C : Cx X G cc nL own fr lo rc) {x y : Int32} (hdg : decode cc pc = .ok (.ixor, 1)) (hq : pc + 1 = q) (k : WP X G nL cn q σ lv (.int (x ^^^ y) :: st)) : WP X G nL cn pc σ lv (.int y :: .int x :: st) := by subst hq; exact fun H locs ls h hP hS => lv_ixor C.1.1 C.1.2.1 hdg (k H locs ls h hP hS)
theorem w_ishl (C : Cx X G cc nL own fr lo rc) {x y : Int32} (hdg : decode cc pc = .ok (.ishl, 1)) (hq : pc + 1 = q) (k : WP X G nL cn q σ lv (.int (x <<< (y &&& 31)) :: st)) : WP X G nL cn pc σ lv (.int y :: .int x :: st) := by subst hq; exact fun H locs ls h hP hS => lv_ishl C.1.1 C.1.2.1 hdg (k H locs ls h hP hS)
theorem w_ishr (C : Cx X G cc nL own fr lo rc) {x y : Int32} (hdg : decode cc pc = .ok (.ishr, 1)) (hq : pc + 1 = q) (k : WP X G nL cn q σ lv (.int (x >>> (y &&& 31)) :: st)) : WP X G nL cn pc σ lv (.int y :: .int x :: st) := by subst hq; exact fun H locs ls h hP hS => lv_ishr C.1.1 C.1.2.1 hdg (k H locs ls h hP hS)
def ushr (x y : Int32) : Int32 := (x.toUInt32 >>> (y.toUInt32 &&& Int32.toUInt32 31)).toInt32
theorem w_iushr (C : Cx X G cc nL own fr lo rc) {x y : Int32} (hdg : decode cc pc = .ok (.iushr, 1)) (hq : pc + 1 = q) (k : WP X G nL cn q σ lv (.int (ushr x y) :: st)) : WP X G nL cn pc σ lv (.int y :: .int x :: st) := by subst hq; exact fun H locs ls h hP hS => lv_iushr C.1.1 C.1.2.1 hdg rfl (k H locs ls h hP hS)
theorem w_ineg (C : Cx X G cc nL own fr lo rc) {x : Int32} (hdg : decode cc pc = .ok (.ineg, 1)) (hq : pc + 1 = q) (k : WP X G nL cn q σ lv (.int (-x) :: st)) : WP X G nL cn pc σ lv (.int x :: st) := by subst hq; exact fun H locs ls h hP hS => lv_ineg C.1.1 C.1.2.1 hdg (k H locs ls h hP hS)
theorem w_i2l (C : Cx X G cc nL own fr lo rc) {x : Int32} (hdg : decode cc pc = .ok (.i2l, 1)) (hq : pc + 1 = q) (k : WP X G nL cn q σ lv (.long x.toInt64 :: st)) : WP X G nL cn pc σ lv (.int x :: st) := by subst hq; exact fun H locs ls h hP hS => lv_i2l C.1.1 C.1.2.1 hdg rfl (k H locs ls h hP hS)
theorem w_lconst (C : Cx X G cc nL own fr lo rc) {n : Fin 2} (v : Int64) (hdg : decode cc pc = .ok (.lconst n, 1)) (hq : pc + 1 = q) (hv : Int64.ofNat (n : Nat) = v) (k : WP X G nL cn q σ lv (.long v :: st)) : WP X G nL cn pc σ lv st := by subst hq; exact fun H locs ls h hP hS => lv_lconst C.1.1 C.1.2.1 hdg hv (k H locs ls h hP hS)
theorem w_ldc2 (C : Cx X G cc nL own fr lo rc) {index : Nat} (v : Int64) (hdg : decode cc pc = .ok (.ldc2_w index, 3)) (hq : pc + 3 = q) (hv : Jvm.Cond.constantLong own index v ∈ BG) (k : WP X G nL cn q σ lv (.long v :: st)) : WP X G nL cn pc σ lv st := by subst hq; exact fun H locs ls h hP hS => lv_ldc2 C.1.1 C.1.2.1 C.1.2.2.2.1 (C.1.2.2.2.2 _ hv) hdg (k H locs ls h hP hS)
theorem w_lcmp (C : Cx X G cc nL own fr lo rc) {x y : Int64} (hdg : decode cc pc = .ok (.lcmp, 1)) (hq : pc + 1 = q) (k : WP X G nL cn q σ lv (.int (lg_cmp x y) :: st)) : WP X G nL cn pc σ lv (.long y :: .long x :: st) := by subst hq; exact fun H locs ls h hP hS => W.lcmp C.1.1 C.1.2.1 hdg (k H locs ls h hP hS)
theorem w_idiv (C : Cx X G cc nL own fr lo rc) {x y : Int32} (hne : ¬ y = 0) (hdg : decode cc pc = .ok (.idiv, 1)) (hq : pc + 1 = q) (k : WP X G nL cn q σ lv (.int (x / y) :: st)) : WP X G nL cn pc σ lv (.int y :: .int x :: st) := by subst hq; exact fun H locs ls h hP hS => lv_idiv C.1.1 C.1.2.1 hdg hne (k H locs ls h hP hS)
theorem w_irem (C : Cx X G cc nL own fr lo rc) {x y : Int32} (hne : ¬ y = 0) (hdg : decode cc pc = .ok (.irem, 1)) (hq : pc + 1 = q) (k : WP X G nL cn q σ lv (.int (x - x / y * y) :: st)) : WP X G nL cn pc σ lv (.int y :: .int x :: st) := by subst hq; exact fun H locs ls h hP hS => lv_irem C.1.1 C.1.2.1 hdg hne (k H locs ls h hP hS)
theorem w_dup (C : Cx X G cc nL own fr lo rc) {va : Value} (hva : va.category = 1) (hdg : decode cc pc = .ok (.dup, 1)) (hq : pc + 1 = q) (k : WP X G nL cn q σ lv (va :: va :: st)) : WP X G nL cn pc σ lv (va :: st) := by subst hq; exact fun H locs ls h hP hS => lv_dup C.1.1 C.1.2.1 hdg hva (k H locs ls h hP hS)
theorem w_dup2 (C : Cx X G cc nL own fr lo rc) {va vb : Value} (hva : va.category = 1) (hvb : vb.category = 1) (hdg : decode cc pc = .ok (.dup2, 1)) (hq : pc + 1 = q) (k : WP X G nL cn q σ lv (va :: vb :: va :: vb :: st)) : WP X G nL cn pc σ lv (va :: vb :: st) := by subst hq; exact fun H locs ls h hP hS => lv_dup2_11 C.1.1 C.1.2.1 hdg hva hvb (k H locs ls h hP hS)
theorem w_pop (C : Cx X G cc nL own fr lo rc) {va : Value} (hva : va.category = 1) (hdg : decode cc pc = .ok (.pop, 1)) (hq : pc + 1 = q) (k : WP X G nL cn q σ lv st) : WP X G nL cn pc σ lv (va :: st) := by subst hq; exact fun H locs ls h hP hS => lv_pop C.1.1 C.1.2.1 hdg hva (k H locs ls h hP hS)
theorem w_goto (C : Cx X G cc nL own fr lo rc) {off : Int} (hdg : decode cc pc = .ok (.goto off, 3)) (hq : (pc : Int) + off = (q : Int)) (k : WP X G nL cn q σ lv st) : WP X G nL cn pc σ lv st := fun H locs ls h hP hS => lv_goto C.1.1 C.1.2.1 hdg hq (k H locs ls h hP hS)
theorem w_if_eq (C : Cx X G cc nL own fr lo rc) {α : Type} {a b : Option α} {res : α} {x : Int32} {off : Int} {qt : Nat} (hdg : decode cc pc = .ok (.ifCond .eq off, 3)) (ht : (pc : Int) + off = (qt : Int)) (hq : pc + 3 = q) (h : (if x = 0 then a else b) = some res) (kt : x = 0 → a = some res → WP X G nL cn qt σ lv st) (kf : ¬ (x = 0) → b = some res → WP X G nL cn q σ lv st) : WP X G nL cn pc σ lv (.int x :: st) := by subst hq; exact fun H locs ls hl hP hS => lv_if_eq C.1.1 C.1.2.1 hdg ht (fun c => kt c (by rw [if_pos c] at h; exact h) H locs ls hl hP hS) (fun c => kf c (by rw [if_neg c] at h; exact h) H locs ls hl hP hS)
theorem w_icmp_eq (C : Cx X G cc nL own fr lo rc) {α : Type} {a b : Option α} {res : α} {x y : Int32} {off : Int} {qt : Nat} (hdg : decode cc pc = .ok (.if_icmp .eq off, 3)) (ht : (pc : Int) + off = (qt : Int)) (hq : pc + 3 = q) (h : (if x = y then a else b) = some res) (kt : x = y → a = some res → WP X G nL cn qt σ lv st) (kf : ¬ (x = y) → b = some res → WP X G nL cn q σ lv st) : WP X G nL cn pc σ lv (.int y :: .int x :: st) := by subst hq; exact fun H locs ls hl hP hS => lv_icmp_eq C.1.1 C.1.2.1 hdg ht (fun c => kt c (by rw [if_pos c] at h; exact h) H locs ls hl hP hS) (fun c => kf c (by rw [if_neg c] at h; exact h) H locs ls hl hP hS)
theorem w_if_ne (C : Cx X G cc nL own fr lo rc) {α : Type} {a b : Option α} {res : α} {x : Int32} {off : Int} {qt : Nat} (hdg : decode cc pc = .ok (.ifCond .ne off, 3)) (ht : (pc : Int) + off = (qt : Int)) (hq : pc + 3 = q) (h : (if x = 0 then b else a) = some res) (kt : ¬ x = 0 → a = some res → WP X G nL cn qt σ lv st) (kf : x = 0 → b = some res → WP X G nL cn q σ lv st) : WP X G nL cn pc σ lv (.int x :: st) := by subst hq; exact fun H locs ls hl hP hS => lv_if_ne C.1.1 C.1.2.1 hdg ht (fun c => kt c (by rw [if_neg c] at h; exact h) H locs ls hl hP hS) (fun c => kf c (by rw [if_pos c] at h; exact h) H locs ls hl hP hS)
theorem w_icmp_ne (C : Cx X G cc nL own fr lo rc) {α : Type} {a b : Option α} {res : α} {x y : Int32} {off : Int} {qt : Nat} (hdg : decode cc pc = .ok (.if_icmp .ne off, 3)) (ht : (pc : Int) + off = (qt : Int)) (hq : pc + 3 = q) (h : (if x = y then b else a) = some res) (kt : ¬ x = y → a = some res → WP X G nL cn qt σ lv st) (kf : x = y → b = some res → WP X G nL cn q σ lv st) : WP X G nL cn pc σ lv (.int y :: .int x :: st) := by subst hq; exact fun H locs ls hl hP hS => lv_icmp_ne C.1.1 C.1.2.1 hdg ht (fun c => kt c (by rw [if_neg c] at h; exact h) H locs ls hl hP hS) (fun c => kf c (by rw [if_pos c] at h; exact h) H locs ls hl hP hS)
theorem w_if_lt (C : Cx X G cc nL own fr lo rc) {α : Type} {a b : Option α} {res : α} {x : Int32} {off : Int} {qt : Nat} (hdg : decode cc pc = .ok (.ifCond .lt off, 3)) (ht : (pc : Int) + off = (qt : Int)) (hq : pc + 3 = q) (h : (if x < 0 then a else b) = some res) (kt : x < 0 → a = some res → WP X G nL cn qt σ lv st) (kf : ¬ (x < 0) → b = some res → WP X G nL cn q σ lv st) : WP X G nL cn pc σ lv (.int x :: st) := by subst hq; exact fun H locs ls hl hP hS => lv_if_lt C.1.1 C.1.2.1 hdg ht (fun c => kt c (by rw [if_pos c] at h; exact h) H locs ls hl hP hS) (fun c => kf c (by rw [if_neg c] at h; exact h) H locs ls hl hP hS)
theorem w_icmp_lt (C : Cx X G cc nL own fr lo rc) {α : Type} {a b : Option α} {res : α} {x y : Int32} {off : Int} {qt : Nat} (hdg : decode cc pc = .ok (.if_icmp .lt off, 3)) (ht : (pc : Int) + off = (qt : Int)) (hq : pc + 3 = q) (h : (if x < y then a else b) = some res) (kt : x < y → a = some res → WP X G nL cn qt σ lv st) (kf : ¬ (x < y) → b = some res → WP X G nL cn q σ lv st) : WP X G nL cn pc σ lv (.int y :: .int x :: st) := by subst hq; exact fun H locs ls hl hP hS => lv_icmp_lt C.1.1 C.1.2.1 hdg ht (fun c => kt c (by rw [if_pos c] at h; exact h) H locs ls hl hP hS) (fun c => kf c (by rw [if_neg c] at h; exact h) H locs ls hl hP hS)
theorem w_if_ge (C : Cx X G cc nL own fr lo rc) {α : Type} {a b : Option α} {res : α} {x : Int32} {off : Int} {qt : Nat} (hdg : decode cc pc = .ok (.ifCond .ge off, 3)) (ht : (pc : Int) + off = (qt : Int)) (hq : pc + 3 = q) (h : (if 0 ≤ x then a else b) = some res) (kt : 0 ≤ x → a = some res → WP X G nL cn qt σ lv st) (kf : ¬ (0 ≤ x) → b = some res → WP X G nL cn q σ lv st) : WP X G nL cn pc σ lv (.int x :: st) := by subst hq; exact fun H locs ls hl hP hS => lv_if_ge C.1.1 C.1.2.1 hdg ht (fun c => kt c (by rw [if_pos c] at h; exact h) H locs ls hl hP hS) (fun c => kf c (by rw [if_neg c] at h; exact h) H locs ls hl hP hS)
theorem w_icmp_ge (C : Cx X G cc nL own fr lo rc) {α : Type} {a b : Option α} {res : α} {x y : Int32} {off : Int} {qt : Nat} (hdg : decode cc pc = .ok (.if_icmp .ge off, 3)) (ht : (pc : Int) + off = (qt : Int)) (hq : pc + 3 = q) (h : (if y ≤ x then a else b) = some res) (kt : y ≤ x → a = some res → WP X G nL cn qt σ lv st) (kf : ¬ (y ≤ x) → b = some res → WP X G nL cn q σ lv st) : WP X G nL cn pc σ lv (.int y :: .int x :: st) := by subst hq; exact fun H locs ls hl hP hS => lv_icmp_ge C.1.1 C.1.2.1 hdg ht (fun c => kt c (by rw [if_pos c] at h; exact h) H locs ls hl hP hS) (fun c => kf c (by rw [if_neg c] at h; exact h) H locs ls hl hP hS)
theorem w_if_gt (C : Cx X G cc nL own fr lo rc) {α : Type} {a b : Option α} {res : α} {x : Int32} {off : Int} {qt : Nat} (hdg : decode cc pc = .ok (.ifCond .gt off, 3)) (ht : (pc : Int) + off = (qt : Int)) (hq : pc + 3 = q) (h : (if 0 < x then a else b) = some res) (kt : 0 < x → a = some res → WP X G nL cn qt σ lv st) (kf : ¬ (0 < x) → b = some res → WP X G nL cn q σ lv st) : WP X G nL cn pc σ lv (.int x :: st) := by subst hq; exact fun H locs ls hl hP hS => lv_if_gt C.1.1 C.1.2.1 hdg ht (fun c => kt c (by rw [if_pos c] at h; exact h) H locs ls hl hP hS) (fun c => kf c (by rw [if_neg c] at h; exact h) H locs ls hl hP hS)
theorem w_icmp_gt (C : Cx X G cc nL own fr lo rc) {α : Type} {a b : Option α} {res : α} {x y : Int32} {off : Int} {qt : Nat} (hdg : decode cc pc = .ok (.if_icmp .gt off, 3)) (ht : (pc : Int) + off = (qt : Int)) (hq : pc + 3 = q) (h : (if y < x then a else b) = some res) (kt : y < x → a = some res → WP X G nL cn qt σ lv st) (kf : ¬ (y < x) → b = some res → WP X G nL cn q σ lv st) : WP X G nL cn pc σ lv (.int y :: .int x :: st) := by subst hq; exact fun H locs ls hl hP hS => lv_icmp_gt C.1.1 C.1.2.1 hdg ht (fun c => kt c (by rw [if_pos c] at h; exact h) H locs ls hl hP hS) (fun c => kf c (by rw [if_neg c] at h; exact h) H locs ls hl hP hS)
theorem w_if_le (C : Cx X G cc nL own fr lo rc) {α : Type} {a b : Option α} {res : α} {x : Int32} {off : Int} {qt : Nat} (hdg : decode cc pc = .ok (.ifCond .le off, 3)) (ht : (pc : Int) + off = (qt : Int)) (hq : pc + 3 = q) (h : (if x ≤ 0 then a else b) = some res) (kt : x ≤ 0 → a = some res → WP X G nL cn qt σ lv st) (kf : ¬ (x ≤ 0) → b = some res → WP X G nL cn q σ lv st) : WP X G nL cn pc σ lv (.int x :: st) := by subst hq; exact fun H locs ls hl hP hS => lv_if_le C.1.1 C.1.2.1 hdg ht (fun c => kt c (by rw [if_pos c] at h; exact h) H locs ls hl hP hS) (fun c => kf c (by rw [if_neg c] at h; exact h) H locs ls hl hP hS)
theorem w_icmp_le (C : Cx X G cc nL own fr lo rc) {α : Type} {a b : Option α} {res : α} {x y : Int32} {off : Int} {qt : Nat} (hdg : decode cc pc = .ok (.if_icmp .le off, 3)) (ht : (pc : Int) + off = (qt : Int)) (hq : pc + 3 = q) (h : (if x ≤ y then a else b) = some res) (kt : x ≤ y → a = some res → WP X G nL cn qt σ lv st) (kf : ¬ (x ≤ y) → b = some res → WP X G nL cn q σ lv st) : WP X G nL cn pc σ lv (.int y :: .int x :: st) := by subst hq; exact fun H locs ls hl hP hS => lv_icmp_le C.1.1 C.1.2.1 hdg ht (fun c => kt c (by rw [if_pos c] at h; exact h) H locs ls hl hP hS) (fun c => kf c (by rw [if_neg c] at h; exact h) H locs ls hl hP hS)

def ckB {α : Type} (y : Int32) (x : Option α) : Option α := if y &&& 1 = y then x else none
theorem ckB_w {α : Type} {y : Int32} {x : Option α} {res : α} (h : ckB y x = some res) : y &&& 1 = y ∧ x = some res := by
  unfold ckB at h
  by_cases q : y &&& 1 = y
  · rw [if_pos q] at h; exact ⟨q, h⟩
  · rw [if_neg q] at h; cases h
theorem w_nm {α : Type} {res : α} {x : Int32} {f : Int32 → Option α} (h : nm x f = some res) (k : ∀ y : Int32, f y = some res → WP X G nL cn pc σ lv (.int y :: st)) : WP X G nL cn pc σ lv (.int x :: st) := k x h
theorem w_nst {α : Type} {res : α} {f : St → Option α} (h : nm σ f = some res) (k : ∀ u : St, f u = some res → WP X G nL cn pc u lv st) : WP X G nL cn pc σ lv st := k σ h
theorem w_get (C : Cx X G cc nL own fr lo rc) {ci index N : Nat} {Cn : String} {T : u_T} {fs : List Value} {v : Value} (k j : Nat) (hk : k < G.2.2.1) (he : G.2.2.2.2 k (σ k) = .inr (ci, fs)) (hc : vwCl[ci]? = some (Cn, T, N)) (hin : ∀ w ∈ u_ws Cn T N, w ∈ BG) (hj : j < N) (hlink : Cond.fieldLink own index (T j).1 (T j).2.1 (T j).2.2.1 ∈ BG) (hv : fs[j]? = some v) (hdg : decode cc pc = .ok (.getfield index, 3)) (hq : pc + 3 = q) (kk : WP X G nL cn q σ lv (v :: st)) : WP X G nL cn pc σ lv (.ref (gad G k) :: st) := by
  subst hq
  exact fun H locs ls h hP hS => va_get (D := G.1) (tys := G.2.1) C.1.1 C.1.2.1 C.1.2.2.2.2 hin C.1.2.2.2.1 C.2.1 hP k (wW_get hk he) hc j hj (C.1.2.2.2.2 _ hlink) (fun _ h9 => h9) hv hdg (kk H locs ls h hP hS)
theorem w_put (C : Cx X G cc nL own fr lo rc) {ci index N : Nat} {Cn : String} {T : u_T} {fs : List Value} {v : Value} (k j : Nat) (x : Int32) (hk : k < G.2.2.1) (he : G.2.2.2.2 k (σ k) = .inr (ci, fs)) (hc : vwCl[ci]? = some (Cn, T, N)) (hin : ∀ w ∈ u_ws Cn T N, w ∈ BG) {ty0 : Nat → FieldType} (hty : ∀ k, k < N → parseFieldDescriptor (T k).2.2.1 = some (ty0 k)) (hnm : ∀ a, a < N → ∀ b, b < N → a ≠ b → (T a).2.1 ≠ (T b).2.1) (hj : j < N) (hlink : Cond.fieldLink own index (T j).1 (T j).2.1 (T j).2.2.1 ∈ BG) (hfin : (T j).2.2.2 = false) (hn : narrow (ty0 j) v = v) (hfit : fits (ty0 j) v = true) (hl : j < fs.length) (he' : .inr (ci, fs.set j v) = G.2.2.2.2 k (upd (σ k) j x)) (hdg : decode cc pc = .ok (.putfield index, 3)) (hq : pc + 3 = q) (kk : WP X G nL cn q (up σ k j x) lv st) : WP X G nL cn pc σ lv (v :: .ref (gad G k) :: st) := by
  subst hq
  exact fun H locs ls h hP hS => va_put (D := G.1) (tys := G.2.1) C.1.1 C.1.2.1 C.1.2.2.2.2 hin ty0 hty hnm C.1.2.2.2.1 C.2.1 hP (wW_D C.2.2.1) hS k (wW_get hk he) hc j hj (C.1.2.2.2.2 _ hlink) (fun _ h9 => h9) hfin (hty j hj) hn hfit hl hdg
    (fun H1 locs1 hP1 _ hS1 => kk H1 locs1 ls h (by rw [wW_set (σ' := up σ k j x) (upd (σ k) j x) rfl he'] at hP1; exact hP1) hS1)
theorem w_iald (C : Cx X G cc nL own fr lo rc) {α : Type} {a : Option α} {res : α} {cA : ClassId} (k n t0 : Nat) {i : Int32} (hk : k < G.2.2.1) (he : ∀ g, G.2.2.2.2 k g = .inl (cA, n, .inl g)) (ht : G.2.1[t0]? = some (cA, .int)) (h : ckI i n a = some res) (hdg : decode cc pc = .ok (.iaload, 1)) (hq : pc + 1 = q) (kk : a = some res → WP X G nL cn q σ lv (.int (σ k i.toNatClampNeg) :: st)) : WP X G nL cn pc σ lv (.int i :: .ref (gad G k) :: st) := by
  subst hq
  exact fun H locs ls hl hP hS => va_iald (D := G.1) (tys := G.2.1) C.1.1 C.1.2.1 C.2.1 hP k t0 (wW_get hk (he (σ k))) ht (ckI_w h).1 hdg (kk (ckI_w h).2 H locs ls hl hP hS)
theorem w_ialdc (C : Cx X G cc nL own fr lo rc) {cA : ClassId} (k n t0 j : Nat) {i : Int32} (hk : k < G.2.2.1) (he : ∀ g, G.2.2.2.2 k g = .inl (cA, n, .inl g)) (ht : G.2.1[t0]? = some (cA, .int)) (hi : i.toNatClampNeg = j) (h : vp_in i n) (hdg : decode cc pc = .ok (.iaload, 1)) (hq : pc + 1 = q) (kk : WP X G nL cn q σ lv (.int (σ k j) :: st)) : WP X G nL cn pc σ lv (.int i :: .ref (gad G k) :: st) := by
  subst hq; subst hi
  exact fun H locs ls hl hP hS => va_iald (D := G.1) (tys := G.2.1) C.1.1 C.1.2.1 C.2.1 hP k t0 (wW_get hk (he (σ k))) ht h hdg (kk H locs ls hl hP hS)
theorem w_iast (C : Cx X G cc nL own fr lo rc) {α : Type} {a : Option α} {res : α} {cA : ClassId} (k n t0 : Nat) {i x : Int32} (hk : k < G.2.2.1) (he : ∀ g, G.2.2.2.2 k g = .inl (cA, n, .inl g)) (ht : G.2.1[t0]? = some (cA, .int)) (h : ckI i n a = some res) (hdg : decode cc pc = .ok (.iastore, 1)) (hq : pc + 1 = q) (kk : a = some res → WP X G nL cn q (up σ k i.toNatClampNeg x) lv st) : WP X G nL cn pc σ lv (.int x :: .int i :: .ref (gad G k) :: st) := by
  subst hq
  exact fun H locs ls hl hP hS => va_iast (D := G.1) (tys := G.2.1) C.1.1 C.1.2.1 C.2.1 hP (wW_D C.2.2.1) hS k t0 (wW_get hk (he (σ k))) ht (ckI_w h).1 hdg
    (fun H1 locs1 hP1 _ hS1 => kk (ckI_w h).2 H1 locs1 ls hl (by rw [wW_set (σ' := up σ k i.toNatClampNeg x) (upd (σ k) i.toNatClampNeg x) rfl (he _).symm] at hP1; exact hP1) hS1)
theorem w_iastc (C : Cx X G cc nL own fr lo rc) {cA : ClassId} (k n t0 j : Nat) {i x : Int32} (hk : k < G.2.2.1) (he : ∀ g, G.2.2.2.2 k g = .inl (cA, n, .inl g)) (ht : G.2.1[t0]? = some (cA, .int)) (hi : i.toNatClampNeg = j) (h : vp_in i n) (hdg : decode cc pc = .ok (.iastore, 1)) (hq : pc + 1 = q) (kk : WP X G nL cn q (up σ k j x) lv st) : WP X G nL cn pc σ lv (.int x :: .int i :: .ref (gad G k) :: st) := by
  subst hq; subst hi
  exact fun H locs ls hl hP hS => va_iast (D := G.1) (tys := G.2.1) C.1.1 C.1.2.1 C.2.1 hP (wW_D C.2.2.1) hS k t0 (wW_get hk (he (σ k))) ht h hdg
    (fun H1 locs1 hP1 _ hS1 => kk H1 locs1 ls hl (by rw [wW_set (σ' := up σ k i.toNatClampNeg x) (upd (σ k) i.toNatClampNeg x) rfl (he _).symm] at hP1; exact hP1) hS1)
theorem w_alen (C : Cx X G cc nL own fr lo rc) {cA : ClassId} (k n t0 : Nat) (v : Int32) (hk : k < G.2.2.1) (he : ∀ g, G.2.2.2.2 k g = .inl (cA, n, .inl g)) (ht : G.2.1[t0]? = some (cA, .int)) (hv : Int32.ofNat n = v) (hdg : decode cc pc = .ok (.arraylength, 1)) (hq : pc + 1 = q) (kk : WP X G nL cn q σ lv (.int v :: st)) : WP X G nL cn pc σ lv (.ref (gad G k) :: st) := by
  subst hq
  exact fun H locs ls hl hP hS => va_alen (D := G.1) (tys := G.2.1) C.1.1 C.1.2.1 C.2.1 hP k t0 (wW_get hk (he (σ k))) ht hv hdg (kk H locs ls hl hP hS)
/-- contracts over the store: the method answers r and leaves the store σ' -/
abbrev rmK (fr lo rc : Nat) : Room := { frames := fr, cells := rc, slots := 6 * rc, locals := lo }
def PR (G : GT) (σ : St) (U : State) : Prop := va_P G.1 vwCl (wW G σ) U.heap ∧ va_K G.1 vwCl G.2.1 U ∧ EV G U U.heap
def BR (G : GT) (σ : St) (t : State) : Prop := va_P G.1 vwCl (wW G σ) t.heap
abbrev wB (y : MethodName) (bytes : ByteArray) (maxL : Nat) (ret : Option FieldType) : List Cond := Cond.code y bytes maxL ret :: BG
def MI (l : Launch) (y : MethodName) (ws : List Cond) (fr lo : Nat) (G : GT) (av : List Value) (σ : St) (r : Int32) (σ' : St) : Prop := Met l y ws (rmK fr lo 0) (va_Pc av (PR G σ)) (va_Qi (fun x u => x = r ∧ u = σ') (BR G) (AA G)) 0 0 (AA G)
def MV (l : Launch) (y : MethodName) (ws : List Cond) (fr lo : Nat) (G : GT) (av : List Value) (σ σ' : St) : Prop := Met l y ws (rmK fr lo 0) (va_Pc av (PR G σ)) (va_Qv (fun u => u = σ') (BR G) (AA G)) 0 0 (AA G)
theorem wB_in {y : MethodName} {bytes : ByteArray} {maxL : Nat} {ret : Option FieldType} (hc : Cond.code y bytes maxL ret ∈ BG) : ∀ w ∈ wB y bytes maxL ret, w ∈ BG := fun w h => (List.mem_cons.mp h).elim (fun e => by rw [e]; exact hc) id
theorem wV_in {index maxL : Nat} {Cn : String} {y : MethodName} {bytes : ByteArray} {ret : Option FieldType} (hlk : Cond.methodLink own index y ∈ BG) (hy : Cond.instanceMethod y ∈ BG ∧ Cond.selects Cn y y ∈ BG ∧ Cond.initialized Cn ∈ BG ∧ Cond.code y bytes maxL ret ∈ BG) : ∀ w ∈ wsV own index Cn y (wB y bytes maxL ret), w ∈ BG := by
  intro w h
  rcases List.mem_append.mp h with h | h
  · simp only [List.mem_cons, List.not_mem_nil, or_false] at h
    rcases h with rfl | rfl | rfl | rfl
    · exact hlk
    · exact hy.1
    · exact hy.2.1
    · exact hy.2.2.1
  · exact wB_in hy.2.2.2 w h
theorem wS_in {index maxL : Nat} {y : MethodName} {bytes : ByteArray} {ret : Option FieldType} (hlk : Cond.methodLink own index y ∈ BG) (hy : Cond.static y ∈ BG ∧ Cond.initialized y.cls ∈ BG ∧ Cond.code y bytes maxL ret ∈ BG) : ∀ w ∈ va_wsS own index y (wB y bytes maxL ret), w ∈ BG := by
  intro w h
  rcases List.mem_append.mp h with h | h
  · simp only [List.mem_cons, List.not_mem_nil, or_false] at h
    rcases h with rfl | rfl | rfl
    · exact hlk
    · exact hy.1
    · exact hy.2.1
  · exact wB_in hy.2.2 w h
theorem PR.blind {av : List Value} : FrameBlind (va_Pc av (PR G σ)) := fun a U g mk h => ⟨h.1, h.2.1, va_K.moved (u := U) (U := U.calling g mk a) (Vm.Alike.refl U.vm) h.2.2.1, EV.same (u := U) (U := U.calling g mk a) rfl h.2.2.2⟩
theorem PR.at {H : Heap} {locs : List Loc} {s U : State} (hP : va_P G.1 vwCl (wW G σ) H) (hK : va_K G.1 vwCl G.2.1 s) (hE : EV G s s.heap) (hS : va_S (AA G) s.heap H locs) (hU : U.heap = H) (hW : s.WarmedH U.vm) : PR G σ U := ⟨by rw [hU]; exact hP, va_K.moved hW.alike hK, by rw [hU]; exact EV.go hW hS hE⟩
abbrev okY (y : MethodName) (n : Nat) : Prop := y.cls ≠ "java/lang/invoke/MethodHandle" ∧ y.cls ≠ "java/lang/invoke/VarHandle" ∧ (parseMethodDescriptor y.desc).map (fun d => d.parameters.length) = some n
theorem w_callVi (C : Cx X G cc nL own fr lo rc) {ci index N n maxL fr' lo' : Nat} {Cn : String} {T : u_T} {fs As st' : List Value} {y : MethodName} {bytes : ByteArray} {ret : Option FieldType} {r : Int32} {σ' : St} (k : Nat) (hk : k < G.2.2.1) (he : G.2.2.2.2 k (σ k) = .inr (ci, fs)) (hc : vwCl[ci]? = some (Cn, T, N)) (hM : MI X.2.1 y (wB y bytes maxL ret) fr' lo' G (.ref (gad G k) :: As) σ r σ') (hlk : Cond.methodLink own index y ∈ BG) (hy : Cond.instanceMethod y ∈ BG ∧ Cond.selects Cn y y ∈ BG ∧ Cond.initialized Cn ∈ BG ∧ Cond.code y bytes maxL ret ∈ BG) (hd : y.cls = Cn ∧ okY y n) (hR : fr' + 1 ≤ fr ∧ 8 + (maxL + 11) + lo' ≤ lo) (hrc : cn ≤ rc) (hn : As.length = n) (hst : st' = As.reverse ++ .ref (gad G k) :: st) (hcat : (st.map fun v => v.category).sum ≤ 8) (hdg : decode cc pc = .ok (.invokevirtual index, 3)) (hq : pc + 3 = q) (kk : WP X G nL cn q σ' lv (.int r :: st)) : WP X G nL cn pc σ lv st' := by
  subst hq; subst hst
  intro H locs ls hl hP hS
  obtain ⟨C1, C2, C3, C4, C5, C6, C7, C8⟩ := C
  refine va_calli (va_runV (As := As) (rest := st) C1 hM (cwV n C1.2.2.2.2 (BG_in (wV_in hlk hy)) rfl rfl rfl hd ⟨by rw [C5]; exact hR.1, by rw [C6]; exact hR.2⟩) ⟨PR.blind, va_recv C2 hP hc (wW_get hk he), fun U hU hW => ⟨rfl, PR.at hP C2 C4 hS hU hW⟩⟩ rfl hn hl.1 rfl (lv_room hcat) hdg ⟨by rw [C7]; exact hrc, by rw [C8]; omega⟩) hS (fun q _ h => h) (fun q h => h) (fun r' u t H1 locs1 ht _ hw hB _ _ hS1 => ?_)
  obtain ⟨rfl, rfl⟩ := hw
  exact kk H1 locs1 ls hl (by rw [← ht]; exact hB) hS1
theorem w_callVv (C : Cx X G cc nL own fr lo rc) {ci index N n maxL fr' lo' : Nat} {Cn : String} {T : u_T} {fs As st' : List Value} {y : MethodName} {bytes : ByteArray} {ret : Option FieldType} {σ' : St} (k : Nat) (hk : k < G.2.2.1) (he : G.2.2.2.2 k (σ k) = .inr (ci, fs)) (hc : vwCl[ci]? = some (Cn, T, N)) (hM : MV X.2.1 y (wB y bytes maxL ret) fr' lo' G (.ref (gad G k) :: As) σ σ') (hlk : Cond.methodLink own index y ∈ BG) (hy : Cond.instanceMethod y ∈ BG ∧ Cond.selects Cn y y ∈ BG ∧ Cond.initialized Cn ∈ BG ∧ Cond.code y bytes maxL ret ∈ BG) (hd : y.cls = Cn ∧ okY y n) (hR : fr' + 1 ≤ fr ∧ 8 + (maxL + 11) + lo' ≤ lo) (hrc : cn ≤ rc) (hn : As.length = n) (hst : st' = As.reverse ++ .ref (gad G k) :: st) (hcat : (st.map fun v => v.category).sum ≤ 8) (hdg : decode cc pc = .ok (.invokevirtual index, 3)) (hq : pc + 3 = q) (kk : WP X G nL cn q σ' lv st) : WP X G nL cn pc σ lv st' := by
  subst hq; subst hst
  intro H locs ls hl hP hS
  obtain ⟨C1, C2, C3, C4, C5, C6, C7, C8⟩ := C
  refine va_callv (va_runV (As := As) (rest := st) C1 hM (cwV n C1.2.2.2.2 (BG_in (wV_in hlk hy)) rfl rfl rfl hd ⟨by rw [C5]; exact hR.1, by rw [C6]; exact hR.2⟩) ⟨PR.blind, va_recv C2 hP hc (wW_get hk he), fun U hU hW => ⟨rfl, PR.at hP C2 C4 hS hU hW⟩⟩ rfl hn hl.1 rfl (lv_room hcat) hdg ⟨by rw [C7]; exact hrc, by rw [C8]; omega⟩) hS (fun q _ h => h) (fun q h => h) (fun u t H1 locs1 ht _ hw hB _ _ hS1 => ?_)
  subst hw
  exact kk H1 locs1 ls hl (by rw [← ht]; exact hB) hS1
theorem w_callSi (C : Cx X G cc nL own fr lo rc) {index n maxL fr' lo' : Nat} {As st' : List Value} {y : MethodName} {bytes : ByteArray} {ret : Option FieldType} {r : Int32} {σ' : St} (hM : MI X.2.1 y (wB y bytes maxL ret) fr' lo' G As σ r σ') (hlk : Cond.methodLink own index y ∈ BG) (hy : Cond.static y ∈ BG ∧ Cond.initialized y.cls ∈ BG ∧ Cond.code y bytes maxL ret ∈ BG) (hd : okY y n) (hR : fr' + 1 ≤ fr ∧ 8 + (maxL + 11) + lo' ≤ lo) (hrc : cn ≤ rc) (hn : As.length = n) (hst : st' = As.reverse ++ st) (hcat : (st.map fun v => v.category).sum ≤ 8) (hdg : decode cc pc = .ok (.invokestatic index, 3)) (hq : pc + 3 = q) (kk : WP X G nL cn q σ' lv (.int r :: st)) : WP X G nL cn pc σ lv st' := by
  subst hq; subst hst
  intro H locs ls hl hP hS
  obtain ⟨C1, C2, C3, C4, C5, C6, C7, C8⟩ := C
  refine va_calli (va_runS (As := As) (rest := st) C1 hM (va_cwS n C1.2.2.2.2 (BG_in (wS_in hlk hy)) rfl rfl rfl hd ⟨by rw [C5]; exact hR.1, by rw [C6]; exact hR.2⟩) ⟨PR.blind, fun U hU hW => ⟨rfl, PR.at hP C2 C4 hS hU hW⟩⟩ rfl hn hl.1 rfl (lv_room hcat) hdg ⟨by rw [C7]; exact hrc, by rw [C8]; omega⟩) hS (fun q _ h => h) (fun q h => h) (fun r' u t H1 locs1 ht _ hw hB _ _ hS1 => ?_)
  obtain ⟨rfl, rfl⟩ := hw
  exact kk H1 locs1 ls hl (by rw [← ht]; exact hB) hS1
theorem w_callSv (C : Cx X G cc nL own fr lo rc) {index n maxL fr' lo' : Nat} {As st' : List Value} {y : MethodName} {bytes : ByteArray} {ret : Option FieldType} {σ' : St} (hM : MV X.2.1 y (wB y bytes maxL ret) fr' lo' G As σ σ') (hlk : Cond.methodLink own index y ∈ BG) (hy : Cond.static y ∈ BG ∧ Cond.initialized y.cls ∈ BG ∧ Cond.code y bytes maxL ret ∈ BG) (hd : okY y n) (hR : fr' + 1 ≤ fr ∧ 8 + (maxL + 11) + lo' ≤ lo) (hrc : cn ≤ rc) (hn : As.length = n) (hst : st' = As.reverse ++ st) (hcat : (st.map fun v => v.category).sum ≤ 8) (hdg : decode cc pc = .ok (.invokestatic index, 3)) (hq : pc + 3 = q) (kk : WP X G nL cn q σ' lv st) : WP X G nL cn pc σ lv st' := by
  subst hq; subst hst
  intro H locs ls hl hP hS
  obtain ⟨C1, C2, C3, C4, C5, C6, C7, C8⟩ := C
  refine va_callv (va_runS (As := As) (rest := st) C1 hM (va_cwS n C1.2.2.2.2 (BG_in (wS_in hlk hy)) rfl rfl rfl hd ⟨by rw [C5]; exact hR.1, by rw [C6]; exact hR.2⟩) ⟨PR.blind, fun U hU hW => ⟨rfl, PR.at hP C2 C4 hS hU hW⟩⟩ rfl hn hl.1 rfl (lv_room hcat) hdg ⟨by rw [C7]; exact hrc, by rw [C8]; omega⟩) hS (fun q _ h => h) (fun q h => h) (fun u t H1 locs1 ht _ hw hB _ _ hS1 => ?_)
  subst hw
  exact kk H1 locs1 ls hl (by rw [← ht]; exact hB) hS1
theorem w_callNi (C : Cx X G cc nL own fr lo rc) {index n maxL fr' lo' : Nat} {host : String} {As st' : List Value} {y : MethodName} {bytes : ByteArray} {ret : Option FieldType} {r : Int32} {σ' : St} (hM : MI X.2.1 y (wB y bytes maxL ret) fr' lo' G As σ r σ') (hnw : (own, index, y, host) ∈ nestW) (hy : Cond.static y ∈ BG ∧ Cond.initialized y.cls ∈ BG ∧ Cond.code y bytes maxL ret ∈ BG) (hd : okY y n) (hR : fr' + 1 ≤ fr ∧ 8 + (maxL + 11) + lo' ≤ lo) (hrc : cn ≤ rc) (hn : As.length = n) (hst : st' = As.reverse ++ st) (hcat : (st.map fun v => v.category).sum ≤ 8) (hdg : decode cc pc = .ok (.invokestatic index, 3)) (hq : pc + 3 = q) (kk : WP X G nL cn q σ' lv (.int r :: st)) : WP X G nL cn pc σ lv st' := by
  subst hq; subst hst
  intro H locs ls hl hP hS
  obtain ⟨C1, C2, C3, C4, C5, C6, C7, C8⟩ := C
  refine va_calli (va_runSN (As := As) (rest := st) (host := host) C1 hM ⟨va_cnB n C1.2.2.2.2 (BG_in (wB_in hy.2.2)) rfl rfl rfl (C4.1 _ hnw) (C1.2.2.2.2 _ hy.2.1) hd ⟨by rw [C5]; exact hR.1, by rw [C6]; exact hR.2⟩, C1.2.2.2.2 _ hy.1, trivial⟩ ⟨PR.blind, fun U hU hW => ⟨rfl, PR.at hP C2 C4 hS hU hW⟩⟩ rfl hn hl.1 rfl (lv_room hcat) hdg ⟨by rw [C7]; exact hrc, by rw [C8]; omega⟩) hS (fun q _ h => h) (fun q h => h) (fun r' u t H1 locs1 ht _ hw hB _ _ hS1 => ?_)
  obtain ⟨rfl, rfl⟩ := hw
  exact kk H1 locs1 ls hl (by rw [← ht]; exact hB) hS1

/-- a static row of four ints -/
theorem w_gets (C : Cx X G cc nL own fr lo rc) {Cn n d : String} {v : Value} {index : Nat} (hZ : va_Z Cn n d v (AA G) (xs X) (xs X).heap) (hlink : Cond.fieldLink own index Cn n d ∈ BG) (hdg : decode cc pc = .ok (.getstatic index, 3)) (hq : pc + 3 = q) (kk : WP X G nL cn q σ lv (v :: st)) : WP X G nL cn pc σ lv st := by
  subst hq
  exact fun H locs ls h hP hS => va_gets C.1.1 C.1.2.1 hZ hS C.1.2.2.2.1 (C.1.2.2.2.2 _ hlink) (fun _ h9 => h9) hdg (kk H locs ls h hP hS)
theorem w_tald (C : Cx X G cc nL own fr lo rc) {α : Type} {a : Option α} {res : α} {t N : Nat} {f : Nat → Int32} {i : Int32} (hT : va_T .int t N (fun j => .int (f j)) (AA G) (xs X) (xs X).heap) (h : ckI i N a = some res) (hdg : decode cc pc = .ok (.iaload, 1)) (hq : pc + 1 = q) (kk : a = some res → WP X G nL cn q σ lv (.int (f i.toNatClampNeg) :: st)) : WP X G nL cn pc σ lv (.int i :: .ref t :: st) := by
  subst hq
  exact fun H locs ls hl hP hS => va_ti C.1.1 C.1.2.1 hT hS (ckI_w h).1 rfl hdg (kk (ckI_w h).2 H locs ls hl hP hS)
/-- a switch -/
theorem w_tsIn (C : Cx X G cc nL own fr lo rc) {x : Int32} (v : Int32) {dflt l9 h9 : Int} {offs : Array Int} {len : Nat} {off : Int} (e : x = v) (hdg : decode cc pc = .ok (.tableswitch dflt l9 h9 offs, len)) (h1 : ¬ v.toInt < l9) (h2 : ¬ h9 < v.toInt) (ho : offs[(v.toInt - l9).toNat]? = some off) (hq : (pc : Int) + off = (q : Int)) (kk : WP X G nL cn q σ lv st) : WP X G nL cn pc σ lv (.int x :: st) := by
  subst e
  exact fun H locs ls hl hP hS => lv_tableIn C.1.1 C.1.2.1 hdg h1 h2 ho hq (kk H locs ls hl hP hS)
theorem w_tsOut (C : Cx X G cc nL own fr lo rc) {x : Int32} {dflt l9 h9 : Int} {offs : Array Int} {len : Nat} (hdg : decode cc pc = .ok (.tableswitch dflt l9 h9 offs, len)) (h : x.toInt < l9 ∨ h9 < x.toInt) (hq : (pc : Int) + dflt = (q : Int)) (kk : WP X G nL cn q σ lv st) : WP X G nL cn pc σ lv (.int x :: st) :=
  fun H locs ls hl hP hS => lv_tableOut C.1.1 C.1.2.1 hdg h hq (kk H locs ls hl hP hS)
theorem ts_out {x : Int32} (a : Int) (n : Nat) (ha : -1000 ≤ a ∧ a ≤ 1000 ∧ n ≤ 1000) (h : ∀ k : Nat, k ≤ n → ¬ x = Int32.ofInt (a + k)) : x.toInt < a ∨ a + n < x.toInt := by
  rcases Int.lt_or_le x.toInt a with q | q
  · exact Or.inl q
  · rcases Int.lt_or_le (a + n) x.toInt with q2 | q2
    · exact Or.inr q2
    · refine absurd ?_ (h (x.toInt - a).toNat (by omega))
      rw [show a + ((x.toInt - a).toNat : Int) = x.toInt by omega, Int32.ofInt_toInt]
/-- library members -/
theorem w_mmax (C : Cx X G cc nL own fr lo rc) {index : Nat} {x y : Int32} (hl : ∀ w ∈ [Cond.methodLink own index Lib.Math.max.name, Cond.static Lib.Math.max.name, Cond.initialized "java/lang/Math", Cond.code Lib.Math.max.name Lib.Math.max.code 2 (some .int)], w ∈ BG) (hR : 1 ≤ fr ∧ (st.map fun v => v.category).sum + 13 ≤ lo) (hrc : cn ≤ rc) (hdg : decode cc pc = .ok (.invokestatic index, 3)) (hq : pc + 3 = q) (kk : WP X G nL cn q σ lv (.int (if x < y then y else x) :: st)) : WP X G nL cn pc σ lv (.int y :: .int x :: st) := by
  subst hq
  obtain ⟨C1, C2, C3, C4, C5, C6, C7, C8⟩ := C
  exact fun H locs ls h hP hS => va_mmax C1.1 C1.2.1 (C1.2.2.1.trans h.1.symm) C1.2.2.2.1 (C1.2.2.2.2 _ (hl _ (by simp))) (C1.2.2.2.2 _ (hl _ (by simp))) (C1.2.2.2.2 _ (hl _ (by simp))) (C1.2.2.2.2 _ (hl _ (by simp))) (by rw [C5]; exact hR.1) (by rw [C6]; exact hR.2) (by rw [C7]; exact hrc) (by rw [C8]; omega) hdg (kk H locs ls h hP hS)
theorem w_mmin (C : Cx X G cc nL own fr lo rc) {index : Nat} {x y : Int32} (hl : ∀ w ∈ [Cond.methodLink own index Lib.Math.min.name, Cond.static Lib.Math.min.name, Cond.initialized "java/lang/Math", Cond.code Lib.Math.min.name Lib.Math.min.code 2 (some .int)], w ∈ BG) (hR : 1 ≤ fr ∧ (st.map fun v => v.category).sum + 13 ≤ lo) (hrc : cn ≤ rc) (hdg : decode cc pc = .ok (.invokestatic index, 3)) (hq : pc + 3 = q) (kk : WP X G nL cn q σ lv (.int (if y < x then y else x) :: st)) : WP X G nL cn pc σ lv (.int y :: .int x :: st) := by
  subst hq
  obtain ⟨C1, C2, C3, C4, C5, C6, C7, C8⟩ := C
  exact fun H locs ls h hP hS => va_mmin C1.1 C1.2.1 (C1.2.2.1.trans h.1.symm) C1.2.2.2.1 (C1.2.2.2.2 _ (hl _ (by simp))) (C1.2.2.2.2 _ (hl _ (by simp))) (C1.2.2.2.2 _ (hl _ (by simp))) (C1.2.2.2.2 _ (hl _ (by simp))) (by rw [C5]; exact hR.1) (by rw [C6]; exact hR.2) (by rw [C7]; exact hrc) (by rw [C8]; omega) hdg (kk H locs ls h hP hS)
theorem w_mabs (C : Cx X G cc nL own fr lo rc) {index : Nat} {x : Int32} (hl : ∀ w ∈ [Cond.methodLink own index Lib.Math.abs.name, Cond.static Lib.Math.abs.name, Cond.initialized "java/lang/Math", Cond.code Lib.Math.abs.name Lib.Math.abs.code 1 (some .int)], w ∈ BG) (hR : 1 ≤ fr ∧ (st.map fun v => v.category).sum + 13 ≤ lo) (hrc : cn ≤ rc) (hdg : decode cc pc = .ok (.invokestatic index, 3)) (hq : pc + 3 = q) (kk : WP X G nL cn q σ lv (.int (if 0 ≤ x then x else 0 - x) :: st)) : WP X G nL cn pc σ lv (.int x :: st) := by
  subst hq
  obtain ⟨C1, C2, C3, C4, C5, C6, C7, C8⟩ := C
  exact fun H locs ls h hP hS => va_mabs C1.1 C1.2.1 (C1.2.2.1.trans h.1.symm) C1.2.2.2.1 (C1.2.2.2.2 _ (hl _ (by simp))) (C1.2.2.2.2 _ (hl _ (by simp))) (C1.2.2.2.2 _ (hl _ (by simp))) (C1.2.2.2.2 _ (hl _ (by simp))) (by rw [C5]; exact hR.1) (by rw [C6]; exact hR.2) (by rw [C7]; exact hrc) (by rw [C8]; omega) hdg (kk H locs ls h hP hS)
/-- what System.arraycopy of ints leaves: n ints of cell k0 from sp on in cell k1 from dp on -/
def acp (σ : St) (k0 sp k1 dp n : Nat) : St := fun a => if a = k1 then va_cpy (σ k0) (σ k1) sp dp n else σ a
theorem w_acopy (C : Cx X G cc nL own fr lo rc) {index : Nat} {cA : ClassId} (k0 k1 n0 n1 t0 jsp jdp jn : Nat) {sp dp n : Int32} (hl : ∀ w ∈ [Cond.methodLink own index arraycopyName, Cond.native arraycopyName, Cond.static arraycopyName, Cond.initialized "java/lang/System"], w ∈ BG) (hk0 : k0 < G.2.2.1) (hk1 : k1 < G.2.2.1) (he0 : ∀ g, G.2.2.2.2 k0 g = .inl (cA, n0, .inl g)) (he1 : ∀ g, G.2.2.2.2 k1 g = .inl (cA, n1, .inl g)) (ht : G.2.1[t0]? = some (cA, .int)) (hsp : ¬ sp < 0 ∧ sp.toNatClampNeg = jsp) (hdp : ¬ dp < 0 ∧ dp.toNatClampNeg = jdp) (hnn : ¬ n < 0 ∧ n.toNatClampNeg = jn) (h0 : jsp + jn ≤ n0) (h1 : jdp + jn ≤ n1) (hR : 1 ≤ fr ∧ (st.map fun v => v.category).sum + (nativeFrameWords "java/lang/System" "arraycopy" 5 + 11) ≤ lo) (hdg : decode cc pc = .ok (.invokestatic index, 3)) (hq : pc + 3 = q) (kk : WP X G nL cn q (acp σ k0 jsp k1 jdp jn) lv st) : WP X G nL cn pc σ lv (.int n :: .int dp :: .ref (gad G k1) :: .int sp :: .ref (gad G k0) :: st) := by
  subst hq
  obtain ⟨C1, C2, C3, C4, C5, C6, C7, C8⟩ := C
  obtain ⟨hsp, rfl⟩ := hsp
  obtain ⟨hdp, rfl⟩ := hdp
  obtain ⟨hnn, rfl⟩ := hnn
  exact fun H locs ls h hP hS => va_copyi (D := G.1) (tys := G.2.1) C1.1 C1.2.1 (C1.2.2.1.trans h.1.symm) C1.2.2.2.1 (C1.2.2.2.2 _ (hl _ (by simp))) (C1.2.2.2.2 _ (hl _ (by simp))) (C1.2.2.2.2 _ (hl _ (by simp))) (C1.2.2.2.2 _ (hl _ (by simp))) C2 hP (wW_D C3) hS k0 k1 t0 t0 (wW_get hk0 (he0 _)) (wW_get hk1 (he1 _)) ht ht rfl hsp hdp hnn h0 h1 (fun _ _ => rfl) (by rw [C5]; exact hR.1) (by rw [C6]; exact hR.2) hdg
    (fun H1 locs1 hP1 _ hS1 => kk H1 locs1 ls h (by rw [wW_set (σ' := acp σ k0 sp.toNatClampNeg k1 dp.toNatClampNeg n.toNatClampNeg) _ rfl (he1 _).symm] at hP1; exact hP1) hS1)
/-- String constants -/
def slen (i : Nat) : Int32 := Int32.ofNat (strB.getD i []).length
def schr (i : Nat) (j : Int32) : Int32 := (strB.getD i []).getD j.toNatClampNeg 0
def c16 (x : Int32) : Int32 := (x.toUInt32 % 65536).toInt32
def ckS {α : Type} (i : Nat) (x : Option α) : Option α := if i < 17 then x else none
def ckC {α : Type} (y : Int32) (x : Option α) : Option α := if y.toUInt32.toUInt16.toUInt32.toInt32 = y then x else none
theorem ckS_w {α : Type} {i : Nat} {x : Option α} {res : α} (h : ckS i x = some res) : i < 17 ∧ x = some res := by
  unfold ckS at h
  by_cases q : i < 17
  · rw [if_pos q] at h; exact ⟨q, h⟩
  · rw [if_neg q] at h; cases h
theorem ckC_w {α : Type} {y : Int32} {x : Option α} {res : α} (h : ckC y x = some res) : y.toUInt32.toUInt16.toUInt32.toInt32 = y ∧ x = some res := by
  unfold ckC at h
  by_cases q : y.toUInt32.toUInt16.toUInt32.toInt32 = y
  · rw [if_pos q] at h; exact ⟨q, h⟩
  · rw [if_neg q] at h; cases h
theorem w_i2c (C : Cx X G cc nL own fr lo rc) {x : Int32} (hdg : decode cc pc = .ok (.i2c, 1)) (hq : pc + 1 = q) (k : WP X G nL cn q σ lv (.int (c16 x) :: st)) : WP X G nL cn pc σ lv (.int x :: st) := by subst hq; exact fun H locs ls h hP hS => lv_i2c C.1.1 C.1.2.1 hdg rfl (k H locs ls h hP hS)
theorem w_ldcS (C : Cx X G cc nL own fr lo rc) {index : Nat} {tx : String} (i : Nat) (hm : (own, index, tx, i) ∈ strR) (hdg : decode cc pc = .ok (.ldc index, 2)) (hq : pc + 2 = q) (k : WP X G nL cn q σ lv (.ref (sK G i) :: st)) : WP X G nL cn pc σ lv st := by
  subst hq
  exact fun H locs ls h hP hS => va_ldcS C.1.1 C.1.2.1 C.1.2.2.2.1 (C.2.2.2.1.2.2.2.2.1 _ hm) hdg (k H locs ls h hP hS)
theorem w_ldcSW (C : Cx X G cc nL own fr lo rc) {index : Nat} {tx : String} (i : Nat) (hm : (own, index, tx, i) ∈ strR) (hdg : decode cc pc = .ok (.ldc_w index, 3)) (hq : pc + 3 = q) (k : WP X G nL cn q σ lv (.ref (sK G i) :: st)) : WP X G nL cn pc σ lv st := by
  subst hq
  intro H locs ls h hP hS T hT Y
  obtain ⟨t, a1, b1⟩ := k H locs ls h hP hS T hT Y
  have hZ := C.2.2.2.1.2.2.2.2.1 _ hm
  exact ⟨t, Y.ldcStringW C.1.1 C.1.2.2.2.1 (text := tx) (a := sK G i) hZ.1 hZ.2 (g := F0 (xm X) pc ls st) rfl (by rw [C.1.2.1]; exact hdg) t a1, b1⟩
theorem w_sval (C : Cx X G cc nL own fr lo rc) {index : Nat} (i : Nat) (hi : i < 17) (hlk : Cond.fieldLink own index "java/lang/String" "value" "[B" ∈ BG) (hdg : decode cc pc = .ok (.getfield index, 3)) (hq : pc + 3 = q) (k : WP X G nL cn q σ lv (.ref (sV G i) :: st)) : WP X G nL cn pc σ lv (.ref (sK G i) :: st) := by
  subst hq
  exact fun H locs ls h hP hS => vk_getf C.1.1 C.1.2.1 (C.2.2.2.1.2.2.2.2.2.1 i hi).2.2.1 hS C.1.2.2.2.1 (C.1.2.2.2.2 _ hlk) (fun _ h9 => h9) hdg (k H locs ls h hP hS)
theorem w_scod (C : Cx X G cc nL own fr lo rc) {index : Nat} (i : Nat) (hi : i < 17) (hlk : Cond.fieldLink own index "java/lang/String" "coder" "B" ∈ BG) (hdg : decode cc pc = .ok (.getfield index, 3)) (hq : pc + 3 = q) (k : WP X G nL cn q σ lv (.int 0 :: st)) : WP X G nL cn pc σ lv (.ref (sK G i) :: st) := by
  subst hq
  exact fun H locs ls h hP hS => vk_getf C.1.1 C.1.2.1 (C.2.2.2.1.2.2.2.2.2.1 i hi).2.1 hS C.1.2.2.2.1 (C.1.2.2.2.2 _ hlk) (fun _ h9 => h9) hdg (k H locs ls h hP hS)
theorem w_slen (C : Cx X G cc nL own fr lo rc) (i : Nat) (hi : i < 17) (hdg : decode cc pc = .ok (.arraylength, 1)) (hq : pc + 1 = q) (k : WP X G nL cn q σ lv (.int (slen i) :: st)) : WP X G nL cn pc σ lv (.ref (sV G i) :: st) := by
  subst hq
  exact fun H locs ls h hP hS => va_tlen C.1.1 C.1.2.1 (C.2.2.2.1.2.2.2.2.2.1 i hi).2.2.2 hS rfl hdg (k H locs ls h hP hS)
theorem w_sbyt (C : Cx X G cc nL own fr lo rc) {α : Type} {a : Option α} {res : α} (i : Nat) (hi : i < 17) {j : Int32} (h : ckI j (strB.getD i []).length a = some res) (hdg : decode cc pc = .ok (.baload, 1)) (hq : pc + 1 = q) (k : a = some res → WP X G nL cn q σ lv (.int (schr i j) :: st)) : WP X G nL cn pc σ lv (.int j :: .ref (sV G i) :: st) := by
  subst hq
  exact fun H locs ls hl hP hS => va_tb C.1.1 C.1.2.1 (C.2.2.2.1.2.2.2.2.2.1 i hi).2.2.2 hS (ckI_w h).1 rfl hdg (k (ckI_w h).2 H locs ls hl hP hS)
theorem w_getsq (C : Cx X G cc nL own fr lo rc) {Cn n d : String} {index : Nat} (hZ : va_Zq Cn n d (AA G) (xs X) (xs X).heap) (hlink : Cond.fieldLink own index Cn n d ∈ BG) (hdg : decode cc pc = .ok (.getstatic index, 3)) (hq : pc + 3 = q) (kk : ∀ r : Option Nat, WP X G nL cn q σ lv (va_rf r :: st)) : WP X G nL cn pc σ lv st := by
  rcases hZ with h | ⟨t, h⟩
  · exact w_gets C h hlink hdg hq (kk none)
  · exact w_gets C h hlink hdg hq (kk (some t))
theorem w_callWi (C : Cx X G cc nL own fr lo rc) {index n maxL fr' lo' : Nat} {Cn : String} {As st' : List Value} {y : MethodName} {bytes : ByteArray} {ret : Option FieldType} {r : Int32} {σ' : St} (i : Nat) (hi : i < 17) (hCn : Cn = "java/lang/String") (hM : MI X.2.1 y (wB y bytes maxL ret) fr' lo' G (.ref (sK G i) :: As) σ r σ') (hlk : Cond.methodLink own index y ∈ BG) (hy : Cond.instanceMethod y ∈ BG ∧ Cond.selects Cn y y ∈ BG ∧ Cond.initialized Cn ∈ BG ∧ Cond.code y bytes maxL ret ∈ BG) (hd : y.cls = Cn ∧ okY y n) (hR : fr' + 1 ≤ fr ∧ 8 + (maxL + 11) + lo' ≤ lo) (hrc : cn ≤ rc) (hn : As.length = n) (hst : st' = As.reverse ++ .ref (sK G i) :: st) (hcat : (st.map fun v => v.category).sum ≤ 8) (hdg : decode cc pc = .ok (.invokevirtual index, 3)) (hq : pc + 3 = q) (kk : WP X G nL cn q σ' lv (.int r :: st)) : WP X G nL cn pc σ lv st' := by
  subst hq; subst hst; subst hCn
  intro H locs ls hl hP hS
  obtain ⟨C1, C2, C3, C4, C5, C6, C7, C8⟩ := C
  have hrv : ∃ cell : Cell, H[sK G i]? = some cell ∧ cell.vm.isStatics = false ∧ (xs X).vm.findClass "java/lang/String" = some cell.cls := by
    obtain ⟨cell, h1, h2, h3, -⟩ := (C4.2.2.2.2.2.1 i hi).1.kept hS.2.1
    exact ⟨cell, h1, h2, h3⟩
  refine va_calli (va_runV (As := As) (rest := st) C1 hM (cwV n C1.2.2.2.2 (BG_in (wV_in hlk hy)) rfl rfl rfl hd ⟨by rw [C5]; exact hR.1, by rw [C6]; exact hR.2⟩) ⟨PR.blind, hrv, fun U hU hW => ⟨rfl, PR.at hP C2 C4 hS hU hW⟩⟩ rfl hn hl.1 rfl (lv_room hcat) hdg ⟨by rw [C7]; exact hrc, by rw [C8]; omega⟩) hS (fun q _ h => h) (fun q h => h) (fun r' u t H1 locs1 ht _ hw hB _ _ hS1 => ?_)
  obtain ⟨rfl, rfl⟩ := hw
  exact kk H1 locs1 ls hl (by rw [← ht]; exact hB) hS1
theorem w_aaldS (C : Cx X G cc nL own fr lo rc) {α : Type} {a : Option α} {res : α} {cA : ClassId} (k n t0 : Nat) {i : Int32} (f : Nat → Nat) (hk : k < G.2.2.1) (he : ∀ g, G.2.2.2.2 k g = .inl (cA, n, .inr (.inr (.inr (.inr (fun j => some (sK G (f j)))))))) (ht : G.2.1[t0]? = some (cA, .object "java/lang/String")) (h : ckI i n a = some res) (hdg : decode cc pc = .ok (.aaload, 1)) (hq : pc + 1 = q) (kk : a = some res → WP X G nL cn q σ lv (.ref (sK G (f i.toNatClampNeg)) :: st)) : WP X G nL cn pc σ lv (.int i :: .ref (gad G k) :: st) := by
  subst hq
  exact fun H locs ls hl hP hS => va_aldq (D := G.1) (tys := G.2.1) C.1.1 C.1.2.1 C.2.1 hP k t0 (wW_get hk (he (σ k))) ht (ckI_w h).1 hdg (kk (ckI_w h).2 H locs ls hl hP hS)
theorem w_alenS (C : Cx X G cc nL own fr lo rc) {cA : ClassId} (k n t0 : Nat) (v : Int32) (f : Nat → Nat) (hk : k < G.2.2.1) (he : ∀ g, G.2.2.2.2 k g = .inl (cA, n, .inr (.inr (.inr (.inr (fun j => some (sK G (f j)))))))) (ht : G.2.1[t0]? = some (cA, .object "java/lang/String")) (hv : Int32.ofNat n = v) (hdg : decode cc pc = .ok (.arraylength, 1)) (hq : pc + 1 = q) (kk : WP X G nL cn q σ lv (.int v :: st)) : WP X G nL cn pc σ lv (.ref (gad G k) :: st) := by
  subst hq
  exact fun H locs ls hl hP hS => va_alen (D := G.1) (tys := G.2.1) C.1.1 C.1.2.1 C.2.1 hP k t0 (wW_get hk (he (σ k))) ht hv hdg (kk H locs ls hl hP hS)
/-- ends -/
def RetN (X : XT) (G : GT) (cc : ByteArray) (nL rc : Nat) (ty : FieldType) (r : Int32) (σ' : St) : Prop := ∀ (cn pc : Nat) (lv : List (Nat × Value)), cn ≤ rc → narrow ty (.int r) = .int r → decode cc pc = .ok (.ireturn, 1) → WP X G nL cn pc σ' lv [.int r]
theorem w_rn1 {r r' : Int32} {ty : FieldType} (hr : RetN X G cc nL rc ty r σ) (hn : narrow ty (.int r') = .int r') (h : some r' = some r) (hrc : cn ≤ rc) (hdg : decode cc pc = .ok (.ireturn, 1)) : WP X G nL cn pc σ lv [.int r'] := by cases h; exact hr cn pc lv hrc hn hdg
def RetI (X : XT) (G : GT) (cc : ByteArray) (nL rc : Nat) (r : Int32) (σ' : St) : Prop := ∀ (cn pc : Nat) (lv : List (Nat × Value)), cn ≤ rc → decode cc pc = .ok (.ireturn, 1) → WP X G nL cn pc σ' lv [.int r]
def RetZ (X : XT) (G : GT) (cc : ByteArray) (nL rc : Nat) (r : Int32) (σ' : St) : Prop := ∀ (cn pc : Nat) (lv : List (Nat × Value)), cn ≤ rc → r &&& 1 = r → decode cc pc = .ok (.ireturn, 1) → WP X G nL cn pc σ' lv [.int r]
def RetV (X : XT) (G : GT) (cc : ByteArray) (nL rc : Nat) (σ' : St) : Prop := ∀ (cn pc : Nat) (lv : List (Nat × Value)), cn ≤ rc → decode cc pc = .ok (.return_, 1) → WP X G nL cn pc σ' lv []
theorem w_ri1 {r r' : Int32} (hr : RetI X G cc nL rc r σ) (h : some r' = some r) (hrc : cn ≤ rc) (hdg : decode cc pc = .ok (.ireturn, 1)) : WP X G nL cn pc σ lv [.int r'] := by cases h; exact hr cn pc lv hrc hdg
theorem w_ri2 {r r' : Int32} {σ' : St} (hr : RetI X G cc nL rc r σ') (h : some (r', σ) = some (r, σ')) (hrc : cn ≤ rc) (hdg : decode cc pc = .ok (.ireturn, 1)) : WP X G nL cn pc σ lv [.int r'] := by cases h; exact hr cn pc lv hrc hdg
theorem w_rz1 {r r' : Int32} (hr : RetZ X G cc nL rc r σ) (hz : r' &&& 1 = r') (h : some r' = some r) (hrc : cn ≤ rc) (hdg : decode cc pc = .ok (.ireturn, 1)) : WP X G nL cn pc σ lv [.int r'] := by cases h; exact hr cn pc lv hrc hz hdg
theorem w_rz2 {r r' : Int32} {σ' : St} (hr : RetZ X G cc nL rc r σ') (hz : r' &&& 1 = r') (h : some (r', σ) = some (r, σ')) (hrc : cn ≤ rc) (hdg : decode cc pc = .ok (.ireturn, 1)) : WP X G nL cn pc σ lv [.int r'] := by cases h; exact hr cn pc lv hrc hz hdg
theorem w_rv {σ' : St} (hr : RetV X G cc nL rc σ') (h : some σ = some σ') (hrc : cn ≤ rc) (hdg : decode cc pc = .ok (.return_, 1)) : WP X G nL cn pc σ lv [] := by cases h; exact hr cn pc lv hrc hdg
end ROWS
section MAKE
variable {l : Launch} {G : GT} {cc : ByteArray} {maxL fr lo : Nat} {y : MethodName} {av : List Value} {σ σ' : St} {r : Int32}
theorem mk_MI (had : gAp G) (hy : plainName y.cls = true) (hlen : (lg_sl av).length ≤ maxL) (body : ∀ X : XT, X.2.1 = l → Cx X G cc maxL y.cls fr lo 0 → RetI X G cc maxL 0 r σ' → WP X G maxL 0 0 σ (lv_args 0 av) []) : MI l y (wB y cc maxL (some .int)) fr lo G av σ r σ' := by
  refine Met.ofW (cc := cc) (maxL := maxL) (ret := some .int) hy rfl ?_
  intro p e s m args below meth c s₁ B hml hv
  obtain ⟨rfl, hP, hK, hE⟩ := hv
  have hts := fun w (hw : w ∈ BG) => atoms_spec (ws := wB y cc maxL (some .int)) B.pre w (List.mem_cons_of_mem _ hw)
  have hown : s.vm.findClass y.cls = some m.cls := findClass_of_methodNamed B.named
  have hl := lv_entry av (n := maxL) hlen
  rw [lg_entry_eq]
  generalize (lg_sl av ++ List.replicate (maxL - (lg_sl av).length) Slot.unset).toArray = ls at hl ⊢
  refine body (p, l, e, (headSpec (wB y cc maxL (some .int)) (rmK fr lo 0)).room, s, m, av.toArray, below, meth, c, _) rfl ⟨⟨B.exec, B.bytes, hml, hown, hts⟩, hK, had, hE, rfl, rfl, rfl, rfl⟩ ?_ s.heap [] ls hl hP va_S.rf
  intro cn pc lv hcn hdg H locs ls hl hP hS
  cases Nat.le_zero.mp hcn
  exact W.iret B.exec B.bytes B.returns (fun t ht hW => ⟨⟨r, σ', rfl, ⟨rfl, rfl⟩, by show va_P _ _ _ _; rw [ht]; exact hP⟩, hS.F ht⟩) hS.2.2 hdg B.notSynchronized
theorem mk_MZ (had : gAp G) (hy : plainName y.cls = true) (hlen : (lg_sl av).length ≤ maxL) (body : ∀ X : XT, X.2.1 = l → Cx X G cc maxL y.cls fr lo 0 → RetZ X G cc maxL 0 r σ' → WP X G maxL 0 0 σ (lv_args 0 av) []) : MI l y (wB y cc maxL (some .boolean)) fr lo G av σ r σ' := by
  refine Met.ofW (cc := cc) (maxL := maxL) (ret := some .boolean) hy rfl ?_
  intro p e s m args below meth c s₁ B hml hv
  obtain ⟨rfl, hP, hK, hE⟩ := hv
  have hts := fun w (hw : w ∈ BG) => atoms_spec (ws := wB y cc maxL (some .boolean)) B.pre w (List.mem_cons_of_mem _ hw)
  have hown : s.vm.findClass y.cls = some m.cls := findClass_of_methodNamed B.named
  have hl := lv_entry av (n := maxL) hlen
  rw [lg_entry_eq]
  generalize (lg_sl av ++ List.replicate (maxL - (lg_sl av).length) Slot.unset).toArray = ls at hl ⊢
  refine body (p, l, e, (headSpec (wB y cc maxL (some .boolean)) (rmK fr lo 0)).room, s, m, av.toArray, below, meth, c, _) rfl ⟨⟨B.exec, B.bytes, hml, hown, hts⟩, hK, had, hE, rfl, rfl, rfl, rfl⟩ ?_ s.heap [] ls hl hP va_S.rf
  intro cn pc lv hcn hz hdg H locs ls hl hP hS
  cases Nat.le_zero.mp hcn
  exact W.zret B.exec B.bytes B.returns (by show Value.int (r &&& 1) = .int r; rw [hz]) (fun t ht hW => ⟨⟨r, σ', rfl, ⟨rfl, rfl⟩, by show va_P _ _ _ _; rw [ht]; exact hP⟩, hS.F ht⟩) hS.2.2 hdg B.notSynchronized
theorem mk_MN {ty : FieldType} (had : gAp G) (hy : plainName y.cls = true) (hlen : (lg_sl av).length ≤ maxL) (body : ∀ X : XT, X.2.1 = l → Cx X G cc maxL y.cls fr lo 0 → RetN X G cc maxL 0 ty r σ' → WP X G maxL 0 0 σ (lv_args 0 av) []) : MI l y (wB y cc maxL (some ty)) fr lo G av σ r σ' := by
  refine Met.ofW (cc := cc) (maxL := maxL) (ret := some ty) hy rfl ?_
  intro p e s m args below meth c s₁ B hml hv
  obtain ⟨rfl, hP, hK, hE⟩ := hv
  have hts := fun w (hw : w ∈ BG) => atoms_spec (ws := wB y cc maxL (some ty)) B.pre w (List.mem_cons_of_mem _ hw)
  have hown : s.vm.findClass y.cls = some m.cls := findClass_of_methodNamed B.named
  have hl := lv_entry av (n := maxL) hlen
  rw [lg_entry_eq]
  generalize (lg_sl av ++ List.replicate (maxL - (lg_sl av).length) Slot.unset).toArray = ls at hl ⊢
  refine body (p, l, e, (headSpec (wB y cc maxL (some ty)) (rmK fr lo 0)).room, s, m, av.toArray, below, meth, c, _) rfl ⟨⟨B.exec, B.bytes, hml, hown, hts⟩, hK, had, hE, rfl, rfl, rfl, rfl⟩ ?_ s.heap [] ls hl hP va_S.rf
  intro cn pc lv hcn hz hdg H locs ls hl hP hS
  cases Nat.le_zero.mp hcn
  exact W.zret B.exec B.bytes B.returns hz (fun t ht hW => ⟨⟨r, σ', rfl, ⟨rfl, rfl⟩, by show va_P _ _ _ _; rw [ht]; exact hP⟩, hS.F ht⟩) hS.2.2 hdg B.notSynchronized
theorem mk_MV (had : gAp G) (hy : plainName y.cls = true) (hlen : (lg_sl av).length ≤ maxL) (body : ∀ X : XT, X.2.1 = l → Cx X G cc maxL y.cls fr lo 0 → RetV X G cc maxL 0 σ' → WP X G maxL 0 0 σ (lv_args 0 av) []) : MV l y (wB y cc maxL none) fr lo G av σ σ' := by
  refine Met.ofW (cc := cc) (maxL := maxL) (ret := none) hy rfl ?_
  intro p e s m args below meth c s₁ B hml hv
  obtain ⟨rfl, hP, hK, hE⟩ := hv
  have hts := fun w (hw : w ∈ BG) => atoms_spec (ws := wB y cc maxL none) B.pre w (List.mem_cons_of_mem _ hw)
  have hown : s.vm.findClass y.cls = some m.cls := findClass_of_methodNamed B.named
  have hl := lv_entry av (n := maxL) hlen
  rw [lg_entry_eq]
  generalize (lg_sl av ++ List.replicate (maxL - (lg_sl av).length) Slot.unset).toArray = ls at hl ⊢
  refine body (p, l, e, (headSpec (wB y cc maxL none) (rmK fr lo 0)).room, s, m, av.toArray, below, meth, c, _) rfl ⟨⟨B.exec, B.bytes, hml, hown, hts⟩, hK, had, hE, rfl, rfl, rfl, rfl⟩ ?_ s.heap [] ls hl hP va_S.rf
  intro cn pc lv hcn hdg H locs ls hl hP hS
  cases Nat.le_zero.mp hcn
  exact W.vret B.exec B.bytes B.returns (fun t ht hW => ⟨⟨σ', rfl, rfl, by show va_P _ _ _ _; rw [ht]; exact hP⟩, hS.F ht⟩) hS.2.2 hdg B.notSynchronized
end MAKE
