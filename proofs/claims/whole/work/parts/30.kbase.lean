/-! CONSTRUCTORS: 'this' at h0 with its fields fs, and what was made since (pre, in order) -/
def nestK : List (String × Nat × MethodName × String) := [(RX10, 26, yX0_init, RX10), (RX0, 58, yX8_init, RX10), (RX10, 45, yX9_init, RX10), (RX2, 11, yX3_init, RX10), (RX5, 11, yX3_init, RX10)]
def NK (U : State) : Prop := ∀ q ∈ nestK, va_Nw (.methodLinkNest q.1 q.2.1 q.2.2.1 q.2.2.2) U
theorem NK.go {s U : State} (hW : s.WarmedH U.vm) (h : NK s) : NK U := fun q hq => va_Nw.warmM hW (h q hq)
theorem NK.same {u U : State} (hv : u.vm = U.vm) (h : NK u) : NK U := fun q hq => va_Nw.same rfl hv (h q hq)
abbrev kE (h0 ci : Nat) (fs : List Value) : Nat × va_E := (h0, .inr (ci, fs))
def WK (X : XT) (D : va_G) (A : Nat → Prop) (nL cells slots pc h0 ci : Nat) (fs : List Value) (pre : va_W) (lv : List (Nat × Value)) (st : List Value) : Prop :=
  ∀ (H : Heap) (locs : List Loc) (ls : Array Slot), lv_has ls nL lv → va_P D vwCl (kE h0 ci fs :: pre) H → va_D A (kE h0 ci fs :: pre) → va_S A (xs X).heap H locs →
    W X.1 X.2.1 X.2.2.1 (xR X) (xs X) (xm X) (xa X) X.2.2.2.2.2.2.2.1 X.2.2.2.2.2.2.2.2.1 (xc X) H locs cells slots X.2.2.2.2.2.2.2.2.2.2 (F0 (xm X) pc ls st)
def Cy (X : XT) (D : va_G) (tys : List (ClassId × FieldType)) (A : Nat → Prop) (cc : ByteArray) (nL : Nat) (own : String) (R : Room) : Prop :=
  CallFix X.1 (xm X) (xc X) cc nL (xs X) (xa X) BG own ∧ va_K D vwCl tys (xs X) ∧ (∀ q, (xs X).heap.size ≤ q → A q) ∧ NK (xs X) ∧ xR X = R ∧ X.2.2.2.2.2.2.2.2.1.name = "<init>"
theorem jn_end {D : va_G} {A : Nat → Prop} {pre post : va_W} {n : Nat × va_E} {H H1 : Heap} (hP : va_P D vwCl (pre ++ [n]) H) (hD : va_D A (pre ++ [n])) (hk : ∀ q : Nat, q < H.size → ¬ va_A [n] H.size q → H1[q]? = H[q]?) (hF : ∀ q, va_A [n] H.size q → A q) (hP1 : va_P D vwCl post H1) (hD1 : va_D (va_A [n] H.size) post) : va_P D vwCl (pre ++ post) H1 ∧ va_D A (pre ++ post) := by
  have hin : ∀ (k : Nat) (q : Nat × va_E), pre[k]? = some q → (pre ++ [n])[k]? = some q := fun k q h => by
    rw [List.getElem?_append_left (List.getElem?_eq_some_iff.mp h).1]; exact h
  have hne : ∀ (k : Nat) (q : Nat × va_E), pre[k]? = some q → ¬ va_A [n] H.size q.1 := by
    intro k q h hA
    rcases hA with ⟨j, e, hj⟩ | hA
    · have hj0 : j = 0 := by
        rcases Nat.eq_zero_or_pos j with h0 | h0
        · exact h0
        · rw [List.getElem?_eq_none (by simp; omega)] at hj; cases hj
      subst hj0
      have hn : n = (q.1, e) := by simpa using hj
      have := hD.1 k pre.length q n (hin k q h) (by simp) (by rw [hn])
      have hk := (List.getElem?_eq_some_iff.mp h).1
      omega
    · exact absurd (hP k q (hin k q h)).lt (Nat.not_lt.mpr hA)
  have hsp : ∀ (k : Nat) (q : Nat × va_E), (pre ++ post)[k]? = some q → (pre[k]? = some q ∧ k < pre.length) ∨ (post[k - pre.length]? = some q ∧ pre.length ≤ k) := by
    intro k q h
    rcases Nat.lt_or_ge k pre.length with hl | hl
    · rw [List.getElem?_append_left hl] at h; exact Or.inl ⟨h, hl⟩
    · rw [List.getElem?_append_right hl] at h; exact Or.inr ⟨h, hl⟩
  refine ⟨fun k q h => ?_, fun i j p q hi hj he => ?_, fun k q h => ?_⟩
  · rcases hsp k q h with ⟨h1, -⟩ | ⟨h1, -⟩
    · exact (hP k q (hin k q h1)).kept (hk q.1 (hP k q (hin k q h1)).lt (hne k q h1))
    · exact hP1 _ q h1
  · rcases hsp i p hi with ⟨a1, b1⟩ | ⟨a1, b1⟩
    · rcases hsp j q hj with ⟨a2, b2⟩ | ⟨a2, b2⟩
      · exact hD.1 i j p q (hin i p a1) (hin j q a2) he
      · exact absurd (by rw [he]; exact hD1.2 _ q a2) (hne i p a1)
    · rcases hsp j q hj with ⟨a2, b2⟩ | ⟨a2, b2⟩
      · exact absurd (by rw [← he]; exact hD1.2 _ p a1) (hne j q a2)
      · have := hD1.1 _ _ p q a1 a2 he
        omega
  · rcases hsp k q h with ⟨h1, -⟩ | ⟨h1, -⟩
    · exact hD.2 k q (hin k q h1)
    · exact hF _ (hD1.2 _ q h1)
section KROWS
variable {X : XT} {D : va_G} {tys : List (ClassId × FieldType)} {A : Nat → Prop} {cc : ByteArray} {nL cells slots pc q h0 ci : Nat} {own : String} {R : Room} {fs : List Value} {pre : va_W} {lv : List (Nat × Value)} {st : List Value}
theorem k_iconst (C : Cy X D tys A cc nL own R) {n : Int} (v : Int32) (hdg : decode cc pc = .ok (.iconst n, 1)) (hq : pc + 1 = q) (hv : Int32.ofInt n = v) (k : WK X D A nL cells slots q h0 ci fs pre lv (.int v :: st)) : WK X D A nL cells slots pc h0 ci fs pre lv st := by subst hq; exact fun H locs ls h hP hD hS => lv_iconst C.1.1 C.1.2.1 hdg hv (k H locs ls h hP hD hS)
theorem k_bipush (C : Cy X D tys A cc nL own R) {n : Int} (v : Int32) (hdg : decode cc pc = .ok (.bipush n, 2)) (hq : pc + 2 = q) (hv : (Int8.ofInt n).toInt32 = v) (k : WK X D A nL cells slots q h0 ci fs pre lv (.int v :: st)) : WK X D A nL cells slots pc h0 ci fs pre lv st := by subst hq; exact fun H locs ls h hP hD hS => lv_bipush C.1.1 C.1.2.1 hdg hv (k H locs ls h hP hD hS)
theorem k_sipush (C : Cy X D tys A cc nL own R) {n : Int} (v : Int32) (hdg : decode cc pc = .ok (.sipush n, 3)) (hq : pc + 3 = q) (hv : (Int16.ofInt n).toInt32 = v) (k : WK X D A nL cells slots q h0 ci fs pre lv (.int v :: st)) : WK X D A nL cells slots pc h0 ci fs pre lv st := by subst hq; exact fun H locs ls h hP hD hS => lv_sipush C.1.1 C.1.2.1 hdg hv (k H locs ls h hP hD hS)
theorem k_aload_n (C : Cy X D tys A cc nL own R) {i : Fin 4} {x : Nat} (hdg : decode cc pc = .ok (.aload_n i, 1)) (hq : pc + 1 = q) (j : Nat) (hl : lv[j]? = some (i.val, .ref x)) (k : WK X D A nL cells slots q h0 ci fs pre lv (.ref x :: st)) : WK X D A nL cells slots pc h0 ci fs pre lv st := by subst hq; exact fun H locs ls h hP hD hS => lv_aload_n C.1.1 C.1.2.1 hdg rfl (lv_at h j hl) (k H locs ls h hP hD hS)
theorem k_dup (C : Cy X D tys A cc nL own R) {va : Value} (hva : va.category = 1) (hdg : decode cc pc = .ok (.dup, 1)) (hq : pc + 1 = q) (k : WK X D A nL cells slots q h0 ci fs pre lv (va :: va :: st)) : WK X D A nL cells slots pc h0 ci fs pre lv (va :: st) := by subst hq; exact fun H locs ls h hP hD hS => lv_dup C.1.1 C.1.2.1 hdg hva (k H locs ls h hP hD hS)
theorem k_obj (C : Cy X D tys A cc nL own R) {idx : Nat} {a : Nat} (hlk : Cond.methodLink own idx Lib.objectInit ∈ BG) (hin : Cond.instanceMethod Lib.objectInit ∈ BG) (hco : Cond.code Lib.objectInit ⟨#[0xb1]⟩ 1 none ∈ BG) (hdg : decode cc pc = .ok (.invokespecial idx, 3)) (hq : pc + 3 = q) (hR : 1 ≤ R.frames ∧ (st.map fun v => v.category).sum + 12 ≤ R.locals) (k : WK X D A nL cells slots q h0 ci fs pre lv st) : WK X D A nL cells slots pc h0 ci fs pre lv (.ref a :: st) := by
  subst hq
  obtain ⟨C1, C2, C3, C4, C5, C6⟩ := C
  exact fun H locs ls h hP hD hS => W.objInit C1.1 C1.2.1 C1.2.2.2.1 (C1.2.2.2.2 _ hlk) (C1.2.2.2.2 _ hin) (C1.2.2.2.2 _ hco) rfl (h.1.trans C1.2.2.1.symm) rfl hdg (by rw [C5]; exact hR.1) (by rw [C5]; show 2 * (F0 _ _ _ _).monitorRoom + _ + 12 ≤ _; simpa [JFrame.monitorRoom] using hR.2) (k H locs ls h hP hD hS)
theorem k_get (C : Cy X D tys A cc nL own R) {index N : Nat} {Cn : String} {T : u_T} {v : Value} (j : Nat) (hc : vwCl[ci]? = some (Cn, T, N)) (hin : ∀ w ∈ u_ws Cn T N, w ∈ BG) (hj : j < N) (hlink : Cond.fieldLink own index (T j).1 (T j).2.1 (T j).2.2.1 ∈ BG) (hv : fs[j]? = some v) (hdg : decode cc pc = .ok (.getfield index, 3)) (hq : pc + 3 = q) (kk : WK X D A nL cells slots q h0 ci fs pre lv (v :: st)) : WK X D A nL cells slots pc h0 ci fs pre lv (.ref h0 :: st) := by
  subst hq
  exact fun H locs ls h hP hD hS => va_get (D := D) (tys := tys) C.1.1 C.1.2.1 C.1.2.2.2.2 hin C.1.2.2.2.1 C.2.1 hP 0 rfl hc j hj (C.1.2.2.2.2 _ hlink) (fun _ h9 => h9) hv hdg (kk H locs ls h hP hD hS)
theorem k_put (C : Cy X D tys A cc nL own R) {index N : Nat} {Cn : String} {T : u_T} {v : Value} (j : Nat) (fs' : List Value) (hc : vwCl[ci]? = some (Cn, T, N)) (hin : ∀ w ∈ u_ws Cn T N, w ∈ BG) {ty0 : Nat → FieldType} (hty : ∀ k, k < N → parseFieldDescriptor (T k).2.2.1 = some (ty0 k)) (hnm : ∀ a, a < N → ∀ b, b < N → a ≠ b → (T a).2.1 ≠ (T b).2.1) (hj : j < N) (hlink : Cond.fieldLink own index (T j).1 (T j).2.1 (T j).2.2.1 ∈ BG) (hfin : (T j).2.2.2 = false) (hn : narrow (ty0 j) v = v) (hfit : fits (ty0 j) v = true) (hl : j < fs.length) (he : fs.set j v = fs') (hdg : decode cc pc = .ok (.putfield index, 3)) (hq : pc + 3 = q) (kk : WK X D A nL cells slots q h0 ci fs' pre lv st) : WK X D A nL cells slots pc h0 ci fs pre lv (v :: .ref h0 :: st) := by
  subst hq; subst he
  exact fun H locs ls h hP hD hS => va_put (D := D) (tys := tys) C.1.1 C.1.2.1 C.1.2.2.2.2 hin ty0 hty hnm C.1.2.2.2.1 C.2.1 hP hD hS 0 rfl hc j hj (C.1.2.2.2.2 _ hlink) (fun _ h9 => h9) hfin (hty j hj) hn hfit hl hdg (fun H1 locs1 hP1 hD1 hS1 => kk H1 locs1 ls h hP1 hD1 hS1)
theorem k_putF (C : Cy X D tys A cc nL own R) {index N : Nat} {Cn : String} {T : u_T} {v : Value} (j : Nat) (fs' : List Value) (hc : vwCl[ci]? = some (Cn, T, N)) (hin : ∀ w ∈ u_ws Cn T N, w ∈ BG) {ty0 : Nat → FieldType} (hty : ∀ k, k < N → parseFieldDescriptor (T k).2.2.1 = some (ty0 k)) (hnm : ∀ a, a < N → ∀ b, b < N → a ≠ b → (T a).2.1 ≠ (T b).2.1) (hj : j < N) (hlink : Cond.fieldLink own index (T j).1 (T j).2.1 (T j).2.2.1 ∈ BG) (hfin : (T j).2.2.2 = true) (hdecl : (T j).1 = own) (hn : narrow (ty0 j) v = v) (hfit : fits (ty0 j) v = true) (hl : j < fs.length) (he : fs.set j v = fs') (hdg : decode cc pc = .ok (.putfield index, 3)) (hq : pc + 3 = q) (kk : WK X D A nL cells slots q h0 ci fs' pre lv st) : WK X D A nL cells slots pc h0 ci fs pre lv (v :: .ref h0 :: st) := by
  subst hq; subst he
  exact fun H locs ls h hP hD hS => va_putF (D := D) (tys := tys) C.1.1 C.1.2.1 C.1.2.2.2.2 hin ty0 hty hnm C.1.2.2.2.1 C.2.1 hP hD hS 0 rfl hc j hj (C.1.2.2.2.2 _ hlink) (fun _ h9 => h9) hfin C.2.2.2.2.2 hdecl (hty j hj) hn hfit hl hdg (fun H1 locs1 hP1 hD1 hS1 => kk H1 locs1 ls h hP1 hD1 hS1)
theorem k_newa (C : Cy X D tys A cc nL own R) {cI : ClassId} (N c2 s2 : Nat) {n : Int32} (hcI : tys[0]? = some (cI, .int)) (hw : Cond.arrayClass .int ∈ BG) (hn : ¬ n < 0) (hN : n.toNatClampNeg = N) (hb : N * componentBytes .int ≤ 536870912) (hcs : cells + 1 = c2 ∧ slots + N = s2) (hR : c2 ≤ R.cells ∧ s2 ≤ R.slots) (hdg : decode cc pc = .ok (.newarray .int, 2)) (hq : pc + 2 = q) (kk : ∀ a : Nat, WK X D A nL c2 s2 q h0 ci fs (pre ++ [(a, .inl (cI, N, .inl (fun _ => 0)))]) lv (.ref a :: st)) : WK X D A nL cells slots pc h0 ci fs pre lv (.int n :: st) := by
  subst hq
  obtain ⟨rfl, rfl⟩ := hcs
  obtain ⟨C1, C2, C3, C4, C5, C6⟩ := C
  refine fun H locs ls h hP hD hS => va_newa (atype := .int) (D := D) (tys := tys) (ty := .int) (a0 := (N, .inl (fun _ => 0))) C1.1 C1.2.1 (C1.2.2.2.2 _ hw) rfl C2 hP hD hS C3 (fun cA => ?_) hn hN hb (by rw [C5]; exact hR.1) (by rw [C5]; exact hR.2) hdg (fun a cA H1 hK1 hP1 hD1 hS1 => ?_)
  · rfl
  · have e1 : (xs X).vm.findClass ("[" ++ FieldType.int.toString) = some cA := (hK1.2 tys.length (cA, .int) (by simp)).2
    have e2 : (xs X).vm.findClass ("[" ++ FieldType.int.toString) = some cI := (C2.2 0 _ hcI).2
    cases Option.some.inj (e1.symm.trans e2)
    exact kk a H1 locs ls h hP1 hD1 hS1
theorem k_new (C : Cy X D tys A cc nL own R) {index N c2 s2 cj : Nat} {Cn : String} {T : u_T} (gs : List Value) (hc : vwCl[cj]? = some (Cn, T, N)) (hin : ∀ w ∈ u_ws Cn T N, w ∈ BG) {ty0 : Nat → FieldType} (hty : ∀ k, k < N → parseFieldDescriptor (T k).2.2.1 = some (ty0 k)) (hfs : ∀ j, j < N → defaultValue (ty0 j) = vp_V gs j) (hlk : Cond.classLink own index Cn ∈ BG) (hinst : Cond.instantiable Cn N ∈ BG) (hini : Cond.initialized Cn ∈ BG) (hcs : cells + 1 = c2 ∧ slots + N = s2) (hR : c2 ≤ R.cells ∧ s2 ≤ R.slots) (hdg : decode cc pc = .ok (.new index, 3)) (hq : pc + 3 = q) (kk : ∀ a : Nat, WK X D A nL c2 s2 q h0 ci fs (pre ++ [(a, .inr (cj, gs))]) lv (.ref a :: st)) : WK X D A nL cells slots pc h0 ci fs pre lv st := by
  subst hq
  obtain ⟨rfl, rfl⟩ := hcs
  obtain ⟨C1, C2, C3, C4, C5, C6⟩ := C
  exact fun H locs ls h hP hD hS => va_new (D := D) (tys := tys) C1.1 C1.2.1 C1.2.2.2.2 hin ty0 hty C1.2.2.2.1 (C1.2.2.2.2 _ hlk) (C1.2.2.2.2 _ hinst) (C1.2.2.2.2 _ hini) C2 hP hD hS C3 hc hfs (by rw [C5]; exact hR.1) (by rw [C5]; exact hR.2) hdg (fun a H1 hP1 hD1 hS1 => kk a H1 locs ls h hP1 hD1 hS1)
/-- what a constructor of the class's own owes: from 'this' with gs to the world post u -/
def KC (l : Launch) (y : MethodName) (ws : List Cond) (R : Room) (D : va_G) (tys : List (ClassId × FieldType)) (mc ms a cj : Nat) (gs As : List Value) (post : (Nat → Nat) → va_W) : Prop := ∀ sz : Nat,
  Met l y ws R (va_Pc (.ref a :: As) (fun U => U.heap.size = sz ∧ va_P D vwCl [kE a cj gs] U.heap ∧ va_K D vwCl tys U ∧ NK U)) (va_Qv (fun _ : Nat → Nat => True) (fun u t => va_P D vwCl (post u) t.heap ∧ va_D (va_A [kE a cj gs] sz) (post u)) (va_A [kE a cj gs] sz)) mc ms (va_A [kE a cj gs] sz)
theorem KC.blind {av : List Value} {sz a cj : Nat} {gs : List Value} : FrameBlind (va_Pc av (fun U => U.heap.size = sz ∧ va_P D vwCl [kE a cj gs] U.heap ∧ va_K D vwCl tys U ∧ NK U)) := fun b U g mk h => ⟨h.1, h.2.1, h.2.2.1, va_K.moved (u := U) (U := U.calling g mk b) (Vm.Alike.refl U.vm) h.2.2.2.1, NK.same (u := U) (U := U.calling g mk b) rfl h.2.2.2.2⟩
theorem k_call (C : Cy X D tys A cc nL own R) {index n maxL mc ms a cj c2 s2 : Nat} {gs As st' : List Value} {y : MethodName} {bytes : ByteArray} {R' : Room} {post : (Nat → Nat) → va_W}
    (hM : KC X.2.1 y (wB y bytes maxL none) R' D tys mc ms a cj gs As post) (cw : (Cond.methodLink own index y ∈ BG) ∨ ∃ host, (own, index, y, host) ∈ nestK) (hy : Cond.instanceMethod y ∈ BG ∧ Cond.initialized y.cls ∈ BG ∧ Cond.code y bytes maxL none ∈ BG) (hyi : y.name = "<init>") (hd : okY y n) (hrm : R'.cells = mc ∧ R'.slots = ms) (hR : R'.frames + 1 ≤ R.frames ∧ 8 + (maxL + 11) + R'.locals ≤ R.locals) (hcs : cells + mc = c2 ∧ slots + ms = s2) (hR2 : c2 ≤ R.cells ∧ s2 ≤ R.slots) (hn : As.length = n) (hst : st' = As.reverse ++ .ref a :: st) (hcat : (st.map fun v => v.category).sum ≤ 8) (hdg : decode cc pc = .ok (.invokespecial index, 3)) (hq : pc + 3 = q)
    (kk : ∀ u : Nat → Nat, WK X D A nL c2 s2 q h0 ci fs (pre ++ post u) lv st) : WK X D A nL cells slots pc h0 ci fs (pre ++ [kE a cj gs]) lv st' := by
  subst hq; subst hst
  obtain ⟨rfl, rfl⟩ := hcs
  intro H locs ls hl hP hD hS
  obtain ⟨C1, C2, C3, C4, C5, C6⟩ := C
  rw [← List.cons_append] at hP hD
  have hP1 : va_P D vwCl [kE a cj gs] H := fun k q hk => by
    have hk0 : k = 0 := by
      rcases Nat.eq_zero_or_pos k with h0 | h0
      · exact h0
      · rw [List.getElem?_eq_none (by simp; omega)] at hk; cases hk
    subst hk0
    exact hP (kE h0 ci fs :: pre).length q (by rw [List.getElem?_append_right (Nat.le_refl _), Nat.sub_self]; exact hk)
  have hF : ∀ q, va_A [kE a cj gs] H.size q → A q := by
    intro q hq
    rcases hq with ⟨k, e, hk⟩ | hq
    · have hk0 : k = 0 := by
        rcases Nat.eq_zero_or_pos k with h0 | h0
        · exact h0
        · rw [List.getElem?_eq_none (by simp; omega)] at hk; cases hk
      subst hk0
      exact hD.2 (kE h0 ci fs :: pre).length (q, e) (by rw [List.getElem?_append_right (Nat.le_refl _), Nat.sub_self]; exact hk)
    · exact C3 q (Nat.le_trans hS.1 hq)
  have hpre : PreS (xs X) H (va_Pc (.ref a :: As) (fun U => U.heap.size = H.size ∧ va_P D vwCl [kE a cj gs] U.heap ∧ va_K D vwCl tys U ∧ NK U)) (.ref a :: As) := ⟨KC.blind, fun U hU hW => ⟨rfl, by rw [hU], by rw [hU]; exact hP1, va_K.moved hW.alike C2, NK.go hW C4⟩⟩
  have hRR : R'.frames + 1 ≤ (xR X).frames ∧ 8 + (maxL + 11) + R'.locals ≤ (xR X).locals := by rw [C5]; exact hR
  have hend : ∀ (u : Nat → Nat) (t : State) (H1 : Heap) (locs1 : List Loc), t.heap = H1 → (va_P D vwCl (post u) t.heap ∧ va_D (va_A [kE a cj gs] H.size) (post u)) → (∀ q : Nat, q < H.size → ¬ va_A [kE a cj gs] H.size q → H1[q]? = H[q]?) → va_S A (xs X).heap H1 locs1 → W X.1 X.2.1 X.2.2.1 (xR X) (xs X) (xm X) (xa X) X.2.2.2.2.2.2.2.1 X.2.2.2.2.2.2.2.2.1 (xc X) H1 locs1 (cells + mc) (slots + ms) X.2.2.2.2.2.2.2.2.2.2 (F0 (xm X) (pc + 3) ls st) := by
    intro u t H1 locs1 ht hB hk1 hS1
    obtain ⟨hB1, hB2⟩ := hB
    rw [ht] at hB1
    obtain ⟨hP2, hD2⟩ := jn_end hP hD hk1 hF hB1 hB2
    exact kk u H1 locs1 ls hl hP2 hD2 hS1
  rcases cw with hlk | ⟨host, hnw⟩
  · exact va_callv (va_runI (As := As) (rest := st) C1 (hM H.size) (cwI n C1.2.2.2.2 (BG_in (wB_in hy.2.2)) rfl hrm.1 hrm.2 (C1.2.2.2.2 _ hy.2.1) (C1.2.2.2.2 _ hlk) (C1.2.2.2.2 _ hy.1) hyi hd hRR) hpre rfl hn hl.1 rfl (lv_room hcat) hdg (by rw [C5]; exact hR2)) hS (fun q _ h => hF q h) hF (fun u t H1 locs1 ht _ _ hB _ hk1 hS1 => hend u t H1 locs1 ht hB hk1 hS1)
  · exact va_callv (va_runIN (As := As) (rest := st) (host := host) C1 (hM H.size) ⟨va_cnB n C1.2.2.2.2 (BG_in (wB_in hy.2.2)) rfl hrm.1 hrm.2 (C4 _ hnw) (C1.2.2.2.2 _ hy.2.1) hd hRR, hyi, C1.2.2.2.2 _ hy.1⟩ hpre rfl hn hl.1 rfl (lv_room hcat) hdg (by rw [C5]; exact hR2)) hS (fun q _ h => hF q h) hF (fun u t H1 locs1 ht _ _ hB _ hk1 hS1 => hend u t H1 locs1 ht hB hk1 hS1)
theorem k_iastL (C : Cy X D tys A cc nL own R) {cI : ClassId} {a N : Nat} {f : Nat → Int32} {i x : Int32} (hcI : tys[0]? = some (cI, .int)) (j : Nat) (hi : i.toNatClampNeg = j) (hin : vp_in i N) (hdg : decode cc pc = .ok (.iastore, 1)) (hq : pc + 1 = q) (kk : WK X D A nL cells slots q h0 ci fs (pre ++ [(a, .inl (cI, N, .inl (upd f j x)))]) lv st) : WK X D A nL cells slots pc h0 ci fs (pre ++ [(a, .inl (cI, N, .inl f))]) lv (.int x :: .int i :: .ref a :: st) := by
  subst hq; subst hi
  intro H locs ls h hP hD hS
  have hlen : (kE h0 ci fs :: (pre ++ [(a, .inl (cI, N, .inl f))]))[(kE h0 ci fs :: pre).length]? = some (a, .inl (cI, N, .inl f)) := by
    rw [← List.cons_append, List.getElem?_append_right (Nat.le_refl _), Nat.sub_self]; rfl
  have hset : (kE h0 ci fs :: (pre ++ [(a, .inl (cI, N, .inl f))])).set (kE h0 ci fs :: pre).length (a, .inl (cI, N, .inl (upd f i.toNatClampNeg x))) = kE h0 ci fs :: (pre ++ [(a, .inl (cI, N, .inl (upd f i.toNatClampNeg x)))]) := by
    rw [← List.cons_append, List.set_append_right _ _ (Nat.le_refl _), Nat.sub_self]; rfl
  exact va_iast (D := D) (tys := tys) C.1.1 C.1.2.1 C.2.1 hP hD hS (kE h0 ci fs :: pre).length 0 hlen hcI hin hdg (fun H1 locs1 hP1 hD1 hS1 => by rw [hset] at hP1 hD1; exact kk H1 locs1 ls h hP1 hD1 hS1)
/-- rows of Strings -/
theorem k_newS (C : Cy X D tys A cc nL own R) {cT : ClassId} {index : Nat} (N c2 s2 : Nat) {n : Int32} (hcT : tys[1]? = some (cT, .object "java/lang/String")) (hO : va_AO "java/lang/String" (xs X)) (hlk : Cond.classLink own index "java/lang/String" ∈ BG) (hn : ¬ n < 0) (hN : n.toNatClampNeg = N) (hb : N * 4 ≤ 536870912) (hcs : cells + 1 = c2 ∧ slots + N = s2) (hR : c2 ≤ R.cells ∧ s2 ≤ R.slots) (hdg : decode cc pc = .ok (.anewarray index, 3)) (hq : pc + 3 = q) (kk : ∀ a : Nat, WK X D A nL c2 s2 q h0 ci fs (pre ++ [(a, .inl (cT, N, .inr (.inr (.inr (.inr (fun _ => none))))))]) lv (.ref a :: st)) : WK X D A nL cells slots pc h0 ci fs pre lv (.int n :: st) := by
  subst hq
  obtain ⟨rfl, rfl⟩ := hcs
  obtain ⟨C1, C2, C3, C4, C5, C6⟩ := C
  refine fun H locs ls h hP hD hS => va_newq (D := D) (tys := tys) C1.1 C1.2.1 C1.2.2.2.1 (C1.2.2.2.2 _ hlk) hO C2 hP hD hS C3 hn hN hb (by rw [C5]; exact hR.1) (by rw [C5]; exact hR.2) hdg (fun a cA H1 hK1 hP1 hD1 hS1 => ?_)
  obtain ⟨_, _, _, _, _, e1⟩ := (hK1.2 tys.length (cA, .object "java/lang/String") (by simp)).2
  obtain ⟨_, _, _, _, _, e2⟩ := (C2.2 1 _ hcT).2
  cases Option.some.inj (e1.symm.trans e2)
  exact kk a H1 locs ls h hP1 hD1 hS1
theorem k_ldcS (C : Cy X D tys A cc nL own R) {sk : Nat → Nat} (hR : ∀ q ∈ strR, vk_R q.1 q.2.1 q.2.2.1 (sk q.2.2.2) (xs X)) {index : Nat} {tx : String} (i : Nat) (hm : (own, index, tx, i) ∈ strR) (hdg : decode cc pc = .ok (.ldc index, 2)) (hq : pc + 2 = q) (k : WK X D A nL cells slots q h0 ci fs pre lv (.ref (sk i) :: st)) : WK X D A nL cells slots pc h0 ci fs pre lv st := by
  subst hq
  exact fun H locs ls h hP hD hS => va_ldcS C.1.1 C.1.2.1 C.1.2.2.2.1 (hR _ hm) hdg (k H locs ls h hP hD hS)
theorem k_aastL (C : Cy X D tys A cc nL own R) {cT : ClassId} {a N : Nat} {f : Nat → Option Nat} {sk : Nat → Nat} {i : Int32} (hcT : tys[1]? = some (cT, .object "java/lang/String")) (hSt : ∀ i, i < 17 → va_O "java/lang/String" (sk i) A (xs X) (xs X).heap) (j t : Nat) (ht : t < 17) (hi : i.toNatClampNeg = j) (hin : vp_in i N) (hdg : decode cc pc = .ok (.aastore, 1)) (hq : pc + 1 = q) (kk : WK X D A nL cells slots q h0 ci fs (pre ++ [(a, .inl (cT, N, .inr (.inr (.inr (.inr (va_up f j (some (sk t))))))))]) lv st) : WK X D A nL cells slots pc h0 ci fs (pre ++ [(a, .inl (cT, N, .inr (.inr (.inr (.inr f)))))]) lv (.ref (sk t) :: .int i :: .ref a :: st) := by
  subst hq; subst hi
  intro H locs ls h hP hD hS
  have hlen : (kE h0 ci fs :: (pre ++ [(a, .inl (cT, N, .inr (.inr (.inr (.inr f)))))]))[(kE h0 ci fs :: pre).length]? = some (a, .inl (cT, N, .inr (.inr (.inr (.inr f))))) := by
    rw [← List.cons_append, List.getElem?_append_right (Nat.le_refl _), Nat.sub_self]; rfl
  have hset : ∀ g : Nat → Option Nat, (kE h0 ci fs :: (pre ++ [(a, .inl (cT, N, .inr (.inr (.inr (.inr f)))))])).set (kE h0 ci fs :: pre).length (a, .inl (cT, N, .inr (.inr (.inr (.inr g))))) = kE h0 ci fs :: (pre ++ [(a, .inl (cT, N, .inr (.inr (.inr (.inr g)))))]) := by
    intro g
    rw [← List.cons_append, List.set_append_right _ _ (Nat.le_refl _), Nat.sub_self]; rfl
  have hany : va_Any "java/lang/String" (xs X) H (sk t) := by
    obtain ⟨cell, h1, h2, h3, -⟩ := (hSt t ht).kept hS.2.1
    obtain ⟨kC, hkC, -⟩ := Vm.findClass_spec h3
    exact ⟨cell, h1, h2, ⟨kC, hkC⟩, fun comp hc => by cases Option.some.inj (hc.symm.trans h3); exact va_asg _ _⟩
  exact va_astqM (D := D) (tys := tys) C.1.1 C.1.2.1 C.2.1 hP hD hS (kE h0 ci fs :: pre).length 1 hlen hcT hany hin hdg (fun H1 locs1 hP1 hD1 hS1 => by rw [hset] at hP1 hD1; exact kk H1 locs1 ls h hP1 hD1 hS1)
/-- the end -/
def RetK (X : XT) (D : va_G) (A : Nat → Prop) (cc : ByteArray) (nL mc ms h0 ci : Nat) (post : (Nat → Nat) → va_W) : Prop := ∀ (pc : Nat) (lv : List (Nat × Value)) (fs : List Value) (pre : va_W) (u : Nat → Nat), decode cc pc = .ok (.return_, 1) → kE h0 ci fs :: pre = post u → WK X D A nL mc ms pc h0 ci fs pre lv []
theorem mk_KC {l : Launch} {y : MethodName} {maxL fr lo mc ms a : Nat} {As : List Value} {post : (Nat → Nat) → va_W} (hy : plainName y.cls = true) (hyi : y.name = "<init>") (hlen : (lg_sl (.ref a :: As)).length ≤ maxL) (body : ∀ (X : XT) (A : Nat → Prop), X.2.1 = l → Cy X D tys A cc maxL y.cls { frames := fr, cells := mc, slots := ms, locals := lo } → RetK X D A cc maxL mc ms a ci post → WK X D A maxL 0 0 0 a ci fs [] (lv_args 0 (.ref a :: As)) []) : KC l y (wB y cc maxL none) { frames := fr, cells := mc, slots := ms, locals := lo } D tys mc ms a ci fs As post := by
  intro sz
  refine Met.ofW (cc := cc) (maxL := maxL) (ret := none) hy rfl ?_
  intro p e s m args below meth c s₁ B hml hv
  obtain ⟨rfl, hsz, hP, hK, hN⟩ := hv
  subst hsz
  have hts := fun w (hw : w ∈ BG) => atoms_spec (ws := wB y cc maxL none) B.pre w (List.mem_cons_of_mem _ hw)
  have hown : s.vm.findClass y.cls = some m.cls := findClass_of_methodNamed B.named
  have hin : meth.name = "<init>" := (name_of_methodNamed B.named B.method).1.trans hyi
  have hl := lv_entry (.ref a :: As) (n := maxL) hlen
  rw [lg_entry_eq]
  generalize (lg_sl (.ref a :: As) ++ List.replicate (maxL - (lg_sl (.ref a :: As)).length) Slot.unset).toArray = ls at hl ⊢
  have hD0 : va_D (fun _ => True) [kE a ci fs] := ⟨fun i j p q hi hj _ => by
    have h1 : i < 1 := by simpa using (List.getElem?_eq_some_iff.mp hi).1
    have h2 : j < 1 := by simpa using (List.getElem?_eq_some_iff.mp hj).1
    omega, fun _ _ _ => trivial⟩
  have hD := hD0.self (sz := s.heap.size)
  generalize hAe : va_A [kE a ci fs] s.heap.size = A at hD ⊢
  have hA : ∀ q : Nat, s.heap.size ≤ q → A q := fun q h => by rw [← hAe]; exact Or.inr h
  refine body (p, l, e, (headSpec (wB y cc maxL none) { frames := fr, cells := mc, slots := ms, locals := lo }).room, s, m, (.ref a :: As).toArray, below, meth, c, _) A rfl ⟨⟨B.exec, B.bytes, hml, hown, hts⟩, hK, hA, hN, rfl, hin⟩ ?_ s.heap [] ls hl hP hD va_S.rf
  intro pc lv fs9 pre u hdg he H locs ls hl hP hD hS
  rw [he] at hP hD
  exact W.vret B.exec B.bytes B.returns (fun t ht hW => ⟨⟨u, rfl, trivial, by rw [ht]; exact hP, hD⟩, hS.F ht⟩) hS.2.2 hdg B.notSynchronized
end KROWS
