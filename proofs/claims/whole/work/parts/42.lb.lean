/-! THE LAW ITSELF: three groups of cells: the class's, the reference's, the row out -/
abbrev ZT : Type := va_G × ClassId × ClassId × ClassId × (Nat → Nat) × (Nat → Nat) × Nat
abbrev zC (Z : ZT) : GT := gC Z.1 Z.2.1 Z.2.2.2.2.1
abbrev zM (Z : ZT) : GT := gM Z.1 Z.2.1 Z.2.2.1 Z.2.2.2.2.2.1
abbrev zc (Z : ZT) (k : Nat) : Nat := Z.2.2.2.2.1 k
abbrev zm (Z : ZT) (k : Nat) : Nat := Z.2.2.2.2.2.1 k
abbrev zo (Z : ZT) : Nat := Z.2.2.2.2.2.2
abbrev zL (Z : ZT) : ClassId := Z.2.2.2.1
abbrev zO (Z : ZT) (f : Nat → Int64) : va_W := oE (zo Z) (zL Z) f
def LA (s : State) : Nat → Prop := fun q => s.heap.size ≤ q
def LSt (Z : ZT) (s : State) : Prop :=
  va_K Z.1 vwCl [(Z.2.1, .int), (Z.2.2.1, .object "java/lang/String"), (zL Z, .long)] s ∧ (gAp (zC Z) ∧ gAp (zM Z)) ∧
  ((∀ k, k < 88 → s.heap.size ≤ zc Z k) ∧ (∀ k, k < 42 → s.heap.size ≤ zm Z k) ∧ s.heap.size ≤ zo Z) ∧
  ((∀ i, i < 88 → ∀ j, j < 42 → zc Z i ≠ zm Z j) ∧ (∀ i, i < 88 → zc Z i ≠ zo Z) ∧ (∀ j, j < 42 → zm Z j ≠ zo Z)) ∧
  (EVA (zC Z) (LA s) s s.heap ∧ EVA (zM Z) (LA s) s s.heap) ∧ XE s
def WL (X : XT) (Z : ZT) (cells slots pc : Nat) (σ τ : St) (f : Nat → Int64) (lv : List (Nat × Value)) (st : List Value) : Prop :=
  ∀ (H : Heap) (locs : List Loc) (ls : Array Slot), lv_has ls 7 lv → va_P Z.1 vwCl (wW (zC Z) σ) H → va_P Z.1 vwCl (wW (zM Z) τ) H → va_P Z.1 vwCl (zO Z f) H → va_S (LA (xs X)) (xs X).heap H locs →
    W X.1 X.2.1 X.2.2.1 (xR X) (xs X) (xm X) (xa X) X.2.2.2.2.2.2.2.1 X.2.2.2.2.2.2.2.2.1 (xc X) H locs cells slots X.2.2.2.2.2.2.2.2.2.2 (F0 (xm X) pc ls st)
def CL (X : XT) (Z : ZT) (b L : Nat) (xv : Nat → Int32) : Prop :=
  CallFix X.1 (xm X) (xc X) cL_law 7 (xs X) (xa X) BG RL ∧ LSt Z (xs X) ∧ xR X = room_1 ∧ va_X b L xv (xs X) (xs X).heap ∧ b < (xs X).heap.size
theorem zM_off {Z : ZT} {s : State} (h : LSt Z s) : ∀ k, k < 42 → ¬ AA (zC Z) (zm Z k) := fun k hk ⟨i, hi, e⟩ => h.2.2.2.1.1 i hi k hk e.symm
theorem zC_off {Z : ZT} {s : State} (h : LSt Z s) : ∀ k, k < 88 → ¬ AA (zM Z) (zc Z k) := fun k hk ⟨i, hi, e⟩ => h.2.2.2.1.1 k hk i hi e
theorem zO_offC {Z : ZT} {s : State} (h : LSt Z s) : ¬ AA (zC Z) (zo Z) := fun ⟨i, hi, e⟩ => h.2.2.2.1.2.1 i hi e.symm
theorem zO_offM {Z : ZT} {s : State} (h : LSt Z s) : ¬ AA (zM Z) (zo Z) := fun ⟨i, hi, e⟩ => h.2.2.2.1.2.2 i hi e.symm
theorem zC_LA {Z : ZT} {s : State} (h : LSt Z s) : ∀ q, AA (zC Z) q → LA s q := fun q ⟨i, hi, e⟩ => by rw [e]; exact h.2.2.1.1 i hi
theorem zM_LA {Z : ZT} {s : State} (h : LSt Z s) : ∀ q, AA (zM Z) q → LA s q := fun q ⟨i, hi, e⟩ => by rw [e]; exact h.2.2.1.2.1 i hi
section LROWS
variable {X : XT} {Z : ZT} {b L : Nat} {xv : Nat → Int32} {cells slots pc q : Nat} {σ τ : St} {f : Nat → Int64} {lv : List (Nat × Value)} {st : List Value}
theorem l_aload_n (C : CL X Z b L xv) {i : Fin 4} {x : Nat} (j : Nat) (hl : lv[j]? = some (i.val, .ref x)) (hdg : decode cL_law pc = .ok (.aload_n i, 1)) (hq : pc + 1 = q) (k : WL X Z cells slots q σ τ f lv (.ref x :: st)) : WL X Z cells slots pc σ τ f lv st := by subst hq; exact fun H locs ls h hC hM hO hS => lv_aload_n C.1.1 C.1.2.1 hdg rfl (lv_at h j hl) (k H locs ls h hC hM hO hS)
theorem l_iload (C : CL X Z b L xv) {i : Nat} {x : Int32} (j : Nat) (hl : lv[j]? = some (i, .int x)) (hdg : decode cL_law pc = .ok (.iload i, 2)) (hq : pc + 2 = q) (k : WL X Z cells slots q σ τ f lv (.int x :: st)) : WL X Z cells slots pc σ τ f lv st := by subst hq; exact fun H locs ls h hC hM hO hS => lv_iload C.1.1 C.1.2.1 hdg (lv_at h j hl) (k H locs ls h hC hM hO hS)
theorem l_iconst (C : CL X Z b L xv) {n : Int} (v : Int32) (hv : Int32.ofInt n = v) (hdg : decode cL_law pc = .ok (.iconst n, 1)) (hq : pc + 1 = q) (k : WL X Z cells slots q σ τ f lv (.int v :: st)) : WL X Z cells slots pc σ τ f lv st := by subst hq; exact fun H locs ls h hC hM hO hS => lv_iconst C.1.1 C.1.2.1 hdg hv (k H locs ls h hC hM hO hS)
theorem l_bipush (C : CL X Z b L xv) {n : Int} (v : Int32) (hv : (Int8.ofInt n).toInt32 = v) (hdg : decode cL_law pc = .ok (.bipush n, 2)) (hq : pc + 2 = q) (k : WL X Z cells slots q σ τ f lv (.int v :: st)) : WL X Z cells slots pc σ τ f lv st := by subst hq; exact fun H locs ls h hC hM hO hS => lv_bipush C.1.1 C.1.2.1 hdg hv (k H locs ls h hC hM hO hS)
theorem l_iadd (C : CL X Z b L xv) {x y : Int32} (hdg : decode cL_law pc = .ok (.iadd, 1)) (hq : pc + 1 = q) (k : WL X Z cells slots q σ τ f lv (.int (x + y) :: st)) : WL X Z cells slots pc σ τ f lv (.int y :: .int x :: st) := by subst hq; exact fun H locs ls h hC hM hO hS => lv_iadd C.1.1 C.1.2.1 hdg (k H locs ls h hC hM hO hS)
theorem l_isub (C : CL X Z b L xv) {x y : Int32} (hdg : decode cL_law pc = .ok (.isub, 1)) (hq : pc + 1 = q) (k : WL X Z cells slots q σ τ f lv (.int (x - y) :: st)) : WL X Z cells slots pc σ τ f lv (.int y :: .int x :: st) := by subst hq; exact fun H locs ls h hC hM hO hS => lv_isub C.1.1 C.1.2.1 hdg (k H locs ls h hC hM hO hS)
theorem l_iand (C : CL X Z b L xv) {x y : Int32} (hdg : decode cL_law pc = .ok (.iand, 1)) (hq : pc + 1 = q) (k : WL X Z cells slots q σ τ f lv (.int (x &&& y) :: st)) : WL X Z cells slots pc σ τ f lv (.int y :: .int x :: st) := by subst hq; exact fun H locs ls h hC hM hO hS => lv_iand C.1.1 C.1.2.1 hdg (k H locs ls h hC hM hO hS)
theorem l_i2l (C : CL X Z b L xv) {x : Int32} (hdg : decode cL_law pc = .ok (.i2l, 1)) (hq : pc + 1 = q) (k : WL X Z cells slots q σ τ f lv (.long x.toInt64 :: st)) : WL X Z cells slots pc σ τ f lv (.int x :: st) := by subst hq; exact fun H locs ls h hC hM hO hS => lv_i2l C.1.1 C.1.2.1 hdg rfl (k H locs ls h hC hM hO hS)
theorem l_lcmp (C : CL X Z b L xv) {x y : Int64} (hdg : decode cL_law pc = .ok (.lcmp, 1)) (hq : pc + 1 = q) (k : WL X Z cells slots q σ τ f lv (.int (lg_cmp x y) :: st)) : WL X Z cells slots pc σ τ f lv (.long y :: .long x :: st) := by subst hq; exact fun H locs ls h hC hM hO hS => W.lcmp C.1.1 C.1.2.1 hdg (k H locs ls h hC hM hO hS)
theorem l_lconst (C : CL X Z b L xv) {n : Fin 2} (v : Int64) (hv : Int64.ofNat (n : Nat) = v) (hdg : decode cL_law pc = .ok (.lconst n, 1)) (hq : pc + 1 = q) (k : WL X Z cells slots q σ τ f lv (.long v :: st)) : WL X Z cells slots pc σ τ f lv st := by subst hq; exact fun H locs ls h hC hM hO hS => lv_lconst C.1.1 C.1.2.1 hdg hv (k H locs ls h hC hM hO hS)
theorem l_istore (C : CL X Z b L xv) {i : Nat} {x : Int32} (lv' : List (Nat × Value)) (hn : i < 7) (hl : (i, Value.int x) :: lv.filter (fun q => !(q.1 == i) && !(q.1 + 1 == i && q.2.category == 2)) = lv') (hdg : decode cL_law pc = .ok (.istore i, 2)) (hq : pc + 2 = q) (k : WL X Z cells slots q σ τ f lv' st) : WL X Z cells slots pc σ τ f lv (.int x :: st) := by subst hq; exact fun H locs ls h hC hM hO hS => lv_istore C.1.1 C.1.2.1 hdg h hn hl (fun ls' h' => k H locs ls' h' hC hM hO hS)
theorem l_sub (ks : List Nat) {lv' : List (Nat × Value)} (hl : lv_pick lv ks = lv') (k : WL X Z cells slots pc σ τ f lv' st) : WL X Z cells slots pc σ τ f lv st := fun H locs ls h hC hM hO hS => k H locs ls (lv_sub h ks hl) hC hM hO hS
theorem l_wid {k n : Nat} (h1 : cells ≤ k) (h2 : slots ≤ n) (kk : WL X Z k n pc σ τ f lv st) : WL X Z cells slots pc σ τ f lv st := fun H locs ls h hC hM hO hS => W.widen h1 h2 (kk H locs ls h hC hM hO hS)
theorem l_goto (C : CL X Z b L xv) {off : Int} (hdg : decode cL_law pc = .ok (.goto off, 3)) (hq : (pc : Int) + off = (q : Int)) (k : WL X Z cells slots q σ τ f lv st) : WL X Z cells slots pc σ τ f lv st := fun H locs ls h hC hM hO hS => lv_goto C.1.1 C.1.2.1 hdg hq (k H locs ls h hC hM hO hS)
theorem l_eqT (C : CL X Z b L xv) {x y : Int32} {off : Int} (e : x = y) (hdg : decode cL_law pc = .ok (.if_icmp .eq off, 3)) (hq : (pc : Int) + off = (q : Int)) (k : WL X Z cells slots q σ τ f lv st) : WL X Z cells slots pc σ τ f lv (.int y :: .int x :: st) := fun H locs ls h hC hM hO hS => lv_icmp_eq C.1.1 C.1.2.1 hdg hq (fun _ => k H locs ls h hC hM hO hS) (fun n => absurd e n)
theorem l_zeroT (C : CL X Z b L xv) {x : Int32} {off : Int} (e : x = 0) (hdg : decode cL_law pc = .ok (.ifCond .eq off, 3)) (hq : (pc : Int) + off = (q : Int)) (k : WL X Z cells slots q σ τ f lv st) : WL X Z cells slots pc σ τ f lv (.int x :: st) := fun H locs ls h hC hM hO hS => lv_if_eq C.1.1 C.1.2.1 hdg hq (fun _ => k H locs ls h hC hM hO hS) (fun n => absurd e n)
theorem l_ifeq (C : CL X Z b L xv) {x : Int32} {off : Int} {qt : Nat} (hdg : decode cL_law pc = .ok (.ifCond .eq off, 3)) (ht : (pc : Int) + off = (qt : Int)) (hq : pc + 3 = q) (kt : x = 0 → WL X Z cells slots qt σ τ f lv st) (kf : ¬ x = 0 → WL X Z cells slots q σ τ f lv st) : WL X Z cells slots pc σ τ f lv (.int x :: st) := by subst hq; exact fun H locs ls h hC hM hO hS => lv_if_eq C.1.1 C.1.2.1 hdg ht (fun e => kt e H locs ls h hC hM hO hS) (fun e => kf e H locs ls h hC hM hO hS)
theorem l_ifne (C : CL X Z b L xv) {x : Int32} {off : Int} {qt : Nat} (hdg : decode cL_law pc = .ok (.ifCond .ne off, 3)) (ht : (pc : Int) + off = (qt : Int)) (hq : pc + 3 = q) (kt : ¬ x = 0 → WL X Z cells slots qt σ τ f lv st) (kf : x = 0 → WL X Z cells slots q σ τ f lv st) : WL X Z cells slots pc σ τ f lv (.int x :: st) := by subst hq; exact fun H locs ls h hC hM hO hS => lv_if_ne C.1.1 C.1.2.1 hdg ht (fun e => kt e H locs ls h hC hM hO hS) (fun e => kf e H locs ls h hC hM hO hS)
theorem l_gt (C : CL X Z b L xv) {x y : Int32} {off : Int} {qt : Nat} (hdg : decode cL_law pc = .ok (.if_icmp .gt off, 3)) (ht : (pc : Int) + off = (qt : Int)) (hq : pc + 3 = q) (kt : y < x → WL X Z cells slots qt σ τ f lv st) (kf : ¬ y < x → WL X Z cells slots q σ τ f lv st) : WL X Z cells slots pc σ τ f lv (.int y :: .int x :: st) := by subst hq; exact fun H locs ls h hC hM hO hS => lv_icmp_gt C.1.1 C.1.2.1 hdg ht (fun e => kt e H locs ls h hC hM hO hS) (fun e => kf e H locs ls h hC hM hO hS)
theorem l_tsIn (C : CL X Z b L xv) {x : Int32} (v : Int32) {dflt l9 h9 : Int} {offs : Array Int} {len : Nat} {off : Int} (e : x = v) (hdg : decode cL_law pc = .ok (.tableswitch dflt l9 h9 offs, len)) (h1 : ¬ v.toInt < l9) (h2 : ¬ h9 < v.toInt) (ho : offs[(v.toInt - l9).toNat]? = some off) (hq : (pc : Int) + off = (q : Int)) (kk : WL X Z cells slots q σ τ f lv st) : WL X Z cells slots pc σ τ f lv (.int x :: st) := by
  subst e
  exact fun H locs ls h hC hM hO hS => lv_tableIn C.1.1 C.1.2.1 hdg h1 h2 ho hq (kk H locs ls h hC hM hO hS)
theorem l_iinc (C : CL X Z b L xv) {i j : Nat} {n : Int} {x : Int32} (v : Int32) (lv' : List (Nat × Value)) (hj : lv[j]? = some (i, .int x)) (hv : x + Int32.ofInt n = v) (hn : i < 7) (hl : (i, Value.int v) :: lv.filter (fun q => !(q.1 == i) && !(q.1 + 1 == i && q.2.category == 2)) = lv') (hdg : decode cL_law pc = .ok (.iinc i n, 3)) (hq : pc + 3 = q) (k : WL X Z cells slots q σ τ f lv' st) : WL X Z cells slots pc σ τ f lv st := by subst hq; exact fun H locs ls h hC hM hO hS => lv_iinc C.1.1 C.1.2.1 hdg h hj hv hn hl (fun ls' h' => k H locs ls' h' hC hM hO hS)
theorem l_slen (C : CL X Z b L xv) (hdg : decode cL_law pc = .ok (.arraylength, 1)) (hq : pc + 1 = q) (k : WL X Z cells slots q σ τ f lv (.int (Int32.ofNat L) :: st)) : WL X Z cells slots pc σ τ f lv (.ref b :: st) := by
  subst hq
  exact fun H locs ls h hC hM hO hS => va_slen C.1.1 C.1.2.1 C.2.2.2.1 C.2.2.2.2 (Nat.not_le.mpr C.2.2.2.2) hS hdg (k H locs ls h hC hM hO hS)
theorem l_sld (C : CL X Z b L xv) {i : Int32} (j : Nat) (hi : i = nI j) (hj : j < L ∧ L < 2 ^ 31) (hdg : decode cL_law pc = .ok (.iaload, 1)) (hq : pc + 1 = q) (k : WL X Z cells slots q σ τ f lv (.int (xv j) :: st)) : WL X Z cells slots pc σ τ f lv (.int i :: .ref b :: st) := by
  subst hq; subst hi
  have hin : vp_in (nI j) L := vp_in_nI hj.1 hj.2
  have e : (nI j).toNatClampNeg = j := nI_clamp (Nat.lt_trans hj.1 hj.2)
  intro H locs ls h hC hM hO hS
  refine va_sld C.1.1 C.1.2.1 C.2.2.2.1 C.2.2.2.2 (Nat.not_le.mpr C.2.2.2.2) hS hin hdg ?_
  rw [e]
  exact k H locs ls h hC hM hO hS
theorem l_laload (C : CL X Z b L xv) (hdg : decode cL_law pc = .ok (.laload, 1)) (hq : pc + 1 = q) (k : WL X Z cells slots q σ τ f lv (.long (f 0) :: st)) : WL X Z cells slots pc σ τ f lv (.int 0 :: .ref (zo Z) :: st) := by
  subst hq
  exact fun H locs ls h hC hM hO hS => va_lald (D := Z.1) (tys := [(Z.2.1, .int), (Z.2.2.1, .object "java/lang/String"), (zL Z, .long)]) C.1.1 C.1.2.1 C.2.1.1 hO 0 2 rfl rfl (by show ¬ (_ ∨ _); decide) hdg (k H locs ls h hC hM hO hS)
theorem LA.ev {G : GT} {s U : State} {H : Heap} {locs : List Loc} (hW : s.WarmedH U.vm) (hS : va_S (LA s) s.heap H locs) (hE : EVA G (LA s) s s.heap) (hA : ∀ q, AA G q → LA s q) : EV G U H := (EVA.go hW hS hE).narrow hA
theorem l_callCi (C : CL X Z b L xv) {n index maxL fr' lo' : Nat} {As st' : List Value} {y : MethodName} {bytes : ByteArray} {ret : Option FieldType} {r : Int32} {σ' : St} (hMm : MI X.2.1 y (wB y bytes maxL ret) fr' lo' (zC Z) (.ref (zc Z 0) :: As) σ r σ') (hlk : Cond.methodLink RL index y ∈ BG) (hy : Cond.instanceMethod y ∈ BG ∧ Cond.selects RX10 y y ∈ BG ∧ Cond.initialized RX10 ∈ BG ∧ Cond.code y bytes maxL ret ∈ BG) (hd : y.cls = RX10 ∧ okY y n) (hR : fr' + 1 ≤ 2048 ∧ 8 + (maxL + 11) + lo' ≤ 84000) (hcs : cells ≤ 601024 ∧ slots ≤ 7293033) (hn : As.length = n) (hst : st' = As.reverse ++ .ref (zc Z 0) :: st) (hcat : (st.map fun v => v.category).sum ≤ 8) (hdg : decode cL_law pc = .ok (.invokevirtual index, 3)) (hq : pc + 3 = q) (kk : WL X Z cells slots q σ' τ f lv (.int r :: st)) : WL X Z cells slots pc σ τ f lv st' := by
  subst hq; subst hst
  intro H locs ls hl hC hM hO hS
  obtain ⟨C1, C2, C3, C4, C5⟩ := C
  have hK1 := C2.1.sub (tys' := (zC Z).2.1) [0] rfl
  refine va_calli (va_runV (As := As) (rest := st) C1 hMm (cwV n C1.2.2.2.2 (BG_in (wV_in hlk hy)) rfl rfl rfl hd ⟨by rw [C3]; exact hR.1, by rw [C3]; exact hR.2⟩) ⟨PR.blind, va_recv hK1 hC (ci := 10) rfl (wW_get (k := 0) (Nat.le_of_ble_eq_true rfl) rfl), fun U hU hW => ⟨rfl, by rw [hU]; exact hC, va_K.moved hW.alike hK1, by rw [hU]; exact LA.ev hW hS C2.2.2.2.2.1.1 (zC_LA C2)⟩⟩ rfl hn hl.1 rfl (lv_room hcat) hdg ⟨by rw [C3]; exact hcs.1, by rw [C3]; exact hcs.2⟩) hS (fun q _ h => zC_LA C2 q h) (fun q h => zC_LA C2 q h) (fun r' u t H1 locs1 ht _ hw hB _ hk1 hS1 => ?_)
  obtain ⟨rfl, rfl⟩ := hw
  exact kk H1 locs1 ls hl (by rw [← ht]; exact hB) (P_off hM hk1 (wW_off (zM_off C2))) (P_off hO hk1 (oE_off (zO_offC C2))) hS1
theorem l_callCv (C : CL X Z b L xv) {n index maxL fr' lo' : Nat} {As st' : List Value} {y : MethodName} {bytes : ByteArray} {ret : Option FieldType} {σ' : St} (hMm : MV X.2.1 y (wB y bytes maxL ret) fr' lo' (zC Z) (.ref (zc Z 0) :: As) σ σ') (hlk : Cond.methodLink RL index y ∈ BG) (hy : Cond.instanceMethod y ∈ BG ∧ Cond.selects RX10 y y ∈ BG ∧ Cond.initialized RX10 ∈ BG ∧ Cond.code y bytes maxL ret ∈ BG) (hd : y.cls = RX10 ∧ okY y n) (hR : fr' + 1 ≤ 2048 ∧ 8 + (maxL + 11) + lo' ≤ 84000) (hcs : cells ≤ 601024 ∧ slots ≤ 7293033) (hn : As.length = n) (hst : st' = As.reverse ++ .ref (zc Z 0) :: st) (hcat : (st.map fun v => v.category).sum ≤ 8) (hdg : decode cL_law pc = .ok (.invokevirtual index, 3)) (hq : pc + 3 = q) (kk : WL X Z cells slots q σ' τ f lv st) : WL X Z cells slots pc σ τ f lv st' := by
  subst hq; subst hst
  intro H locs ls hl hC hM hO hS
  obtain ⟨C1, C2, C3, C4, C5⟩ := C
  have hK1 := C2.1.sub (tys' := (zC Z).2.1) [0] rfl
  refine va_callv (va_runV (As := As) (rest := st) C1 hMm (cwV n C1.2.2.2.2 (BG_in (wV_in hlk hy)) rfl rfl rfl hd ⟨by rw [C3]; exact hR.1, by rw [C3]; exact hR.2⟩) ⟨PR.blind, va_recv hK1 hC (ci := 10) rfl (wW_get (k := 0) (Nat.le_of_ble_eq_true rfl) rfl), fun U hU hW => ⟨rfl, by rw [hU]; exact hC, va_K.moved hW.alike hK1, by rw [hU]; exact LA.ev hW hS C2.2.2.2.2.1.1 (zC_LA C2)⟩⟩ rfl hn hl.1 rfl (lv_room hcat) hdg ⟨by rw [C3]; exact hcs.1, by rw [C3]; exact hcs.2⟩) hS (fun q _ h => zC_LA C2 q h) (fun q h => zC_LA C2 q h) (fun u t H1 locs1 ht _ hw hB _ hk1 hS1 => ?_)
  subst hw
  exact kk H1 locs1 ls hl (by rw [← ht]; exact hB) (P_off hM hk1 (wW_off (zM_off C2))) (P_off hO hk1 (oE_off (zO_offC C2))) hS1
theorem l_callMi (C : CL X Z b L xv) {n index maxL fr' lo' : Nat} {As st' : List Value} {y : MethodName} {bytes : ByteArray} {ret : Option FieldType} {r : Int32} {τ' : St} (hMm : MI X.2.1 y (wB y bytes maxL ret) fr' lo' (zM Z) (.ref (zm Z 0) :: As) τ r τ') (hlk : Cond.methodLink RL index y ∈ BG) (hy : Cond.instanceMethod y ∈ BG ∧ Cond.selects RX11 y y ∈ BG ∧ Cond.initialized RX11 ∈ BG ∧ Cond.code y bytes maxL ret ∈ BG) (hd : y.cls = RX11 ∧ okY y n) (hR : fr' + 1 ≤ 2048 ∧ 8 + (maxL + 11) + lo' ≤ 84000) (hcs : cells ≤ 601024 ∧ slots ≤ 7293033) (hn : As.length = n) (hst : st' = As.reverse ++ .ref (zm Z 0) :: st) (hcat : (st.map fun v => v.category).sum ≤ 8) (hdg : decode cL_law pc = .ok (.invokevirtual index, 3)) (hq : pc + 3 = q) (kk : WL X Z cells slots q σ τ' f lv (.int r :: st)) : WL X Z cells slots pc σ τ f lv st' := by
  subst hq; subst hst
  intro H locs ls hl hC hM hO hS
  obtain ⟨C1, C2, C3, C4, C5⟩ := C
  have hK1 := C2.1.sub (tys' := (zM Z).2.1) [0, 1] rfl
  refine va_calli (va_runV (As := As) (rest := st) C1 hMm (cwV n C1.2.2.2.2 (BG_in (wV_in hlk hy)) rfl rfl rfl hd ⟨by rw [C3]; exact hR.1, by rw [C3]; exact hR.2⟩) ⟨PR.blind, va_recv hK1 hM (ci := 11) rfl (wW_get (k := 0) (Nat.le_of_ble_eq_true rfl) rfl), fun U hU hW => ⟨rfl, by rw [hU]; exact hM, va_K.moved hW.alike hK1, by rw [hU]; exact LA.ev hW hS C2.2.2.2.2.1.2 (zM_LA C2)⟩⟩ rfl hn hl.1 rfl (lv_room hcat) hdg ⟨by rw [C3]; exact hcs.1, by rw [C3]; exact hcs.2⟩) hS (fun q _ h => zM_LA C2 q h) (fun q h => zM_LA C2 q h) (fun r' u t H1 locs1 ht _ hw hB _ hk1 hS1 => ?_)
  obtain ⟨rfl, rfl⟩ := hw
  exact kk H1 locs1 ls hl (P_off hC hk1 (wW_off (zC_off C2))) (by rw [← ht]; exact hB) (P_off hO hk1 (oE_off (zO_offM C2))) hS1
theorem l_callMv (C : CL X Z b L xv) {n index maxL fr' lo' : Nat} {As st' : List Value} {y : MethodName} {bytes : ByteArray} {ret : Option FieldType} {τ' : St} (hMm : MV X.2.1 y (wB y bytes maxL ret) fr' lo' (zM Z) (.ref (zm Z 0) :: As) τ τ') (hlk : Cond.methodLink RL index y ∈ BG) (hy : Cond.instanceMethod y ∈ BG ∧ Cond.selects RX11 y y ∈ BG ∧ Cond.initialized RX11 ∈ BG ∧ Cond.code y bytes maxL ret ∈ BG) (hd : y.cls = RX11 ∧ okY y n) (hR : fr' + 1 ≤ 2048 ∧ 8 + (maxL + 11) + lo' ≤ 84000) (hcs : cells ≤ 601024 ∧ slots ≤ 7293033) (hn : As.length = n) (hst : st' = As.reverse ++ .ref (zm Z 0) :: st) (hcat : (st.map fun v => v.category).sum ≤ 8) (hdg : decode cL_law pc = .ok (.invokevirtual index, 3)) (hq : pc + 3 = q) (kk : WL X Z cells slots q σ τ' f lv st) : WL X Z cells slots pc σ τ f lv st' := by
  subst hq; subst hst
  intro H locs ls hl hC hM hO hS
  obtain ⟨C1, C2, C3, C4, C5⟩ := C
  have hK1 := C2.1.sub (tys' := (zM Z).2.1) [0, 1] rfl
  refine va_callv (va_runV (As := As) (rest := st) C1 hMm (cwV n C1.2.2.2.2 (BG_in (wV_in hlk hy)) rfl rfl rfl hd ⟨by rw [C3]; exact hR.1, by rw [C3]; exact hR.2⟩) ⟨PR.blind, va_recv hK1 hM (ci := 11) rfl (wW_get (k := 0) (Nat.le_of_ble_eq_true rfl) rfl), fun U hU hW => ⟨rfl, by rw [hU]; exact hM, va_K.moved hW.alike hK1, by rw [hU]; exact LA.ev hW hS C2.2.2.2.2.1.2 (zM_LA C2)⟩⟩ rfl hn hl.1 rfl (lv_room hcat) hdg ⟨by rw [C3]; exact hcs.1, by rw [C3]; exact hcs.2⟩) hS (fun q _ h => zM_LA C2 q h) (fun q h => zM_LA C2 q h) (fun u t H1 locs1 ht _ hw hB _ hk1 hS1 => ?_)
  subst hw
  exact kk H1 locs1 ls hl (P_off hC hk1 (wW_off (zC_off C2))) (by rw [← ht]; exact hB) (P_off hO hk1 (oE_off (zO_offM C2))) hS1
theorem vx_noX {p : Program} {l : Launch} {e : Env} {R : Room} {s : State} {m : MethodId} {args : Array Value} {below : List Frame} {meth : Method} {c : Code} {H : Heap} {locs : List Loc} {cells slots mc ms : Nat} {g : JFrame} {rest : List Value} {Qa : State → Outcome → State → Prop} {free : Addr → Prop} (h : vx_Run p l e R s m args below meth c H locs cells slots mc ms g rest Qa (fun _ _ _ => False) free) : va_Run p l e R s m args below meth c H locs cells slots mc ms g rest Qa free := fun T hT Y => by
  rcases h T hT Y with h | ⟨_, _, _, _, _, _, _, _, _, _, _, _, h, _⟩
  · exact h
  · exact h.elim
theorem l_callW (C : CL X Z b L xv) {n index maxL fr' lo' rc' c2 s2 : Nat} {As st' : List Value} {y : MethodName} {bytes : ByteArray} {hh : List (Nat × Nat × Nat × Nat)} {r : Int32} {σ' : St} {f' : Nat → Int64} (hMm : MW X.2.1 y (wH y bytes maxL (some .int) hh) fr' lo' rc' Z.1 Z.2.1 (zL Z) Z.2.2.2.2.1 (zo Z) As σ f r σ' f') (hlk : Cond.methodLink RL index y ∈ BG) (hy : Cond.static y ∈ BG ∧ Cond.initialized y.cls ∈ BG ∧ Cond.codeWith y bytes maxL (some .int) hh ∈ BG) (hd : okY y n) (hR : fr' + 1 ≤ 2048 ∧ 8 + (maxL + 11) + lo' ≤ 84000) (hcs : cells + rc' ≤ c2 ∧ slots + 6 * rc' ≤ s2) (hcs2 : c2 ≤ 601024 ∧ s2 ≤ 7293033) (hn : As.length = n) (hst : st' = As.reverse ++ st) (hcat : (st.map fun v => v.category).sum ≤ 8) (hdg : decode cL_law pc = .ok (.invokestatic index, 3)) (hq : pc + 3 = q) (kk : WL X Z c2 s2 q σ' τ f' lv (.int r :: st)) : WL X Z cells slots pc σ τ f lv st' := by
  subst hq; subst hst
  intro H locs ls hl hC hM hO hS
  obtain ⟨C1, C2, C3, C4, C5⟩ := C
  have hK1 := C2.1.sub (tys' := [(Z.2.1, .int), (zL Z, .long)]) [0, 2] rfl
  have hA : ∀ q, AW (zC Z) (zo Z) q → LA (xs X) q := fun q h => h.elim (zC_LA C2 q) (fun e => by rw [e]; exact C2.2.2.1.2.2)
  have hin : ∀ w ∈ va_wsS RL index y (wH y bytes maxL (some .int) hh), w ∈ BG := by
    intro w h
    rcases List.mem_append.mp h with h | h
    · simp only [List.mem_cons, List.not_mem_nil, or_false] at h
      rcases h with rfl | rfl | rfl
      · exact hlk
      · exact hy.1
      · exact hy.2.1
    · exact (List.mem_cons.mp h).elim (fun e => by rw [e]; exact hy.2.2) id
  have hoffM : ∀ k, k < 42 → ¬ AW (zC Z) (zo Z) (zm Z k) := fun k hk h => h.elim (zM_off C2 k hk) (C2.2.2.2.1.2.2 k hk)
  refine va_calli (vx_noX (vx_runSX (As := As) (rest := st) C1 hMm (vx_cwSW n C1.2.2.2.2 (BG_in hin) rfl rfl rfl hd ⟨by rw [C3]; exact hR.1, by rw [C3]; exact hR.2⟩) ⟨PW.blind, fun U hU hW => ⟨rfl, by rw [hU]; exact hC, by rw [hU]; exact hO, va_K.moved hW.alike hK1, by rw [hU]; exact (EVA.go hW hS C2.2.2.2.2.1.1).narrow hA, va_Nc.moved hW.alike C2.2.2.2.2.2⟩⟩ rfl hn hl.1 rfl (lv_room hcat) hdg ⟨by rw [C3]; exact Nat.le_trans hcs.1 hcs2.1, by rw [C3]; exact Nat.le_trans hcs.2 hcs2.2⟩)) hS (fun q _ h => hA q h) (fun q h => hA q h) (fun r' u t H1 locs1 ht _ hw hB _ hk1 hS1 => ?_)
  obtain ⟨rfl, hu⟩ := hw
  subst hu
  obtain ⟨hB1, hB2⟩ := hB
  rw [ht] at hB1 hB2
  exact W.widen hcs.1 hcs.2 (kk H1 locs1 ls hl hB1 (P_off hM hk1 (wW_off hoffM)) hB2 hS1)
end LROWS
