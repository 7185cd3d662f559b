set_option linter.unusedVariables false
set_option linter.unusedSimpArgs false
set_option maxRecDepth 16384
/-! the law from its entry -/
def R_law : String := "DancedPactsLaw"
def lw_P (b : Addr) (xs : List Int32) (args : Array Value) (s : State) : Prop := args = #[.ref b] ∧ s.IntsAt b xs ∧ xs.length ≤ 3072 ∧ (Jvm.Cond.and given_1 narrow_1).before args s = true
def lw_Q (_ : Array Value) (s : State) (o : Outcome) (t : State) : Prop := o = .returned (some (.int 1)) ∧ Framed s o t [] 601024 7293033
def lw_Z (below : List Frame) (a : Array Value) (s : State) : State → Prop := fun t => ∃ o, t.status = .running ∧ Ended t below o ∧ lw_Q a s o t
/-- the law's own end, with 1 on the stack, nothing written that was there before, its room as the claim has it -/
theorem lw_retS {p : Program} {l : Launch} {e : Env} {s : State} {m : MethodId} {below : List Frame} {meth : Method} {c : Code} {b : Nat} (hx : p.tables.exec = Jvm.exec) (hb : c.code = code) (hr : meth.sig.returnType = ret) (hlocks : meth.locks = false) {pc : Nat} {H : Heap} {ls : Array Slot} (hdg : decode code pc = .ok (.ireturn, 1)) : W p l e room_1 s m #[Value.ref b] below meth c H [] 601024 7293033 (lw_Z below #[Value.ref b] s) (F0 m pc ls [.int 1]) := by
  intro T hT X
  obtain ⟨fs, hret, hrun, hended, hW, hframe⟩ := X.leave (v := some (.int 1)) (hlocks := hlocks) (fun h => by rw [hr] at h; cases h)
  have hmeth' : T.vm.method? m = some meth := X.method'
  refine ⟨T.setFrames fs, ?_, .returned (some (.int 1)), hrun, hended, rfl, ⟨_, rfl⟩, hW, hframe⟩
  jvm_step X.here [X.here.top, hx, hb, hdg, hmeth', hr, ret, narrow_b1]
  (try refine ⟨rfl, ?_⟩); (try refine ⟨rfl, ?_⟩)
  first | (intro acts; rw [hret _ acts rfl rfl rfl]) | rw [hret _ _ rfl rfl rfl]
  exact Steps.refl _
/-- what holds at the law's entry: the machine, the code, the tables' words (any of lw_tbl by 'hts w (by decide +kernel)'), the script of L ints xs at the cell b, what the Statement gives of the start (any of its parts by flat_of_before) -/
def lw_At (p : Program) (s : State) (m : MethodId) (meth : Method) (c : Code) (b L : Nat) (xs : Nat → Int32) : Prop :=
  p.tables.exec = Jvm.exec ∧ c.code = code ∧ meth.sig.returnType = ret ∧ c.maxLocals = 7 ∧ s.vm.findClass R_law = some m.cls ∧ (∀ w ∈ lw_tbl, w.before #[Value.ref b] s = true) ∧ va_X b L xs s s.heap ∧ b < s.heap.size ∧ meth.locks = false ∧ (Jvm.Cond.and given_1 narrow_1).before #[Value.ref b] s = true
theorem P_left {D : va_G} {cl : List vw_C} {a b : va_W} {H : Heap} (h : va_P D cl (a ++ b) H) : va_P D cl a H := fun k q hk => h k q (by rw [List.getElem?_append_left (List.getElem?_eq_some_iff.mp hk).1]; exact hk)
theorem P_right {D : va_G} {cl : List vw_C} {a b : va_W} {H : Heap} (h : va_P D cl (a ++ b) H) : va_P D cl b H := fun k q hk => h (a.length + k) q (by rw [List.getElem?_append_right (Nat.le_add_right _ _), Nat.add_sub_cancel_left]; exact hk)
theorem D_left {A : Nat → Prop} {a b : va_W} (h : va_D A (a ++ b)) : va_D A a := by
  have e : ∀ (k : Nat) (q : Nat × va_E), a[k]? = some q → (a ++ b)[k]? = some q := fun k q hk => by rw [List.getElem?_append_left (List.getElem?_eq_some_iff.mp hk).1]; exact hk
  exact ⟨fun i j p q hi hj he => h.1 i j p q (e i p hi) (e j q hj) he, fun k q hk => h.2 k q (e k q hk)⟩
theorem D_right {A : Nat → Prop} {a b : va_W} (h : va_D A (a ++ b)) : va_D A b := by
  have e : ∀ (k : Nat) (q : Nat × va_E), b[k]? = some q → (a ++ b)[a.length + k]? = some q := fun k q hk => by rw [List.getElem?_append_right (Nat.le_add_right _ _), Nat.add_sub_cancel_left]; exact hk
  exact ⟨fun i j p q hi hj he => by have := h.1 _ _ p q (e i p hi) (e j q hj) he; omega, fun k q hk => h.2 _ q (e k q hk)⟩
theorem D_apart {A : Nat → Prop} {a b : va_W} (h : va_D A (a ++ b)) {i j : Nat} {p q : Nat × va_E} (hi : a[i]? = some p) (hj : b[j]? = some q) : p.1 ≠ q.1 := by
  intro he
  have hl := (List.getElem?_eq_some_iff.mp hi).1
  have := h.1 i (a.length + j) p q (by rw [List.getElem?_append_left hl]; exact hi) (by rw [List.getElem?_append_right (Nat.le_add_right _ _), Nat.add_sub_cancel_left]; exact hj) he
  omega
theorem one_free {A : Nat → Prop} {pre : va_W} {n : Nat × va_E} {H0 H : Heap} {locs : List Loc} (hD : va_D A (pre ++ [n])) (hS : va_S A H0 H locs) (hA : ∀ q, H0.size ≤ q → A q) : ∀ q, va_A [n] H.size q → A q := by
  intro q hq
  rcases hq with ⟨k, e, hk⟩ | hq
  · exact hD.2 (pre.length + k) (q, e) (by rw [List.getElem?_append_right (Nat.le_add_right _ _), Nat.add_sub_cancel_left]; exact hk)
  · exact hA q (Nat.le_trans hS.1 hq)
theorem KM.blind {D : va_G} {tys : List (ClassId × FieldType)} {sk : Nat → Nat} {av : List Value} {sz a cj : Nat} {gs : List Value} : FrameBlind (va_Pc av (fun U => U.heap.size = sz ∧ va_P D vwCl [kE a cj gs] U.heap ∧ va_K D vwCl tys U ∧ NK U ∧ va_AO "java/lang/String" U ∧ (∀ q ∈ strR, vk_R q.1 q.2.1 q.2.2.1 (sk q.2.2.2) U) ∧ (∀ i, i < 17 → va_O "java/lang/String" (sk i) (va_A [kE a cj gs] sz) U U.heap))) := fun b U g mk h => ⟨h.1, h.2.1, h.2.2.1, va_K.moved (u := U) (U := U.calling g mk b) (Vm.Alike.refl U.vm) h.2.2.2.1, NK.same (u := U) (U := U.calling g mk b) rfl h.2.2.2.2.1, va_AO.moved (u := U) (U := U.calling g mk b) (Vm.Alike.refl U.vm) h.2.2.2.2.2.1, fun q hq => vk_R.same (u := U) (U := U.calling g mk b) rfl (h.2.2.2.2.2.2.1 q hq), fun i hi => va_O.moved (u := U) (U := U.calling g mk b) (Vm.Alike.refl U.vm) (h.2.2.2.2.2.2.2 i hi)⟩
set_option maxHeartbeats 4000000 in
set_option maxRecDepth 100000 in
theorem whole_start {p : Program} {e : Env} {s : State} {m : MethodId} {below : List Frame} {meth : Method} {c : Code} (l : Launch) (hst : l.stackTraces = false) {b L : Nat} {xs : Nat → Int32} (hL : L ≤ 3072) (C0 : lw_At p s m meth c b L xs) : W p l e room_1 s m #[Value.ref b] below meth c s.heap [] 0 0 (lw_Z below #[Value.ref b] s) (entryFrame m ([Value.ref b] : List Value).toArray 7) := by
  obtain ⟨hx, hb, hr, hml, hown, hts, hX, hbl, hlocks, hgv⟩ := id C0
  have hB : ∀ w ∈ BG, w.before #[Value.ref b] s = true := fun w h => hts w (BG_tbl w h)
  obtain ⟨e1, e2, e3, hNK, hAO, hXE⟩ := E_tab hts hgv
  obtain ⟨D, cI, cT, cL, hK⟩ := K_start hB hAO
  obtain ⟨o, hR, hSt, hEV⟩ := EVA_start hts hgv
  have hA : ∀ q : Nat, s.heap.size ≤ q → LA s q := fun _ h => h
  have C1 : CallFix p m c cL_law 7 s #[Value.ref b] BG RL := ⟨hx, hb, hml, hown, hB⟩
  have hS : va_S (LA s) s.heap s.heap [] := va_S.rf
  have hP : va_P D vwCl [] s.heap := fun k q h => by simp at h
  have hD : va_D (LA s) [] := ⟨fun i j p q h => by simp at h, fun k q h => by simp at h⟩
  have hK1 : va_K D vwCl [(cI, .int)] s := hK.sub [0] rfl
  have hK2 : va_K D vwCl [(cI, .int), (cT, .object "java/lang/String")] s := hK.sub [0, 1] rfl
  have hl := lv_entry ([.ref b]) (n := 7) (Nat.le_of_ble_eq_true rfl)
  rw [lg_entry_eq]
  generalize (lg_sl ([.ref b]) ++ List.replicate (7 - (lg_sl ([.ref b])).length) Slot.unset).toArray = ls at hl ⊢
  have hl : lv_has ls 7 [(0, .ref b)] := hl
  refine va_new (D := D) (tys := [(cI, .int)]) (ci := 10) (fs := [.null, .int 0, .int 0, .int 0, .null, .null, .null, .null, .null, .null, .null, .null, .null, .null, .null]) (C := RX10) (T := TX10) (N := 15) hx hb hB inB_X10 tyX10 tyX10_ok hown (hts (.classLink RL 8 RX10) (by decide +kernel)) (hB _ inst_X10) (hts (.initialized RX10) (by decide +kernel)) hK1 hP hD hS hA rfl kdef_X10 (Nat.le_of_ble_eq_true rfl) (Nat.le_of_ble_eq_true rfl) dL_law_0 (fun q0 H hP hD hS => ?_)
  refine lv_dup hx hb dL_law_3 rfl ?_
  have hF := one_free hD hS hA
  refine va_callv (va_runI (As := []) (rest := [.ref q0]) C1 (kcX10 D cI q0 H.size) (cwI 0 hB (BG_in (wB_in ki_X10.2.2)) rfl rfl rfl (hB _ ki_X10.2.1) (hts (.methodLink RL 94 yX10_init) (by decide +kernel)) (hB _ ki_X10.1) rfl (by decide +kernel) ⟨Nat.le_of_ble_eq_true rfl, Nat.le_of_ble_eq_true rfl⟩) ⟨KC.blind, fun U hU hW => ⟨rfl, by rw [hU], by rw [hU]; exact hP, va_K.moved hW.alike hK1, NK.go hW hNK⟩⟩ rfl rfl hl.1 rfl (lv_room (Nat.le_of_ble_eq_true rfl)) dL_law_4 ⟨Nat.le_of_ble_eq_true rfl, Nat.le_of_ble_eq_true rfl⟩) hS (fun q _ h => hF q h) hF (fun u0 t H1 locs ht _ _ hB1 _ hk1 hS => ?_)
  obtain ⟨hB1, hB2⟩ := hB1
  rw [ht] at hB1
  obtain ⟨hP, hD⟩ := jn_end hP hD hk1 hF hB1 hB2
  refine lv_astore_n (lv' := [(1, .ref q0), (0, .ref b)]) hx hb dL_law_7 rfl hl (by decide) rfl (fun ls hl => ?_)
  refine va_new (D := D) (tys := [(cI, .int), (cT, .object "java/lang/String")]) (ci := 11) (fs := [.null, .null, .null, .null, .int 0, .null, .null, .null, .null, .null, .null, .null, .null, .null, .null, .null, .null, .null, .int 0, .int 0, .int 0, .int 0, .int 0, .int 0, .int 0, .int 0, .int 0, .int 0, .null, .null, .null, .int 0, .int 0, .int 0, .int 0, .null, .null, .null, .int 0, .null, .null, .null, .null, .null, .null, .null, .null, .null, .int 0, .null, .int 0, .int 0, .int 0, .null, .null, .null, .null, .null, .null, .null, .null]) (C := RX11) (T := TX11) (N := 61) hx hb hB inB_X11 tyX11 tyX11_ok hown (hts (.classLink RL 95 RX11) (by decide +kernel)) (hB _ inst_X11) (hts (.initialized RX11) (by decide +kernel)) hK2 hP hD hS hA rfl kdef_X11 (Nat.le_of_ble_eq_true rfl) (Nat.le_of_ble_eq_true rfl) dL_law_8 (fun q1 H hP hD hS => ?_)
  refine lv_dup hx hb dL_law_11 rfl ?_
  have hF := one_free hD hS hA
  have hP1 := P_right hP
  refine va_callv (va_runI (As := []) (rest := [.ref q1]) C1 (kmX11 D cI cT (fun i => o (1100 + i)) q1 H.size) (cwI 0 hB (BG_in (wB_in ki_X11.2.2)) rfl rfl rfl (hB _ ki_X11.2.1) (hts (.methodLink RL 97 yX11_init) (by decide +kernel)) (hB _ ki_X11.1) rfl (by decide +kernel) ⟨Nat.le_of_ble_eq_true rfl, Nat.le_of_ble_eq_true rfl⟩) ⟨KM.blind (sk := fun i => o (1100 + i)), fun U hU hW => ⟨rfl, by rw [hU], by rw [hU]; exact hP1, va_K.moved hW.alike hK2, NK.go hW hNK, va_AO.moved hW.alike hAO, fun q hq => (hR q hq).warm hW, fun i hi => by rw [hU]; exact ((((hSt i hi).kept hS.2.1).moved hW.alike).narrow hF)⟩⟩ rfl rfl hl.1 rfl (lv_room (Nat.le_of_ble_eq_true rfl)) dL_law_12 ⟨Nat.le_of_ble_eq_true rfl, Nat.le_of_ble_eq_true rfl⟩) hS (fun q _ h => hF q h) hF (fun u1 t H1 locs ht _ _ hB1 _ hk1 hS => ?_)
  obtain ⟨hB1, hB2⟩ := hB1
  rw [ht] at hB1
  obtain ⟨hP, hD⟩ := jn_end hP hD hk1 hF hB1 hB2
  refine lv_astore_n (lv' := [(2, .ref q1), (1, .ref q0), (0, .ref b)]) hx hb dL_law_15 rfl hl (by decide) rfl (fun ls hl => ?_)
  refine lv_iconst (v := 1) hx hb dL_law_16 (by decide) ?_
  refine va_newa (atype := .long) (D := D) (tys := [(cI, .int), (cT, .object "java/lang/String"), (cL, .long)]) (ty := .long) (a0 := (1, .inr (.inl (fun _ => 0)))) hx hb (hts (.arrayClass .long) (by decide +kernel)) rfl hK hP hD hS hA (fun cA => rfl) (N' := 1) (by decide) rfl (Nat.le_of_ble_eq_true rfl) (Nat.le_of_ble_eq_true rfl) (Nat.le_of_ble_eq_true rfl) dL_law_17 (fun q3 cA H hK3 hP hD hS => ?_)
  have f1 : s.vm.findClass ("[" ++ FieldType.long.toString) = some cA := (hK3.2 3 (cA, .long) rfl).2
  have f2 : s.vm.findClass ("[" ++ FieldType.long.toString) = some cL := (hK.2 2 _ rfl).2
  cases Option.some.inj (f1.symm.trans f2)
  refine lv_astore_n (lv' := [(3, .ref q3), (2, .ref q1), (1, .ref q0), (0, .ref b)]) hx hb dL_law_19 rfl hl (by decide) rfl (fun ls hl => ?_)
  have hPC := P_left (P_left hP)
  have hPM := P_right (P_left hP)
  have hPO := P_right hP
  have hDC := D_left (D_left hD)
  have hDM := D_right (D_left hD)
  have hDO := D_right hD
  rw [List.nil_append, kpC_eq D cI q0 u0 o] at hPC hDC
  rw [kpM_eq D cI cT q1 u1 o] at hPM hDM
  obtain ⟨gC1, gC2⟩ := D_wW hDC
  obtain ⟨gM1, gM2⟩ := D_meS hDM
  have hD2 := hD
  rw [List.nil_append, kpC_eq D cI q0 u0 o, kpM_eq D cI cT q1 u1 o] at hD2
  have oEq : ∀ k, 1000 ≤ k → adK q0 u0 o k = o k := fun k hk => adK_o (by omega)
  have oEq1 : ∀ k, 1000 ≤ k → adK q1 u1 o k = o k := fun k hk => adK_o (by omega)
  let Z : ZT := (D, cI, cT, cL, adK q0 u0 o, adK q1 u1 o, q3)
  let X : XT := (p, l, e, room_1, s, m, #[Value.ref b], below, meth, c, lw_Z below #[Value.ref b] s)
  have hLS : LSt Z s := by
    refine ⟨hK, ⟨gC1, gM1⟩, ⟨gC2, gM2, hDO.2 0 _ rfl⟩, ⟨fun i hi j hj => ?_, fun i hi => ?_, fun j hj => ?_⟩, ⟨hEV _ oEq, hEV _ oEq1⟩, hXE⟩
    · obtain ⟨e5, h5⟩ := meS_at (D := D) (cI := cI) (cT := cT) (h0 := q1) (u := u1) (o := o) (k := j) hj
      exact D_apart (D_left hD2) (wW_get (G := gC D cI (adK q0 u0 o)) (σ := s0C) (k := i) hi rfl) h5
    · exact D_apart hD2 (i := i) (j := 0) (by rw [List.getElem?_append_left (by rw [wW_len]; exact hi)]; exact wW_get (G := gC D cI (adK q0 u0 o)) (σ := s0C) (k := i) hi rfl) rfl
    · obtain ⟨e5, h5⟩ := meS_at (D := D) (cI := cI) (cT := cT) (h0 := q1) (u := u1) (o := o) (k := j) hj
      exact D_apart hD2 (i := (wW (gC D cI (adK q0 u0 o)) s0C).length + j) (j := 0) (by rw [List.getElem?_append_right (Nat.le_add_right _ _), Nat.add_sub_cancel_left]; exact h5) rfl
  have CX : CL X Z b L xs := ⟨C1, hLS, rfl, hX, hbl⟩
  have kret : ∀ (σ τ : St) (f : Nat → Int64) (i4 : Int32), WL X Z 601024 7293033 2068 σ τ f (lvL Z b i4) [] := by
    intro σ τ f i4 H locs ls h hC hM hO hS
    refine lv_iconst (v := 1) hx hb dL_law_2068 (by decide) ?_
    exact va_forget (fun q hq => hS.2.2 q hq) (lw_retS hx hb hr hlocks dL_law_2069)
  have hloop := law_loop CX hst hL (sim_all (F := 6000) (Nat.le_refl _)) kret L 0 s0C s0M (fun _ => 0) (by omega) (by omega) Rl0
  have hgo : WL X Z 131 18958 20 s0C s0M (fun _ => 0) [(3, .ref q3), (2, .ref q1), (1, .ref q0), (0, .ref b)] [] := by
    refine l_iconst CX 0 (by decide) dL_law_20 rfl ?_
    refine l_istore CX [(4, .int 0), (3, .ref q3), (2, .ref q1), (1, .ref q0), (0, .ref b)] (by decide) rfl dL_law_21 rfl ?_
    exact l_sub [4, 3, 2, 1, 0] (lv' := lvL Z b 0) rfl hloop
  exact hgo H locs ls hl hPC (P_meS hPM) hPO hS
