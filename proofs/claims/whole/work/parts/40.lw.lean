/-! THE LAW'S WRAPPERS: out[0] = x.m(..), or which exception -/
abbrev oE (ao : Nat) (cL : ClassId) (f : Nat → Int64) : va_W := [(ao, .inl (cL, 1, .inr (.inl f)))]
def AW (G : GT) (ao : Nat) : Nat → Prop := fun q => AA G q ∨ q = ao
/-- what the start says besides of classes that can't be cast -/
def XE (U : State) : Prop := va_Nc cIAE cNSE U
def PW (D : va_G) (cI cL : ClassId) (ad : Nat → Nat) (ao : Nat) (σ : St) (f : Nat → Int64) (U : State) : Prop := va_P D vwCl (wW (gC D cI ad) σ) U.heap ∧ va_P D vwCl (oE ao cL f) U.heap ∧ va_K D vwCl [(cI, .int), (cL, .long)] U ∧ EVA (gC D cI ad) (AW (gC D cI ad) ao) U U.heap ∧ XE U
abbrev wH (y : MethodName) (bytes : ByteArray) (maxL : Nat) (ret : Option FieldType) (hh : List (Nat × Nat × Nat × Nat)) : List Cond := Cond.codeWith y bytes maxL ret hh :: BG
def MW (l : Launch) (y : MethodName) (ws : List Cond) (fr lo rc : Nat) (D : va_G) (cI cL : ClassId) (ad : Nat → Nat) (ao : Nat) (av : List Value) (σ : St) (f : Nat → Int64) (k : Int32) (σ' : St) (f' : Nat → Int64) : Prop :=
  vx_Met l y ws (rmK fr lo rc) (va_Pc av (PW D cI cL ad ao σ f)) (va_Qi (fun x (u : St × (Nat → Int64)) => x = k ∧ u = (σ', f')) (fun u t => va_P D vwCl (wW (gC D cI ad) u.1) t.heap ∧ va_P D vwCl (oE ao cL u.2) t.heap) (AW (gC D cI ad) ao)) (fun _ _ _ => False) rc (6 * rc) (AW (gC D cI ad) ao)
theorem PW.blind {D : va_G} {cI cL : ClassId} {ad : Nat → Nat} {ao : Nat} {σ : St} {f : Nat → Int64} {av : List Value} : FrameBlind (va_Pc av (PW D cI cL ad ao σ f)) := fun a U g mk h => ⟨h.1, h.2.1, h.2.2.1, va_K.moved (u := U) (U := U.calling g mk a) (Vm.Alike.refl U.vm) h.2.2.2.1, EVA.same (u := U) (U := U.calling g mk a) rfl h.2.2.2.2.1, va_Nc.moved (u := U) (U := U.calling g mk a) (Vm.Alike.refl U.vm) h.2.2.2.2.2⟩
theorem oE_D {A : Nat → Prop} {ao : Nat} {cL : ClassId} {f : Nat → Int64} (h : A ao) : va_D A (oE ao cL f) := ⟨fun i j p q hi hj _ => by
    have h1 : i < 1 := by simpa using (List.getElem?_eq_some_iff.mp hi).1
    have h2 : j < 1 := by simpa using (List.getElem?_eq_some_iff.mp hj).1
    omega, fun k q hk => by
    have h1 : k < 1 := by simpa using (List.getElem?_eq_some_iff.mp hk).1
    have h2 : k = 0 := by omega
    subst h2
    simp at hk
    rw [← hk]; exact h⟩
/-- a world whose cells aren't among those that a callee may change -/
theorem P_off {D : va_G} {ws : va_W} {A1 : Nat → Prop} {H H1 : Heap} (hP : va_P D vwCl ws H) (hk : ∀ q : Nat, q < H.size → ¬ A1 q → H1[q]? = H[q]?) (hoff : ∀ (k : Nat) (q : Nat × va_E), ws[k]? = some q → ¬ A1 q.1) : va_P D vwCl ws H1 := hP.kept (fun k q h => hk q.1 (hP k q h).lt (hoff k q h))
theorem oE_off {A1 : Nat → Prop} {ao : Nat} {cL : ClassId} {f : Nat → Int64} (h : ¬ A1 ao) : ∀ (k : Nat) (q : Nat × va_E), (oE ao cL f)[k]? = some q → ¬ A1 q.1 := fun k q hk => by
  have h1 : k < 1 := by simpa using (List.getElem?_eq_some_iff.mp hk).1
  have h2 : k = 0 := by omega
  subst h2
  simp at hk
  rw [← hk]; exact h
theorem wW_at {G : GT} {σ : St} {k : Nat} {q : Nat × va_E} (h : (wW G σ)[k]? = some q) : k < G.2.2.1 ∧ q.1 = gad G k := by
  simp only [wW, List.getElem?_map, Option.map_eq_some_iff] at h
  obtain ⟨a, ha, rfl⟩ := h
  obtain ⟨h1, h2⟩ := List.getElem?_eq_some_iff.mp ha
  rw [List.getElem_range] at h2
  rw [List.length_range] at h1
  subst h2
  exact ⟨h1, rfl⟩
theorem wW_off {G : GT} {σ : St} {A1 : Nat → Prop} (h : ∀ k, k < G.2.2.1 → ¬ A1 (gad G k)) : ∀ (k : Nat) (q : Nat × va_E), (wW G σ)[k]? = some q → ¬ A1 q.1 := fun k q hk => by
  obtain ⟨h1, h2⟩ := wW_at hk
  rw [h2]; exact h k h1
section LW
variable {p : Program} {l : Launch} {e : Env} {R : Room} {s : State} {m : MethodId} {args : Array Value} {below : List Frame} {meth : Method} {c : Code} {H : Heap} {locs : List Loc} {cells slots : Nat} {Q : State → Prop} {cc : ByteArray} {nL : Nat} {own : String} {D : va_G} {cI cL : ClassId} {ad : Nat → Nat} {ao : Nat} {σ : St} {f : Nat → Int64} {ls : Array Slot} {rest : List Value} {pc : Nat}
/-- x.m(..) out of a wrapper: it answers, or it throws -/
theorem lw_call (C1 : CallFix p m c cc nL s args BG own) (hK : va_K D vwCl [(cI, .int), (cL, .long)] s) (hE : EVA (gC D cI ad) (AW (gC D cI ad) ao) s s.heap) (hao : ∀ k, k < 88 → ad k ≠ ao) (hls : ls.size = nL) (hP : va_P D vwCl (wW (gC D cI ad) σ) H) (hO : va_P D vwCl (oE ao cL f) H) (hS : va_S (AW (gC D cI ad) ao) s.heap H locs)
    {y : MethodName} {bytes : ByteArray} {maxL n index fr' lo' rc' : Nat} {ret : Option FieldType} {As st' : List Value} {res : Nat × Int32 × St}
    (hM : MX l y (wB y bytes maxL ret) fr' lo' rc' (gC D cI ad) (.ref (ad 0) :: As) σ res) (hlk : Cond.methodLink own index y ∈ BG) (hy : Cond.instanceMethod y ∈ BG ∧ Cond.selects RX10 y y ∈ BG ∧ Cond.initialized RX10 ∈ BG ∧ Cond.code y bytes maxL ret ∈ BG) (hd : y.cls = RX10 ∧ okY y n) (hR : fr' + 1 ≤ R.frames ∧ 8 + (maxL + 11) + lo' ≤ R.locals) (hR2 : cells + rc' ≤ R.cells ∧ slots + 6 * rc' ≤ R.slots) (hn : As.length = n) (hst : st' = As.reverse ++ .ref (ad 0) :: rest) (hcat : (rest.map fun v => v.category).sum ≤ 8) (hdg : decode cc pc = .ok (.invokevirtual index, 3))
    (kx : ∀ (E : String) (cd : Nat) (u : St) (H1 : Heap) (locs1 : List Loc) (ce : Cell) (q9 : Addr), exC E cd → res = (cd, 0, u) → va_P D vwCl (wW (gC D cI ad) u) H1 → va_P D vwCl (oE ao cL f) H1 → va_S (AW (gC D cI ad) ao) s.heap H1 locs1 → H1[q9]? = some ce → ce.vm = .none → s.vm.findClass E = some ce.cls → vx_W p l e R s m args below meth c H1 locs1 (cells + rc') (slots + 6 * rc') Q (F0 m pc ls rest) q9)
    (kk : ∀ (r : Int32) (u : St) (H1 : Heap) (locs1 : List Loc), res = (0, r, u) → va_P D vwCl (wW (gC D cI ad) u) H1 → va_P D vwCl (oE ao cL f) H1 → va_S (AW (gC D cI ad) ao) s.heap H1 locs1 → W p l e R s m args below meth c H1 locs1 (cells + rc') (slots + 6 * rc') Q (F0 m (pc + 3) ls (.int r :: rest))) : W p l e R s m args below meth c H locs cells slots Q (F0 m pc ls st') := by
  subst hst
  have hK1 : va_K D vwCl [(cI, .int)] s := hK.sub [0] rfl
  have hoff : ¬ AA (gC D cI ad) ao := fun ⟨k, hk, he⟩ => hao k hk he.symm
  refine vx_calli (vx_runV (As := As) (rest := rest) C1 hM (cwV n C1.2.2.2.2 (BG_in (wV_in hlk hy)) rfl rfl rfl hd hR) ⟨PR.blind, va_recv hK1 hP (ci := 10) rfl (wW_get (k := 0) (Nat.le_of_ble_eq_true rfl) rfl), fun U hU hW => ⟨rfl, ?_⟩⟩ rfl hn hls rfl (lv_room hcat) hdg hR2) hS (fun q _ h => Or.inl h) (fun q h => Or.inl h) (fun q _ h => Or.inl h) ?_ ?_
  · exact ⟨by rw [hU]; exact hP, va_K.moved hW.alike hK1, by rw [hU]; exact (EVA.go hW hS hE).narrow (fun q h => Or.inl h)⟩
  · intro E ce q9 u t H1 locs1 ht _ hu hB _ hk1 hS1 hce hcv hcl
    obtain ⟨cd, hcd⟩ := hu
    exact kx E cd u H1 locs1 ce q9 (hB.1 cd hcd) hcd (by rw [← ht]; exact hB.2) (P_off hO hk1 (oE_off hoff)) hS1 hce hcv hcl
  · intro r u t H1 locs1 ht _ hw hB _ hk1 hS1
    exact kk r u H1 locs1 hw (by rw [← ht]; exact hB) (P_off hO hk1 (oE_off hoff)) hS1
theorem cons_P {q : Nat × va_E} {ws : va_W} (h1 : va_P D vwCl [q] H) (h2 : va_P D vwCl ws H) : va_P D vwCl (q :: ws) H := fun k x hk => by
  cases k with
  | zero => exact h1 0 x hk
  | succ k => exact h2 k x hk
theorem cons_D {A : Nat → Prop} {q : Nat × va_E} {ws : va_W} (h0 : A q.1) (h : va_D A ws) (hne : ∀ (k : Nat) (x : Nat × va_E), ws[k]? = some x → x.1 ≠ q.1) : va_D A (q :: ws) := by
  refine ⟨fun i j a b hi hj he => ?_, fun k x hk => ?_⟩
  · cases i with
    | zero =>
      cases j with
      | zero => rfl
      | succ j => cases Option.some.inj hi; exact absurd he.symm (hne j b hj)
    | succ i =>
      cases j with
      | zero => cases Option.some.inj hj; exact absurd he (hne i a hi)
      | succ j => rw [h.1 i j a b hi hj he]
  · cases k with
    | zero => cases Option.some.inj hk; exact h0
    | succ k => exact h.2 k x hk
theorem lw_last (hx : p.tables.exec = Jvm.exec) (hb : c.code = cc) (hK : va_K D vwCl [(cI, .int), (cL, .long)] s) (had : gAp (gC D cI ad)) (hao : ∀ k, k < 88 → ad k ≠ ao) {x : Int64} (hP : va_P D vwCl (wW (gC D cI ad) σ) H) (hO : va_P D vwCl (oE ao cL f) H) (hS : va_S (AW (gC D cI ad) ao) s.heap H locs) (hdg : decode cc pc = .ok (.lastore, 1))
    (kk : ∀ (H1 : Heap) (locs1 : List Loc), va_P D vwCl (wW (gC D cI ad) σ) H1 → va_P D vwCl (oE ao cL (vp_updL f 0 x)) H1 → va_S (AW (gC D cI ad) ao) s.heap H1 locs1 → W p l e R s m args below meth c H1 locs1 cells slots Q (F0 m (pc + 1) ls rest)) : W p l e R s m args below meth c H locs cells slots Q (F0 m pc ls (.long x :: .int 0 :: .ref ao :: rest)) := by
  have hD : va_D (AW (gC D cI ad) ao) ((ao, .inl (cL, 1, .inr (.inl f))) :: wW (gC D cI ad) σ) := by
    refine cons_D (Or.inr rfl) ?_ (fun k x hk => ?_)
    · have h9 := wW_D (σ := σ) had
      exact ⟨h9.1, fun k q hk => Or.inl (h9.2 k q hk)⟩
    · obtain ⟨h1, h2⟩ := wW_at hk
      rw [h2]; exact hao k h1
  refine va_last (D := D) (tys := [(cI, .int), (cL, .long)]) hx hb hK (cons_P hO hP) hD hS 0 1 rfl rfl (by show ¬ (_ ∨ _); decide) hdg (fun H1 locs1 hP1 _ hS1 => kk H1 locs1 (fun k q hk => hP1 (k + 1) q hk) (fun k q hk => ?_) hS1)
  have hk0 : k = 0 := by
    have : k < 1 := by simpa using (List.getElem?_eq_some_iff.mp hk).1
    omega
  subst hk0
  exact hP1 0 q hk
theorem lw_ret {rc : Nat} {σ' : St} {f' : Nat → Int64} {k k0 : Int32} {σ0 : St} {f0 : Nat → Int64} {XC : String → State → State → Prop} (hx : p.tables.exec = Jvm.exec) (hb : c.code = cc) (hr : meth.sig.returnType = some .int) (hlocks : meth.locks = false) (hP : va_P D vwCl (wW (gC D cI ad) σ') H) (hO : va_P D vwCl (oE ao cL f') H) (hS : va_S (AW (gC D cI ad) ao) s.heap H locs) (hk : k = k0) (hs : σ' = σ0) (hf : f' = f0) (hc : cells ≤ rc ∧ slots ≤ 6 * rc) (hdg : decode cc pc = .ok (.ireturn, 1)) :
    W p l e R s m args below meth c H locs cells slots (vx_MQ below (va_Qi (fun x (u : St × (Nat → Int64)) => x = k0 ∧ u = (σ0, f0)) (fun u t => va_P D vwCl (wW (gC D cI ad) u.1) t.heap ∧ va_P D vwCl (oE ao cL u.2) t.heap) (AW (gC D cI ad) ao)) XC args s rc (6 * rc) (AW (gC D cI ad) ao)) (F0 m pc ls [.int k]) := by
  subst hk; subst hs; subst hf
  exact W.widen (k := rc) (n := 6 * rc) hc.1 hc.2 (vx_ret (W.iret hx hb hr (fun t ht hW => ⟨⟨k, (σ', f'), rfl, ⟨rfl, rfl⟩, by show va_P _ _ _ _ ∧ va_P _ _ _ _; rw [ht]; exact ⟨hP, hO⟩⟩, hS.F ht⟩) hS.2.2 hdg hlocks))
theorem mk_MW {y : MethodName} {maxL fr lo rc : Nat} {hh : List (Nat × Nat × Nat × Nat)} {av : List Value} {k : Int32} {σ' : St} {f' : Nat → Int64} (hy : plainName y.cls = true) (hlen : (lg_sl av).length ≤ maxL)
    (body : ∀ (p : Program) (e : Env) (s : State) (m : MethodId) (below : List Frame) (meth : Method) (c : Code) (ls : Array Slot), CallFix p m c cc maxL s av.toArray BG y.cls → c.exceptionTable.toList = tableOf hh → va_K D vwCl [(cI, .int), (cL, .long)] s → EVA (gC D cI ad) (AW (gC D cI ad) ao) s s.heap → XE s → meth.sig.returnType = some .int → meth.locks = false → lv_has ls maxL (lv_args 0 av) → va_P D vwCl (wW (gC D cI ad) σ) s.heap → va_P D vwCl (oE ao cL f) s.heap →
      W p l e (rmK fr lo rc) s m av.toArray below meth c s.heap [] 0 0 (vx_MQ below (va_Qi (fun x (u : St × (Nat → Int64)) => x = k ∧ u = (σ', f')) (fun u t => va_P D vwCl (wW (gC D cI ad) u.1) t.heap ∧ va_P D vwCl (oE ao cL u.2) t.heap) (AW (gC D cI ad) ao)) (fun _ _ _ => False) av.toArray s rc (6 * rc) (AW (gC D cI ad) ao)) (F0 m 0 ls [])) :
    MW l y (wH y cc maxL (some .int) hh) fr lo rc D cI cL ad ao av σ f k σ' f' := by
  refine vx_ofWH (cc := cc) (maxL := maxL) (ret := some .int) (hh := hh) hy rfl ?_
  intro p e s m args below meth c s₁ B hml hv
  obtain ⟨rfl, hP, hO, hK, hE, hX⟩ := hv
  have hts := fun w (hw : w ∈ BG) => atoms_spec (ws := wH y cc maxL (some .int) hh) B.pre w (List.mem_cons_of_mem _ hw)
  have hown : s.vm.findClass y.cls = some m.cls := findClass_of_methodNamed B.named
  have htab := vx_table (x := y) B (atoms_spec (ws := wH y cc maxL (some .int) hh) B.pre _ List.mem_cons_self)
  have hl := lv_entry av (n := maxL) hlen
  rw [lg_entry_eq]
  generalize (lg_sl av ++ List.replicate (maxL - (lg_sl av).length) Slot.unset).toArray = ls at hl ⊢
  exact body p e s m below meth c ls ⟨B.exec, B.bytes, hml, hown, hts⟩ htab hK hE hX B.returns B.notSynchronized hl hP hO
end LW
